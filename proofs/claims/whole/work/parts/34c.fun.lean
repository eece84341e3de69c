/-! FUNCTIONS FOR METHODS, by wip/whole/funs.py: F_Mod_init, F_Mod_thrown, F_Mod_feed, F_Mod_in, F_Mod_bad, F_Mod_byteAt, F_Mod_blanks, F_Mod_starts, F_Mod_isSmall, F_Mod_wordHere, F_Mod_six, F_Mod_isWord, F_Mod_kindHere, F_Mod_wrong, F_Mod_mostOf, F_Mod_skipWord, F_Mod_isDigit, F_Mod_number, F_Mod_sign, F_Mod_clause, F_Mod_ends, F_Mod_town, F_Mod_opensOne, F_Mod_notes, F_Mod_takes, F_Mod_knownHere, F_Mod_one, F_Mod_takesSign, F_Mod_product, F_Mod_sum, F_Mod_law, F_Mod_has, F_Mod_book, F_Mod_fault, F_Mod_stepHere, F_Mod_readsStep, F_Mod_copies, F_Mod_laysOn, F_Mod_windIn, F_Mod_standsBy, F_Mod_standsOf, F_Mod_isRain, F_Mod_smokeFrom, F_Mod_smokeAt, F_Mod_scentAt, F_Mod_less, F_Mod_more, F_Mod_by, F_Mod_byLaw, F_Mod_isShutBy, F_Mod_isShut, F_Mod_shutBits, F_Mod_burns, F_Mod_hourEnds, F_Mod_does, F_Mod_goes, F_Mod_work, F_Mod_undo, F_Mod_logsIn, F_Mod_ones, F_Mod_told -/
noncomputable def jM_165 : JMeth := (11, true, 0, jk_165, [], 2)
set_option maxRecDepth 100000 in
theorem jM_165_at : jt_Ms 165 = some jM_165 := rfl
noncomputable def F_Mod_init_c297 (k297 : Nat → Int32 → LH → Option LH) (l0 : Nat) (l1 : Int32) (h : LH) : Option LH :=
 if l1 < (6 : Int32) then
 jf_gr h l0 11 11 fun v2 =>
 jf_is h v2 l1 (0 : Int32) fun h3 =>
 k297 l0 (l1 + (1 : Int32)) h3
else
 jf_kd h l0 11
 ((F_Mod_beginsAnew l0 h).bind fun h1 =>
 some h1)
set_option maxRecDepth 100000 in
theorem F_Mod_init_c297_ok {d : Nat} {q : LH} {k297 : Nat → Int32 → LH → Option LH} (hd : 2 ≤ d) (hk297 : ∀ (l0 : Nat) (l1 : Int32) (h : LH), k297 l0 l1 h = some q → JR d jM_165 297 [.ref l0, .int l1] [] h (jo_v q)) {l0 : Nat} {l1 : Int32} {h : LH} : F_Mod_init_c297 k297 l0 l1 h = some q → JR d jM_165 297 [.ref l0, .int l1] [] h (jo_v q) := by
 unfold F_Mod_init_c297
 exact jr_iloadn 297 298 rfl rfl rfl
  (jr_bipush 298 300 (6 : Int32) rfl jc_b_6 rfl
  (jr_icmp_ge 300 316 303 rfl rfl rfl
  (jr_aloadn 316 317 rfl rfl rfl
  (jr_cVv 317 320 [] rfl rfl rfl rfl rfl rfl rfl rfl (as := []) (F_Mod_beginsAnew_ok (Nat.le_trans (by decide : 2 ≤ 2) hd)) (fun h1 =>
  jr_rv 320 rfl rfl)))
  (jr_aloadn 303 304 rfl rfl rfl
  (jr_gr 304 307 rfl jg_11_20_2 rfl (fun v2 =>
  jr_iloadn 307 308 rfl rfl rfl
  (jr_iconst 308 309 (0 : Int32) rfl jc_i_0 rfl
  (jr_is 309 310 rfl rfl (fun h3 =>
  jr_iinc 310 313 [.ref l0, .int (l1 + (1 : Int32))] rfl jc_i_1 rfl rfl rfl rfl
  (jr_goto 313 297 rfl rfl
  ((hk297 _ _ _)))))))))))
noncomputable def F_Mod_init_l297 : Nat → Nat → Int32 → LH → Option LH
 | 0, _, _, _ => none
 | n + 1, l0, l1, h => F_Mod_init_c297 (F_Mod_init_l297 n) l0 l1 h
theorem F_Mod_init_l297_ok {d : Nat} {q : LH} (hd : 2 ≤ d) : ∀ (n : Nat) (l0 : Nat) (l1 : Int32) (h : LH), F_Mod_init_l297 n l0 l1 h = some q → JR d jM_165 297 [.ref l0, .int l1] [] h (jo_v q)
 | 0 => fun _ _ _ hq => nomatch (show (none : Option LH) = some q from hq)
 | n + 1 => fun _ _ _ hq => F_Mod_init_c297_ok hd (F_Mod_init_l297_ok hd n) hq
noncomputable def F_Mod_init (l0 : Nat) (h : LH) : Option LH :=
 jf_pi h l0 11 3 (-1 : Int32) fun h1 =>
 jf_na h1 20 (600 : Int32) fun v2 h3 =>
 jf_pr h3 l0 11 9 v2 fun h4 =>
 jf_na h4 20 (2 : Int32) fun v5 h6 =>
 jf_pr h6 l0 11 10 v5 fun h7 =>
 jf_na h7 20 (6 : Int32) fun v8 h9 =>
 jf_pr h9 l0 11 11 v8 fun h10 =>
 jf_na h10 20 (6 : Int32) fun v11 h12 =>
 jf_pr h12 l0 11 12 v11 fun h13 =>
 jf_na h13 20 (9 : Int32) fun v14 h15 =>
 jf_pr h15 l0 11 13 v14 fun h16 =>
 jf_na h16 20 (9 : Int32) fun v17 h18 =>
 jf_pr h18 l0 11 14 v17 fun h19 =>
 jf_na h19 20 (24 : Int32) fun v20 h21 =>
 jf_pr h21 l0 11 15 v20 fun h22 =>
 jf_na h22 20 (24 : Int32) fun v23 h24 =>
 jf_pr h24 l0 11 16 v23 fun h25 =>
 jf_na h25 20 (8 : Int32) fun v26 h27 =>
 jf_pr h27 l0 11 17 v26 fun h28 =>
 jf_na h28 20 (8 : Int32) fun v29 h30 =>
 jf_pr h30 l0 11 18 v29 fun h31 =>
 jf_mn h31 (6 : Int32) (4 : Int32) fun v32 h33 =>
 jf_pr h33 l0 11 19 v32 fun h34 =>
 jf_mn h34 (6 : Int32) (4 : Int32) fun v35 h36 =>
 jf_pr h36 l0 11 20 v35 fun h37 =>
 jf_mn h37 (10 : Int32) (3 : Int32) fun v38 h39 =>
 jf_pr h39 l0 11 21 v38 fun h40 =>
 jf_mn h40 (10 : Int32) (3 : Int32) fun v41 h42 =>
 jf_pr h42 l0 11 22 v41 fun h43 =>
 jf_mn h43 (6 : Int32) (2 : Int32) fun v44 h45 =>
 jf_pr h45 l0 11 23 v44 fun h46 =>
 jf_mn h46 (6 : Int32) (2 : Int32) fun v47 h48 =>
 jf_pr h48 l0 11 24 v47 fun h49 =>
 jf_mn h49 (160 : Int32) (2 : Int32) fun v50 h51 =>
 jf_pr h51 l0 11 27 v50 fun h52 =>
 jf_mn h52 (160 : Int32) (2 : Int32) fun v53 h54 =>
 jf_pr h54 l0 11 28 v53 fun h55 =>
 jf_mn h55 (9 : Int32) (2 : Int32) fun v56 h57 =>
 jf_pr h57 l0 11 29 v56 fun h58 =>
 jf_mn h58 (9 : Int32) (2 : Int32) fun v59 h60 =>
 jf_pr h60 l0 11 30 v59 fun h61 =>
 jf_na h61 20 (160 : Int32) fun v62 h63 =>
 jf_pr h63 l0 11 31 v62 fun h64 =>
 jf_na h64 20 (7 : Int32) fun v65 h66 =>
 jf_pr h66 l0 11 32 v65 fun h67 =>
 jf_mn h67 (80 : Int32) (4 : Int32) fun v68 h69 =>
 jf_pr h69 l0 11 33 v68 fun h70 =>
 jf_na h70 20 (134 : Int32) fun v71 h72 =>
 jf_pr h72 l0 11 35 v71 fun h73 =>
 jf_na h73 20 (134 : Int32) fun v74 h75 =>
 jf_pr h75 l0 11 36 v74 fun h76 =>
 jf_mn h76 (16 : Int32) (134 : Int32) fun v77 h78 =>
 jf_pr h78 l0 11 37 v77 fun h79 =>
 jf_mn h79 (3 : Int32) (2279 : Int32) fun v80 h81 =>
 jf_pr h81 l0 11 38 v80 fun h82 =>
 jf_na h82 20 (5 : Int32) fun v83 h84 =>
 jf_pr h84 l0 11 47 v83 fun h85 =>
 jf_na h85 20 (24 : Int32) fun v86 h87 =>
 jf_pr h87 l0 11 48 v86 fun h88 =>
 jf_na h88 20 (32 : Int32) fun v89 h90 =>
 jf_pr h90 l0 11 49 v89 fun h91 =>
 F_Mod_init_l297  jF l0 (0 : Int32) h91
set_option maxRecDepth 100000 in
theorem F_Mod_init_ok {d : Nat} (hd : 3 ≤ d) {l0 : Nat} {h : LH} {q : LH} : F_Mod_init l0 h = some q → jl_Sem jt_T jt_Ms d 165 [.ref l0] h (jo_v q) := by
 unfold F_Mod_init
 exact jr_enter (D := 2) hd jM_165_at rfl rfl rfl (fun d hd =>
  jr_aloadn 0 1 rfl rfl rfl
  (jr_oi 1 4 rfl rfl rfl rfl
  (jr_aloadn 4 5 rfl rfl rfl
  (jr_iconst 5 6 (-1 : Int32) rfl jc_i_m1 rfl
  (jr_pi 6 9 rfl jg_11_9_3 rfl (fun h1 =>
  jr_aloadn 9 10 rfl rfl rfl
  (jr_sipush 10 13 (600 : Int32) rfl jc_s_600 rfl
  (jr_na 13 15 rfl rfl rfl rfl (fun v2 h3 =>
  jr_prF 15 18 rfl rfl jg_11_13_6 rfl (fun h4 =>
  jr_aloadn 18 19 rfl rfl rfl
  (jr_iconst 19 20 (2 : Int32) rfl jc_i_2 rfl
  (jr_na 20 22 rfl rfl rfl rfl (fun v5 h6 =>
  jr_prF 22 25 rfl rfl jg_11_17_6 rfl (fun h7 =>
  jr_aloadn 25 26 rfl rfl rfl
  (jr_bipush 26 28 (6 : Int32) rfl jc_b_6 rfl
  (jr_na 28 30 rfl rfl rfl rfl (fun v8 h9 =>
  jr_prF 30 33 rfl rfl jg_11_20_6 rfl (fun h10 =>
  jr_aloadn 33 34 rfl rfl rfl
  (jr_bipush 34 36 (6 : Int32) rfl jc_b_6 rfl
  (jr_na 36 38 rfl rfl rfl rfl (fun v11 h12 =>
  jr_prF 38 41 rfl rfl jg_11_23_6 rfl (fun h13 =>
  jr_aloadn 41 42 rfl rfl rfl
  (jr_bipush 42 44 (9 : Int32) rfl jc_b_9 rfl
  (jr_na 44 46 rfl rfl rfl rfl (fun v14 h15 =>
  jr_prF 46 49 rfl rfl jg_11_26_6 rfl (fun h16 =>
  jr_aloadn 49 50 rfl rfl rfl
  (jr_bipush 50 52 (9 : Int32) rfl jc_b_9 rfl
  (jr_na 52 54 rfl rfl rfl rfl (fun v17 h18 =>
  jr_prF 54 57 rfl rfl jg_11_29_6 rfl (fun h19 =>
  jr_aloadn 57 58 rfl rfl rfl
  (jr_bipush 58 60 (24 : Int32) rfl jc_b_24 rfl
  (jr_na 60 62 rfl rfl rfl rfl (fun v20 h21 =>
  jr_prF 62 65 rfl rfl jg_11_32_6 rfl (fun h22 =>
  jr_aloadn 65 66 rfl rfl rfl
  (jr_bipush 66 68 (24 : Int32) rfl jc_b_24 rfl
  (jr_na 68 70 rfl rfl rfl rfl (fun v23 h24 =>
  jr_prF 70 73 rfl rfl jg_11_35_6 rfl (fun h25 =>
  jr_aloadn 73 74 rfl rfl rfl
  (jr_bipush 74 76 (8 : Int32) rfl jc_b_8 rfl
  (jr_na 76 78 rfl rfl rfl rfl (fun v26 h27 =>
  jr_prF 78 81 rfl rfl jg_11_38_6 rfl (fun h28 =>
  jr_aloadn 81 82 rfl rfl rfl
  (jr_bipush 82 84 (8 : Int32) rfl jc_b_8 rfl
  (jr_na 84 86 rfl rfl rfl rfl (fun v29 h30 =>
  jr_prF 86 89 rfl rfl jg_11_41_6 rfl (fun h31 =>
  jr_aloadn 89 90 rfl rfl rfl
  (jr_bipush 90 92 (6 : Int32) rfl jc_b_6 rfl
  (jr_iconst 92 93 (4 : Int32) rfl jc_i_4 rfl
  (jr_mn 93 97 rfl rfl rfl rfl (fun v32 h33 =>
  jr_prF 97 100 rfl rfl jg_11_46_6 rfl (fun h34 =>
  jr_aloadn 100 101 rfl rfl rfl
  (jr_bipush 101 103 (6 : Int32) rfl jc_b_6 rfl
  (jr_iconst 103 104 (4 : Int32) rfl jc_i_4 rfl
  (jr_mn 104 108 rfl rfl rfl rfl (fun v35 h36 =>
  jr_prF 108 111 rfl rfl jg_11_49_6 rfl (fun h37 =>
  jr_aloadn 111 112 rfl rfl rfl
  (jr_bipush 112 114 (10 : Int32) rfl jc_b_10 rfl
  (jr_iconst 114 115 (3 : Int32) rfl jc_i_3 rfl
  (jr_mn 115 119 rfl rfl rfl rfl (fun v38 h39 =>
  jr_prF 119 122 rfl rfl jg_11_52_6 rfl (fun h40 =>
  jr_aloadn 122 123 rfl rfl rfl
  (jr_bipush 123 125 (10 : Int32) rfl jc_b_10 rfl
  (jr_iconst 125 126 (3 : Int32) rfl jc_i_3 rfl
  (jr_mn 126 130 rfl rfl rfl rfl (fun v41 h42 =>
  jr_prF 130 133 rfl rfl jg_11_55_6 rfl (fun h43 =>
  jr_aloadn 133 134 rfl rfl rfl
  (jr_bipush 134 136 (6 : Int32) rfl jc_b_6 rfl
  (jr_iconst 136 137 (2 : Int32) rfl jc_i_2 rfl
  (jr_mn 137 141 rfl rfl rfl rfl (fun v44 h45 =>
  jr_prF 141 144 rfl rfl jg_11_58_6 rfl (fun h46 =>
  jr_aloadn 144 145 rfl rfl rfl
  (jr_bipush 145 147 (6 : Int32) rfl jc_b_6 rfl
  (jr_iconst 147 148 (2 : Int32) rfl jc_i_2 rfl
  (jr_mn 148 152 rfl rfl rfl rfl (fun v47 h48 =>
  jr_prF 152 155 rfl rfl jg_11_61_6 rfl (fun h49 =>
  jr_aloadn 155 156 rfl rfl rfl
  (jr_sipush 156 159 (160 : Int32) rfl jc_s_160 rfl
  (jr_iconst 159 160 (2 : Int32) rfl jc_i_2 rfl
  (jr_mn 160 164 rfl rfl rfl rfl (fun v50 h51 =>
  jr_prF 164 167 rfl rfl jg_11_64_6 rfl (fun h52 =>
  jr_aloadn 167 168 rfl rfl rfl
  (jr_sipush 168 171 (160 : Int32) rfl jc_s_160 rfl
  (jr_iconst 171 172 (2 : Int32) rfl jc_i_2 rfl
  (jr_mn 172 176 rfl rfl rfl rfl (fun v53 h54 =>
  jr_prF 176 179 rfl rfl jg_11_67_6 rfl (fun h55 =>
  jr_aloadn 179 180 rfl rfl rfl
  (jr_bipush 180 182 (9 : Int32) rfl jc_b_9 rfl
  (jr_iconst 182 183 (2 : Int32) rfl jc_i_2 rfl
  (jr_mn 183 187 rfl rfl rfl rfl (fun v56 h57 =>
  jr_prF 187 190 rfl rfl jg_11_70_6 rfl (fun h58 =>
  jr_aloadn 190 191 rfl rfl rfl
  (jr_bipush 191 193 (9 : Int32) rfl jc_b_9 rfl
  (jr_iconst 193 194 (2 : Int32) rfl jc_i_2 rfl
  (jr_mn 194 198 rfl rfl rfl rfl (fun v59 h60 =>
  jr_prF 198 201 rfl rfl jg_11_73_6 rfl (fun h61 =>
  jr_aloadn 201 202 rfl rfl rfl
  (jr_sipush 202 205 (160 : Int32) rfl jc_s_160 rfl
  (jr_na 205 207 rfl rfl rfl rfl (fun v62 h63 =>
  jr_prF 207 210 rfl rfl jg_11_76_6 rfl (fun h64 =>
  jr_aloadn 210 211 rfl rfl rfl
  (jr_bipush 211 213 (7 : Int32) rfl jc_b_7 rfl
  (jr_na 213 215 rfl rfl rfl rfl (fun v65 h66 =>
  jr_prF 215 218 rfl rfl jg_11_79_6 rfl (fun h67 =>
  jr_aloadn 218 219 rfl rfl rfl
  (jr_bipush 219 221 (80 : Int32) rfl jc_b_80 rfl
  (jr_iconst 221 222 (4 : Int32) rfl jc_i_4 rfl
  (jr_mn 222 226 rfl rfl rfl rfl (fun v68 h69 =>
  jr_prF 226 229 rfl rfl jg_11_82_6 rfl (fun h70 =>
  jr_aloadn 229 230 rfl rfl rfl
  (jr_sipush 230 233 (134 : Int32) rfl jc_s_134 rfl
  (jr_na 233 235 rfl rfl rfl rfl (fun v71 h72 =>
  jr_prF 235 238 rfl rfl jg_11_85_6 rfl (fun h73 =>
  jr_aloadn 238 239 rfl rfl rfl
  (jr_sipush 239 242 (134 : Int32) rfl jc_s_134 rfl
  (jr_na 242 244 rfl rfl rfl rfl (fun v74 h75 =>
  jr_prF 244 247 rfl rfl jg_11_88_6 rfl (fun h76 =>
  jr_aloadn 247 248 rfl rfl rfl
  (jr_bipush 248 250 (16 : Int32) rfl jc_b_16 rfl
  (jr_sipush 250 253 (134 : Int32) rfl jc_s_134 rfl
  (jr_mn 253 257 rfl rfl rfl rfl (fun v77 h78 =>
  jr_prF 257 260 rfl rfl jg_11_91_6 rfl (fun h79 =>
  jr_aloadn 260 261 rfl rfl rfl
  (jr_iconst 261 262 (3 : Int32) rfl jc_i_3 rfl
  (jr_sipush 262 265 (2279 : Int32) rfl jc_s_2279 rfl
  (jr_mn 265 269 rfl rfl rfl rfl (fun v80 h81 =>
  jr_prF 269 272 rfl rfl jg_11_94_6 rfl (fun h82 =>
  jr_aloadn 272 273 rfl rfl rfl
  (jr_iconst 273 274 (5 : Int32) rfl jc_i_5 rfl
  (jr_na 274 276 rfl rfl rfl rfl (fun v83 h84 =>
  jr_prF 276 279 rfl rfl jg_11_97_6 rfl (fun h85 =>
  jr_aloadn 279 280 rfl rfl rfl
  (jr_bipush 280 282 (24 : Int32) rfl jc_b_24 rfl
  (jr_na 282 284 rfl rfl rfl rfl (fun v86 h87 =>
  jr_prF 284 287 rfl rfl jg_11_100_6 rfl (fun h88 =>
  jr_aloadn 287 288 rfl rfl rfl
  (jr_bipush 288 290 (32 : Int32) rfl jc_b_32 rfl
  (jr_na 290 292 rfl rfl rfl rfl (fun v89 h90 =>
  jr_prF 292 295 rfl rfl jg_11_103_6 rfl (fun h91 =>
  jr_iconst 295 296 (0 : Int32) rfl jc_i_0 rfl
  (jr_istoren 296 297 [.ref l0, .int (0 : Int32)] rfl rfl rfl rfl
  ((F_Mod_init_l297_ok hd  jF _ _ _))))))))))))))))))))))))))))))))))))))))))))))))))))))))))))))))))))))))))))))))))))))))))))))))))))))))))))))))))))))))))))))))))))))))))))))
noncomputable def jM_168 : JMeth := (11, false, 1, jk_168, [], 1)
set_option maxRecDepth 100000 in
theorem jM_168_at : jt_Ms 168 = some jM_168 := rfl
noncomputable def F_Mod_thrown (l0 : Nat) (h : LH) : Option (Int32 × LH) :=
 jf_gi h l0 11 0 fun v1 =>
 some (v1, h)
set_option maxRecDepth 100000 in
theorem F_Mod_thrown_ok {d : Nat} (hd : 1 ≤ d) {l0 : Nat} {h : LH} {q : (Int32 × LH)} : F_Mod_thrown l0 h = some q → jl_Sem jt_T jt_Ms d 168 [.ref l0] h (jo_i q) := by
 unfold F_Mod_thrown
 exact jr_enter (D := 0) hd jM_168_at rfl rfl rfl (fun d hd =>
  jr_aloadn 0 1 rfl rfl rfl
  (jr_gi 1 4 rfl jg_11_109_1 rfl (fun v1 =>
  jr_ri 4 rfl rfl)))
noncomputable def jM_169 : JMeth := (11, false, 1, jk_169, [], 8)
set_option maxRecDepth 100000 in
theorem jM_169_at : jt_Ms 169 = some jM_169 := rfl
noncomputable def F_Mod_feed_b76 (k23 : Nat → Int32 → Int32 → Int32 → Int32 → Int32 → Int32 → LH → Option (Int32 × LH)) (l0 : Nat) (l1 : Int32) (l2 : Int32) (l3 : Int32) (l4 : Int32) (l5 : Int32) (l6 : Int32) (s0 : Int32) (h : LH) : Option (Int32 × LH) :=
 jf_gr h l0 11 9 fun v1 =>
 jf_gi h l0 11 1 fun v2 =>
 jf_dv (4 : Int32) (l6 - l6 / (4 : Int32) * (4 : Int32)) fun v3 =>
 jf_is h v1 v2 ((s0 >>> (((24 : Int32) - ((8 : Int32) * v3)) &&& 31)) &&& (255 : Int32)) fun h4 =>
 jf_gi h4 l0 11 1 fun v5 =>
 jf_pi h4 l0 11 1 (v5 + (1 : Int32)) fun h6 =>
 k23 l0 l1 l2 l3 l4 l5 (l6 + (1 : Int32)) h6
set_option maxRecDepth 100000 in
theorem F_Mod_feed_b76_ok {d : Nat} {q : (Int32 × LH)} {k23 : Nat → Int32 → Int32 → Int32 → Int32 → Int32 → Int32 → LH → Option (Int32 × LH)} (hd : 0 ≤ d) (hk23 : ∀ (l0 : Nat) (l1 : Int32) (l2 : Int32) (l3 : Int32) (l4 : Int32) (l5 : Int32) (l6 : Int32) (u7 : Value) (h : LH), k23 l0 l1 l2 l3 l4 l5 l6 h = some q → JR d jM_169 23 [.ref l0, .int l1, .int l2, .int l3, .int l4, .int l5, .int l6, u7] [] h (jo_i q)) {l0 : Nat} {l1 : Int32} {l2 : Int32} {l3 : Int32} {l4 : Int32} {l5 : Int32} {l6 : Int32} {s0 : Int32} {u7 : Value} {h : LH} : F_Mod_feed_b76 k23 l0 l1 l2 l3 l4 l5 l6 s0 h = some q → JR d jM_169 76 [.ref l0, .int l1, .int l2, .int l3, .int l4, .int l5, .int l6, u7] [.int s0] h (jo_i q) := by
 unfold F_Mod_feed_b76
 exact jr_istore 76 78 [.ref l0, .int l1, .int l2, .int l3, .int l4, .int l5, .int l6, .int s0] rfl rfl rfl rfl
  (jr_aloadn 78 79 rfl rfl rfl
  (jr_gr 79 82 rfl jg_11_13_2 rfl (fun v1 =>
  jr_aloadn 82 83 rfl rfl rfl
  (jr_gi 83 86 rfl jg_11_112_1 rfl (fun v2 =>
  jr_iload 86 88 rfl rfl rfl
  (jr_bipush 88 90 (24 : Int32) rfl jc_b_24 rfl
  (jr_bipush 90 92 (8 : Int32) rfl jc_b_8 rfl
  (jr_iload 92 94 rfl rfl rfl
  (jr_iconst 94 95 (4 : Int32) rfl jc_i_4 rfl
  (jr_irem 95 96 rfl rfl (fun v3 =>
  jr_imul 96 97 rfl rfl
  (jr_isub 97 98 rfl rfl
  (jr_ishr 98 99 rfl rfl
  (jr_sipush 99 102 (255 : Int32) rfl jc_s_255 rfl
  (jr_iand 102 103 rfl rfl
  (jr_is 103 104 rfl rfl (fun h4 =>
  jr_aloadn 104 105 rfl rfl rfl
  (jr_dup 105 106 rfl rfl rfl
  (jr_gi 106 109 rfl jg_11_112_1 rfl (fun v5 =>
  jr_iconst 109 110 (1 : Int32) rfl jc_i_1 rfl
  (jr_iadd 110 111 rfl rfl
  (jr_pi 111 114 rfl jg_11_112_3 rfl (fun h6 =>
  jr_iinc 114 117 [.ref l0, .int l1, .int l2, .int l3, .int l4, .int l5, .int (l6 + (1 : Int32)), .int s0] rfl jc_i_1 rfl rfl rfl rfl
  (jr_goto 117 23 rfl rfl
  ((hk23 _ _ _ _ _ _ _ _ _))))))))))))))))))))))))))
noncomputable def F_Mod_feed_c23 (k23 : Nat → Int32 → Int32 → Int32 → Int32 → Int32 → Int32 → LH → Option (Int32 × LH)) (l0 : Nat) (l1 : Int32) (l2 : Int32) (l3 : Int32) (l4 : Int32) (l5 : Int32) (l6 : Int32) (h : LH) : Option (Int32 × LH) :=
 if l6 < (20 : Int32) then
 if l6 < (4 : Int32) then
 F_Mod_feed_b76 k23 l0 l1 l2 l3 l4 l5 l6 l1 h
else
 if l6 < (8 : Int32) then
 F_Mod_feed_b76 k23 l0 l1 l2 l3 l4 l5 l6 l2 h
else
 if l6 < (12 : Int32) then
 F_Mod_feed_b76 k23 l0 l1 l2 l3 l4 l5 l6 l3 h
else
 if l6 < (16 : Int32) then
 F_Mod_feed_b76 k23 l0 l1 l2 l3 l4 l5 l6 l4 h
else
 F_Mod_feed_b76 k23 l0 l1 l2 l3 l4 l5 l6 l5 h
else
 jf_gi h l0 11 1 fun v1 =>
 some (v1, h)
set_option maxRecDepth 100000 in
theorem F_Mod_feed_c23_ok {d : Nat} {q : (Int32 × LH)} {k23 : Nat → Int32 → Int32 → Int32 → Int32 → Int32 → Int32 → LH → Option (Int32 × LH)} (hd : 0 ≤ d) (hk23 : ∀ (l0 : Nat) (l1 : Int32) (l2 : Int32) (l3 : Int32) (l4 : Int32) (l5 : Int32) (l6 : Int32) (u7 : Value) (h : LH), k23 l0 l1 l2 l3 l4 l5 l6 h = some q → JR d jM_169 23 [.ref l0, .int l1, .int l2, .int l3, .int l4, .int l5, .int l6, u7] [] h (jo_i q)) {l0 : Nat} {l1 : Int32} {l2 : Int32} {l3 : Int32} {l4 : Int32} {l5 : Int32} {l6 : Int32} {u7 : Value} {h : LH} : F_Mod_feed_c23 k23 l0 l1 l2 l3 l4 l5 l6 h = some q → JR d jM_169 23 [.ref l0, .int l1, .int l2, .int l3, .int l4, .int l5, .int l6, u7] [] h (jo_i q) := by
 unfold F_Mod_feed_c23
 exact jr_iload 23 25 rfl rfl rfl
  (jr_bipush 25 27 (20 : Int32) rfl jc_b_20 rfl
  (jr_icmp_ge 27 120 30 rfl rfl rfl
  (jr_aloadn 120 121 rfl rfl rfl
  (jr_gi 121 124 rfl jg_11_112_1 rfl (fun v1 =>
  jr_ri 124 rfl rfl)))
  (jr_iload 30 32 rfl rfl rfl
  (jr_iconst 32 33 (4 : Int32) rfl jc_i_4 rfl
  (jr_icmp_ge 33 40 36 rfl rfl rfl
  (jr_iload 40 42 rfl rfl rfl
  (jr_bipush 42 44 (8 : Int32) rfl jc_b_8 rfl
  (jr_icmp_ge 44 51 47 rfl rfl rfl
  (jr_iload 51 53 rfl rfl rfl
  (jr_bipush 53 55 (12 : Int32) rfl jc_b_12 rfl
  (jr_icmp_ge 55 62 58 rfl rfl rfl
  (jr_iload 62 64 rfl rfl rfl
  (jr_bipush 64 66 (16 : Int32) rfl jc_b_16 rfl
  (jr_icmp_ge 66 74 69 rfl rfl rfl
  (jr_iload 74 76 rfl rfl rfl
  ((F_Mod_feed_b76_ok hd hk23)))
  (jr_iload 69 71 rfl rfl rfl
  (jr_goto 71 76 rfl rfl
  ((F_Mod_feed_b76_ok hd hk23)))))))
  (jr_iloadn 58 59 rfl rfl rfl
  (jr_goto 59 76 rfl rfl
  ((F_Mod_feed_b76_ok hd hk23)))))))
  (jr_iloadn 47 48 rfl rfl rfl
  (jr_goto 48 76 rfl rfl
  ((F_Mod_feed_b76_ok hd hk23)))))))
  (jr_iloadn 36 37 rfl rfl rfl
  (jr_goto 37 76 rfl rfl
  ((F_Mod_feed_b76_ok hd hk23)))))))))
noncomputable def F_Mod_feed_l23 : Nat → Nat → Int32 → Int32 → Int32 → Int32 → Int32 → Int32 → LH → Option (Int32 × LH)
 | 0, _, _, _, _, _, _, _, _ => none
 | n + 1, l0, l1, l2, l3, l4, l5, l6, h => F_Mod_feed_c23 (F_Mod_feed_l23 n) l0 l1 l2 l3 l4 l5 l6 h
theorem F_Mod_feed_l23_ok {d : Nat} {q : (Int32 × LH)} (hd : 0 ≤ d) : ∀ (n : Nat) (l0 : Nat) (l1 : Int32) (l2 : Int32) (l3 : Int32) (l4 : Int32) (l5 : Int32) (l6 : Int32) (u7 : Value) (h : LH), F_Mod_feed_l23 n l0 l1 l2 l3 l4 l5 l6 h = some q → JR d jM_169 23 [.ref l0, .int l1, .int l2, .int l3, .int l4, .int l5, .int l6, u7] [] h (jo_i q)
 | 0 => fun _ _ _ _ _ _ _ _ _ hq => nomatch (show (none : Option (Int32 × LH)) = some q from hq)
 | n + 1 => fun _ _ _ _ _ _ _ _ _ hq => F_Mod_feed_c23_ok hd (F_Mod_feed_l23_ok hd n) hq
noncomputable def F_Mod_feed (l0 : Nat) (l1 : Int32) (l2 : Int32) (l3 : Int32) (l4 : Int32) (l5 : Int32) (h : LH) : Option (Int32 × LH) :=
 jf_pi h l0 11 0 (0 : Int32) fun h1 =>
 jf_gi h1 l0 11 1 fun v2 =>
 if (600 : Int32) < (v2 + (20 : Int32)) then
 some ((-1 : Int32), h1)
else
 F_Mod_feed_l23  jF l0 l1 l2 l3 l4 l5 (0 : Int32) h1
set_option maxRecDepth 100000 in
theorem F_Mod_feed_ok {d : Nat} (hd : 1 ≤ d) {l0 : Nat} {l1 : Int32} {l2 : Int32} {l3 : Int32} {l4 : Int32} {l5 : Int32} {h : LH} {q : (Int32 × LH)} : F_Mod_feed l0 l1 l2 l3 l4 l5 h = some q → jl_Sem jt_T jt_Ms d 169 [.ref l0, .int l1, .int l2, .int l3, .int l4, .int l5] h (jo_i q) := by
 unfold F_Mod_feed
 exact jr_enter (D := 0) hd jM_169_at rfl rfl rfl (fun d hd =>
  jr_aloadn 0 1 rfl rfl rfl
  (jr_iconst 1 2 (0 : Int32) rfl jc_i_0 rfl
  (jr_pi 2 5 rfl jg_11_109_3 rfl (fun h1 =>
  jr_aloadn 5 6 rfl rfl rfl
  (jr_gi 6 9 rfl jg_11_112_1 rfl (fun v2 =>
  jr_bipush 9 11 (20 : Int32) rfl jc_b_20 rfl
  (jr_iadd 11 12 rfl rfl
  (jr_sipush 12 15 (600 : Int32) rfl jc_s_600 rfl
  (jr_icmp_le 15 20 18 rfl rfl rfl
  (jr_iconst 20 21 (0 : Int32) rfl jc_i_0 rfl
  (jr_istore 21 23 [.ref l0, .int l1, .int l2, .int l3, .int l4, .int l5, .int (0 : Int32), .retAddr 0] rfl rfl rfl rfl
  ((F_Mod_feed_l23_ok hd  jF _ _ _ _ _ _ _ _ _))))
  (jr_iconst 18 19 (-1 : Int32) rfl jc_i_m1 rfl
  (jr_ri 19 rfl rfl)))))))))))
noncomputable def jM_171 : JMeth := (11, false, 2, jk_171, [], 3)
set_option maxRecDepth 100000 in
theorem jM_171_at : jt_Ms 171 = some jM_171 := rfl
noncomputable def F_Mod_in_b15 (s0 : Int32) (h : LH) : Option (Int32 × LH) :=
 jf_rz s0 (some (s0, h))
set_option maxRecDepth 100000 in
theorem F_Mod_in_b15_ok {d : Nat} {q : (Int32 × LH)} (hd : 0 ≤ d) {s0 : Int32} {u0 : Value} {u1 : Value} {u2 : Value} {h : LH} : F_Mod_in_b15 s0 h = some q → JR d jM_171 15 [u0, u1, u2] [.int s0] h (jo_i q) := by
 unfold F_Mod_in_b15
 exact jr_rz 15 rfl rfl
noncomputable def F_Mod_in_b14 (h : LH) : Option (Int32 × LH) :=
 F_Mod_in_b15  (0 : Int32) h
set_option maxRecDepth 100000 in
theorem F_Mod_in_b14_ok {d : Nat} {q : (Int32 × LH)} (hd : 0 ≤ d) {u0 : Value} {u1 : Value} {u2 : Value} {h : LH} : F_Mod_in_b14 h = some q → JR d jM_171 14 [u0, u1, u2] [] h (jo_i q) := by
 unfold F_Mod_in_b14
 exact jr_iconst 14 15 (0 : Int32) rfl jc_i_0 rfl
  ((F_Mod_in_b15_ok hd ))
noncomputable def F_Mod_in (l0 : Int32) (l1 : Int32) (l2 : Int32) (h : LH) : Option (Int32 × LH) :=
 if l0 < l1 then
 F_Mod_in_b14  h
else
 if l2 < l0 then
 F_Mod_in_b14  h
else
 F_Mod_in_b15  (1 : Int32) h
set_option maxRecDepth 100000 in
theorem F_Mod_in_ok {d : Nat} (hd : 1 ≤ d) {l0 : Int32} {l1 : Int32} {l2 : Int32} {h : LH} {q : (Int32 × LH)} : F_Mod_in l0 l1 l2 h = some q → jl_Sem jt_T jt_Ms d 171 [.int l0, .int l1, .int l2] h (jo_i q) := by
 unfold F_Mod_in
 exact jr_enter (D := 0) hd jM_171_at rfl rfl rfl (fun d hd =>
  jr_iloadn 0 1 rfl rfl rfl
  (jr_iloadn 1 2 rfl rfl rfl
  (jr_icmp_lt 2 14 5 rfl rfl rfl
  ((F_Mod_in_b14_ok hd ))
  (jr_iloadn 5 6 rfl rfl rfl
  (jr_iloadn 6 7 rfl rfl rfl
  (jr_icmp_gt 7 14 10 rfl rfl rfl
  ((F_Mod_in_b14_ok hd ))
  (jr_iconst 10 11 (1 : Int32) rfl jc_i_1 rfl
  (jr_goto 11 15 rfl rfl
  ((F_Mod_in_b15_ok hd ))))))))))
noncomputable def jM_172 : JMeth := (11, false, 2, jk_172, [], 4)
set_option maxRecDepth 100000 in
theorem jM_172_at : jt_Ms 172 = some jM_172 := rfl
noncomputable def F_Mod_bad_b38 (s0 : Int32) (h : LH) : Option (Int32 × LH) :=
 jf_rz s0 (some (s0, h))
set_option maxRecDepth 100000 in
theorem F_Mod_bad_b38_ok {d : Nat} {q : (Int32 × LH)} (hd : 0 ≤ d) {s0 : Int32} {u0 : Value} {u1 : Value} {u2 : Value} {u3 : Value} {h : LH} : F_Mod_bad_b38 s0 h = some q → JR d jM_172 38 [u0, u1, u2, u3] [.int s0] h (jo_i q) := by
 unfold F_Mod_bad_b38
 exact jr_rz 38 rfl rfl
noncomputable def F_Mod_bad_b26 (l0 : Nat) (h : LH) : Option (Int32 × LH) :=
 jf_gi h l0 11 0 fun v1 =>
 if v1 = 0 then
 F_Mod_bad_b38  (0 : Int32) h
else
 F_Mod_bad_b38  (1 : Int32) h
set_option maxRecDepth 100000 in
theorem F_Mod_bad_b26_ok {d : Nat} {q : (Int32 × LH)} (hd : 0 ≤ d) {l0 : Nat} {u1 : Value} {u2 : Value} {u3 : Value} {h : LH} : F_Mod_bad_b26 l0 h = some q → JR d jM_172 26 [.ref l0, u1, u2, u3] [] h (jo_i q) := by
 unfold F_Mod_bad_b26
 exact jr_aloadn 26 27 rfl rfl rfl
  (jr_gi 27 30 rfl jg_11_109_1 rfl (fun v1 =>
  jr_if_eq 30 37 33 rfl rfl rfl
  (jr_iconst 37 38 (0 : Int32) rfl jc_i_0 rfl
  ((F_Mod_bad_b38_ok hd )))
  (jr_iconst 33 34 (1 : Int32) rfl jc_i_1 rfl
  (jr_goto 34 38 rfl rfl
  ((F_Mod_bad_b38_ok hd ))))))
noncomputable def F_Mod_bad (l0 : Nat) (l1 : Int32) (l2 : Int32) (l3 : Int32) (h : LH) : Option (Int32 × LH) :=
 if l1 = 0 then
 F_Mod_bad_b26  l0 h
else
 jf_gi h l0 11 0 fun v1 =>
 if v1 = 0 then
 jf_pi h l0 11 0 l2 fun h2 =>
 jf_gr h2 l0 11 10 fun v3 =>
 jf_ia h2 v3 l3 fun v4 =>
 jf_is h2 v3 l3 (v4 + (1 : Int32)) fun h5 =>
 F_Mod_bad_b26  l0 h5
else
 F_Mod_bad_b26  l0 h
set_option maxRecDepth 100000 in
theorem F_Mod_bad_ok {d : Nat} (hd : 1 ≤ d) {l0 : Nat} {l1 : Int32} {l2 : Int32} {l3 : Int32} {h : LH} {q : (Int32 × LH)} : F_Mod_bad l0 l1 l2 l3 h = some q → jl_Sem jt_T jt_Ms d 172 [.ref l0, .int l1, .int l2, .int l3] h (jo_i q) := by
 unfold F_Mod_bad
 exact jr_enter (D := 0) hd jM_172_at rfl rfl rfl (fun d hd =>
  jr_iloadn 0 1 rfl rfl rfl
  (jr_if_eq 1 26 4 rfl rfl rfl
  ((F_Mod_bad_b26_ok hd ))
  (jr_aloadn 4 5 rfl rfl rfl
  (jr_gi 5 8 rfl jg_11_109_1 rfl (fun v1 =>
  jr_if_ne 8 26 11 rfl rfl rfl
  ((F_Mod_bad_b26_ok hd ))
  (jr_aloadn 11 12 rfl rfl rfl
  (jr_iloadn 12 13 rfl rfl rfl
  (jr_pi 13 16 rfl jg_11_109_3 rfl (fun h2 =>
  jr_aloadn 16 17 rfl rfl rfl
  (jr_gr 17 20 rfl jg_11_17_2 rfl (fun v3 =>
  jr_iloadn 20 21 rfl rfl rfl
  (jr_dup2 21 22 rfl rfl rfl rfl
  (jr_ia 22 23 rfl rfl (fun v4 =>
  jr_iconst 23 24 (1 : Int32) rfl jc_i_1 rfl
  (jr_iadd 24 25 rfl rfl
  (jr_is 25 26 rfl rfl (fun h5 =>
  (F_Mod_bad_b26_ok hd ))))))))))))))))))
noncomputable def jM_175 : JMeth := (11, false, 1, jk_175, [], 2)
set_option maxRecDepth 100000 in
theorem jM_175_at : jt_Ms 175 = some jM_175 := rfl
noncomputable def F_Mod_byteAt_b18 (s0 : Int32) (h : LH) : Option (Int32 × LH) :=
 some (s0, h)
set_option maxRecDepth 100000 in
theorem F_Mod_byteAt_b18_ok {d : Nat} {q : (Int32 × LH)} (hd : 0 ≤ d) {s0 : Int32} {u0 : Value} {u1 : Value} {h : LH} : F_Mod_byteAt_b18 s0 h = some q → JR d jM_175 18 [u0, u1] [.int s0] h (jo_i q) := by
 unfold F_Mod_byteAt_b18
 exact jr_ri 18 rfl rfl
noncomputable def F_Mod_byteAt (l0 : Nat) (l1 : Int32) (h : LH) : Option (Int32 × LH) :=
 jf_gi h l0 11 2 fun v1 =>
 if l1 < v1 then
 jf_gr h l0 11 9 fun v2 =>
 jf_ia h v2 l1 fun v3 =>
 F_Mod_byteAt_b18  v3 h
else
 F_Mod_byteAt_b18  (-1 : Int32) h
set_option maxRecDepth 100000 in
theorem F_Mod_byteAt_ok {d : Nat} (hd : 1 ≤ d) {l0 : Nat} {l1 : Int32} {h : LH} {q : (Int32 × LH)} : F_Mod_byteAt l0 l1 h = some q → jl_Sem jt_T jt_Ms d 175 [.ref l0, .int l1] h (jo_i q) := by
 unfold F_Mod_byteAt
 exact jr_enter (D := 0) hd jM_175_at rfl rfl rfl (fun d hd =>
  jr_iloadn 0 1 rfl rfl rfl
  (jr_aloadn 1 2 rfl rfl rfl
  (jr_gi 2 5 rfl jg_11_115_1 rfl (fun v1 =>
  jr_icmp_lt 5 12 8 rfl rfl rfl
  (jr_aloadn 12 13 rfl rfl rfl
  (jr_gr 13 16 rfl jg_11_13_2 rfl (fun v2 =>
  jr_iloadn 16 17 rfl rfl rfl
  (jr_ia 17 18 rfl rfl (fun v3 =>
  (F_Mod_byteAt_b18_ok hd ))))))
  (jr_iconst 8 9 (-1 : Int32) rfl jc_i_m1 rfl
  (jr_goto 9 18 rfl rfl
  ((F_Mod_byteAt_b18_ok hd ))))))))
noncomputable def jM_174 : JMeth := (11, false, 0, jk_174, [], 1)
set_option maxRecDepth 100000 in
theorem jM_174_at : jt_Ms 174 = some jM_174 := rfl
noncomputable def F_Mod_blanks_c0 (k0 : Nat → LH → Option LH) (l0 : Nat) (h : LH) : Option LH :=
 jf_gi h l0 11 4 fun v1 =>
 jf_kd h l0 11
 (jf_bi (F_Mod_byteAt l0 v1 h) fun v2 h3 =>
 if v2 = (32 : Int32) then
 jf_gi h3 l0 11 4 fun v4 =>
 jf_pi h3 l0 11 4 (v4 + (1 : Int32)) fun h5 =>
 k0 l0 h5
else
 some h3)
set_option maxRecDepth 100000 in
theorem F_Mod_blanks_c0_ok {d : Nat} {q : LH} {k0 : Nat → LH → Option LH} (hd : 1 ≤ d) (hk0 : ∀ (l0 : Nat) (h : LH), k0 l0 h = some q → JR d jM_174 0 [.ref l0] [] h (jo_v q)) {l0 : Nat} {h : LH} : F_Mod_blanks_c0 k0 l0 h = some q → JR d jM_174 0 [.ref l0] [] h (jo_v q) := by
 unfold F_Mod_blanks_c0
 exact jr_aloadn 0 1 rfl rfl rfl
  (jr_aloadn 1 2 rfl rfl rfl
  (jr_gi 2 5 rfl jg_11_118_1 rfl (fun v1 =>
  jr_cVi 5 8 [] rfl rfl rfl rfl rfl rfl rfl rfl (as := [.int v1]) (F_Mod_byteAt_ok (Nat.le_trans (by decide : 1 ≤ 1) hd)) (fun v2 h3 =>
  jr_bipush 8 10 (32 : Int32) rfl jc_b_32 rfl
  (jr_icmp_ne 10 26 13 rfl rfl rfl
  (jr_rv 26 rfl rfl)
  (jr_aloadn 13 14 rfl rfl rfl
  (jr_dup 14 15 rfl rfl rfl
  (jr_gi 15 18 rfl jg_11_118_1 rfl (fun v4 =>
  jr_iconst 18 19 (1 : Int32) rfl jc_i_1 rfl
  (jr_iadd 19 20 rfl rfl
  (jr_pi 20 23 rfl jg_11_118_3 rfl (fun h5 =>
  jr_goto 23 0 rfl rfl
  ((hk0 _ _))))))))))))))
noncomputable def F_Mod_blanks_l0 : Nat → Nat → LH → Option LH
 | 0, _, _ => none
 | n + 1, l0, h => F_Mod_blanks_c0 (F_Mod_blanks_l0 n) l0 h
theorem F_Mod_blanks_l0_ok {d : Nat} {q : LH} (hd : 1 ≤ d) : ∀ (n : Nat) (l0 : Nat) (h : LH), F_Mod_blanks_l0 n l0 h = some q → JR d jM_174 0 [.ref l0] [] h (jo_v q)
 | 0 => fun _ _ hq => nomatch (show (none : Option LH) = some q from hq)
 | n + 1 => fun _ _ hq => F_Mod_blanks_c0_ok hd (F_Mod_blanks_l0_ok hd n) hq
noncomputable def F_Mod_blanks (l0 : Nat) (h : LH) : Option LH :=
 F_Mod_blanks_l0  jF l0 h
set_option maxRecDepth 100000 in
theorem F_Mod_blanks_ok {d : Nat} (hd : 2 ≤ d) {l0 : Nat} {h : LH} {q : LH} : F_Mod_blanks l0 h = some q → jl_Sem jt_T jt_Ms d 174 [.ref l0] h (jo_v q) := by
 unfold F_Mod_blanks
 exact jr_enter (D := 1) hd jM_174_at rfl rfl rfl (fun d hd =>
  (F_Mod_blanks_l0_ok hd  jF _ _))
noncomputable def jM_173 : JMeth := (11, false, 0, jk_173, [], 2)
set_option maxRecDepth 100000 in
theorem jM_173_at : jt_Ms 173 = some jM_173 := rfl
noncomputable def F_Mod_starts (l0 : Nat) (l1 : Int32) (h : LH) : Option LH :=
 jf_pi h l0 11 1 (0 : Int32) fun h1 =>
 jf_pi h1 l0 11 2 l1 fun h2 =>
 jf_pi h2 l0 11 4 (0 : Int32) fun h3 =>
 jf_pi h3 l0 11 5 (0 : Int32) fun h4 =>
 jf_pi h4 l0 11 6 (-1 : Int32) fun h5 =>
 jf_pi h5 l0 11 7 (0 : Int32) fun h6 =>
 jf_pi h6 l0 11 8 (0 : Int32) fun h7 =>
 jf_kd h7 l0 11
 ((F_Mod_blanks l0 h7).bind fun h8 =>
 some h8)
set_option maxRecDepth 100000 in
theorem F_Mod_starts_ok {d : Nat} (hd : 3 ≤ d) {l0 : Nat} {l1 : Int32} {h : LH} {q : LH} : F_Mod_starts l0 l1 h = some q → jl_Sem jt_T jt_Ms d 173 [.ref l0, .int l1] h (jo_v q) := by
 unfold F_Mod_starts
 exact jr_enter (D := 2) hd jM_173_at rfl rfl rfl (fun d hd =>
  jr_aloadn 0 1 rfl rfl rfl
  (jr_iconst 1 2 (0 : Int32) rfl jc_i_0 rfl
  (jr_pi 2 5 rfl jg_11_112_3 rfl (fun h1 =>
  jr_aloadn 5 6 rfl rfl rfl
  (jr_iloadn 6 7 rfl rfl rfl
  (jr_pi 7 10 rfl jg_11_115_3 rfl (fun h2 =>
  jr_aloadn 10 11 rfl rfl rfl
  (jr_iconst 11 12 (0 : Int32) rfl jc_i_0 rfl
  (jr_pi 12 15 rfl jg_11_118_3 rfl (fun h3 =>
  jr_aloadn 15 16 rfl rfl rfl
  (jr_iconst 16 17 (0 : Int32) rfl jc_i_0 rfl
  (jr_pi 17 20 rfl jg_11_125_3 rfl (fun h4 =>
  jr_aloadn 20 21 rfl rfl rfl
  (jr_iconst 21 22 (-1 : Int32) rfl jc_i_m1 rfl
  (jr_pi 22 25 rfl jg_11_128_3 rfl (fun h5 =>
  jr_aloadn 25 26 rfl rfl rfl
  (jr_iconst 26 27 (0 : Int32) rfl jc_i_0 rfl
  (jr_pi 27 30 rfl jg_11_165_3 rfl (fun h6 =>
  jr_aloadn 30 31 rfl rfl rfl
  (jr_iconst 31 32 (0 : Int32) rfl jc_i_0 rfl
  (jr_pi 32 35 rfl jg_11_168_3 rfl (fun h7 =>
  jr_aloadn 35 36 rfl rfl rfl
  (jr_cVv 36 39 [] rfl rfl rfl rfl rfl rfl rfl rfl (as := []) (F_Mod_blanks_ok (Nat.le_trans (by decide : 2 ≤ 2) hd)) (fun h8 =>
  jr_rv 39 rfl rfl))))))))))))))))))))))))
noncomputable def jM_180 : JMeth := (11, false, 2, jk_180, [], 1)
set_option maxRecDepth 100000 in
theorem jM_180_at : jt_Ms 180 = some jM_180 := rfl
noncomputable def F_Mod_isSmall_b17 (s0 : Int32) (h : LH) : Option (Int32 × LH) :=
 jf_rz s0 (some (s0, h))
set_option maxRecDepth 100000 in
theorem F_Mod_isSmall_b17_ok {d : Nat} {q : (Int32 × LH)} (hd : 0 ≤ d) {s0 : Int32} {u0 : Value} {h : LH} : F_Mod_isSmall_b17 s0 h = some q → JR d jM_180 17 [u0] [.int s0] h (jo_i q) := by
 unfold F_Mod_isSmall_b17
 exact jr_rz 17 rfl rfl
noncomputable def F_Mod_isSmall_b16 (h : LH) : Option (Int32 × LH) :=
 F_Mod_isSmall_b17  (0 : Int32) h
set_option maxRecDepth 100000 in
theorem F_Mod_isSmall_b16_ok {d : Nat} {q : (Int32 × LH)} (hd : 0 ≤ d) {u0 : Value} {h : LH} : F_Mod_isSmall_b16 h = some q → JR d jM_180 16 [u0] [] h (jo_i q) := by
 unfold F_Mod_isSmall_b16
 exact jr_iconst 16 17 (0 : Int32) rfl jc_i_0 rfl
  ((F_Mod_isSmall_b17_ok hd ))
noncomputable def F_Mod_isSmall (l0 : Int32) (h : LH) : Option (Int32 × LH) :=
 if l0 < (97 : Int32) then
 F_Mod_isSmall_b16  h
else
 if (122 : Int32) < l0 then
 F_Mod_isSmall_b16  h
else
 F_Mod_isSmall_b17  (1 : Int32) h
set_option maxRecDepth 100000 in
theorem F_Mod_isSmall_ok {d : Nat} (hd : 1 ≤ d) {l0 : Int32} {h : LH} {q : (Int32 × LH)} : F_Mod_isSmall l0 h = some q → jl_Sem jt_T jt_Ms d 180 [.int l0] h (jo_i q) := by
 unfold F_Mod_isSmall
 exact jr_enter (D := 0) hd jM_180_at rfl rfl rfl (fun d hd =>
  jr_iloadn 0 1 rfl rfl rfl
  (jr_bipush 1 3 (97 : Int32) rfl jc_b_97 rfl
  (jr_icmp_lt 3 16 6 rfl rfl rfl
  ((F_Mod_isSmall_b16_ok hd ))
  (jr_iloadn 6 7 rfl rfl rfl
  (jr_bipush 7 9 (122 : Int32) rfl jc_b_122 rfl
  (jr_icmp_gt 9 16 12 rfl rfl rfl
  ((F_Mod_isSmall_b16_ok hd ))
  (jr_iconst 12 13 (1 : Int32) rfl jc_i_1 rfl
  (jr_goto 13 17 rfl rfl
  ((F_Mod_isSmall_b17_ok hd ))))))))))
noncomputable def jM_179 : JMeth := (11, false, 1, jk_179, [], 3)
set_option maxRecDepth 100000 in
theorem jM_179_at : jt_Ms 179 = some jM_179 := rfl
noncomputable def F_Mod_wordHere_b72 (s0 : Int32) (h : LH) : Option (Int32 × LH) :=
 some (s0, h)
set_option maxRecDepth 100000 in
theorem F_Mod_wordHere_b72_ok {d : Nat} {q : (Int32 × LH)} (hd : 2 ≤ d) {s0 : Int32} {u0 : Value} {u1 : Value} {u2 : Value} {h : LH} : F_Mod_wordHere_b72 s0 h = some q → JR d jM_179 72 [u0, u1, u2] [.int s0] h (jo_i q) := by
 unfold F_Mod_wordHere_b72
 exact jr_ri 72 rfl rfl
noncomputable def F_Mod_wordHere_b54 (k8 : Nat → Int32 → Int32 → LH → Option (Int32 × LH)) (l0 : Nat) (l2 : Int32) (s0 : Int32) (h : LH) : Option (Int32 × LH) :=
 k8 l0 s0 (l2 + (1 : Int32)) h
set_option maxRecDepth 100000 in
theorem F_Mod_wordHere_b54_ok {d : Nat} {q : (Int32 × LH)} {k8 : Nat → Int32 → Int32 → LH → Option (Int32 × LH)} (hd : 2 ≤ d) (hk8 : ∀ (l0 : Nat) (l1 : Int32) (l2 : Int32) (h : LH), k8 l0 l1 l2 h = some q → JR d jM_179 8 [.ref l0, .int l1, .int l2] [] h (jo_i q)) {l0 : Nat} {l2 : Int32} {s0 : Int32} {u1 : Value} {h : LH} : F_Mod_wordHere_b54 k8 l0 l2 s0 h = some q → JR d jM_179 54 [.ref l0, u1, .int l2] [.int s0] h (jo_i q) := by
 unfold F_Mod_wordHere_b54
 exact jr_istoren 54 55 [.ref l0, .int s0, .int l2] rfl rfl rfl rfl
  (jr_iinc 55 58 [.ref l0, .int s0, .int (l2 + (1 : Int32))] rfl jc_i_1 rfl rfl rfl rfl
  (jr_goto 58 8 rfl rfl
  ((hk8 _ _ _ _))))
noncomputable def F_Mod_wordHere_c8 (k8 : Nat → Int32 → Int32 → LH → Option (Int32 × LH)) (l0 : Nat) (l1 : Int32) (l2 : Int32) (h : LH) : Option (Int32 × LH) :=
 jf_gi h l0 11 4 fun v1 =>
 jf_kd h l0 11
 (jf_bi (F_Mod_byteAt l0 (v1 + l2) h) fun v2 h3 =>
 jf_bi (F_Mod_isSmall v2 h3) fun v4 h5 =>
 if v4 = 0 then
 if (6 : Int32) < l2 then
 F_Mod_wordHere_b72  (-1 : Int32) h5
else
 F_Mod_wordHere_b72  l1 h5
else
 if l2 < (6 : Int32) then
 jf_gi h5 l0 11 4 fun v6 =>
 jf_kd h5 l0 11
 (jf_bi (F_Mod_byteAt l0 (v6 + l2) h5) fun v7 h8 =>
 F_Mod_wordHere_b54 k8 l0 l2 (((((27 : Int32) * l1) + v7) - (97 : Int32)) + (1 : Int32)) h8)
else
 F_Mod_wordHere_b54 k8 l0 l2 l1 h5)
set_option maxRecDepth 100000 in
theorem F_Mod_wordHere_c8_ok {d : Nat} {q : (Int32 × LH)} {k8 : Nat → Int32 → Int32 → LH → Option (Int32 × LH)} (hd : 2 ≤ d) (hk8 : ∀ (l0 : Nat) (l1 : Int32) (l2 : Int32) (h : LH), k8 l0 l1 l2 h = some q → JR d jM_179 8 [.ref l0, .int l1, .int l2] [] h (jo_i q)) {l0 : Nat} {l1 : Int32} {l2 : Int32} {h : LH} : F_Mod_wordHere_c8 k8 l0 l1 l2 h = some q → JR d jM_179 8 [.ref l0, .int l1, .int l2] [] h (jo_i q) := by
 unfold F_Mod_wordHere_c8
 exact jr_aloadn 8 9 rfl rfl rfl
  (jr_aloadn 9 10 rfl rfl rfl
  (jr_gi 10 13 rfl jg_11_118_1 rfl (fun v1 =>
  jr_iloadn 13 14 rfl rfl rfl
  (jr_iadd 14 15 rfl rfl
  (jr_cVi 15 18 [] rfl rfl rfl rfl rfl rfl rfl rfl (as := [.int (v1 + l2)]) (F_Mod_byteAt_ok (Nat.le_trans (by decide : 1 ≤ 2) hd)) (fun v2 h3 =>
  jr_cSi 18 21 [] rfl rfl rfl rfl rfl rfl rfl (as := [.int v2]) (F_Mod_isSmall_ok (Nat.le_trans (by decide : 1 ≤ 2) hd)) (fun v4 h5 =>
  jr_if_eq 21 61 24 rfl rfl rfl
  (jr_iloadn 61 62 rfl rfl rfl
  (jr_bipush 62 64 (6 : Int32) rfl jc_b_6 rfl
  (jr_icmp_le 64 71 67 rfl rfl rfl
  (jr_iloadn 71 72 rfl rfl rfl
  ((F_Mod_wordHere_b72_ok hd )))
  (jr_iconst 67 68 (-1 : Int32) rfl jc_i_m1 rfl
  (jr_goto 68 72 rfl rfl
  ((F_Mod_wordHere_b72_ok hd )))))))
  (jr_iloadn 24 25 rfl rfl rfl
  (jr_bipush 25 27 (6 : Int32) rfl jc_b_6 rfl
  (jr_icmp_ge 27 53 30 rfl rfl rfl
  (jr_iloadn 53 54 rfl rfl rfl
  ((F_Mod_wordHere_b54_ok hd hk8)))
  (jr_bipush 30 32 (27 : Int32) rfl jc_b_27 rfl
  (jr_iloadn 32 33 rfl rfl rfl
  (jr_imul 33 34 rfl rfl
  (jr_aloadn 34 35 rfl rfl rfl
  (jr_aloadn 35 36 rfl rfl rfl
  (jr_gi 36 39 rfl jg_11_118_1 rfl (fun v6 =>
  jr_iloadn 39 40 rfl rfl rfl
  (jr_iadd 40 41 rfl rfl
  (jr_cVi 41 44 [.int ((27 : Int32) * l1)] rfl rfl rfl rfl rfl rfl rfl rfl (as := [.int (v6 + l2)]) (F_Mod_byteAt_ok (Nat.le_trans (by decide : 1 ≤ 2) hd)) (fun v7 h8 =>
  jr_iadd 44 45 rfl rfl
  (jr_bipush 45 47 (97 : Int32) rfl jc_b_97 rfl
  (jr_isub 47 48 rfl rfl
  (jr_iconst 48 49 (1 : Int32) rfl jc_i_1 rfl
  (jr_iadd 49 50 rfl rfl
  (jr_goto 50 54 rfl rfl
  ((F_Mod_wordHere_b54_ok hd hk8)))))))))))))))))))))))))))
noncomputable def F_Mod_wordHere_l8 : Nat → Nat → Int32 → Int32 → LH → Option (Int32 × LH)
 | 0, _, _, _, _ => none
 | n + 1, l0, l1, l2, h => F_Mod_wordHere_c8 (F_Mod_wordHere_l8 n) l0 l1 l2 h
theorem F_Mod_wordHere_l8_ok {d : Nat} {q : (Int32 × LH)} (hd : 2 ≤ d) : ∀ (n : Nat) (l0 : Nat) (l1 : Int32) (l2 : Int32) (h : LH), F_Mod_wordHere_l8 n l0 l1 l2 h = some q → JR d jM_179 8 [.ref l0, .int l1, .int l2] [] h (jo_i q)
 | 0 => fun _ _ _ _ hq => nomatch (show (none : Option (Int32 × LH)) = some q from hq)
 | n + 1 => fun _ _ _ _ hq => F_Mod_wordHere_c8_ok hd (F_Mod_wordHere_l8_ok hd n) hq
noncomputable def F_Mod_wordHere (l0 : Nat) (h : LH) : Option (Int32 × LH) :=
 jf_kd h l0 11
 ((F_Mod_blanks l0 h).bind fun h1 =>
 F_Mod_wordHere_l8  jF l0 (0 : Int32) (0 : Int32) h1)
set_option maxRecDepth 100000 in
theorem F_Mod_wordHere_ok {d : Nat} (hd : 3 ≤ d) {l0 : Nat} {h : LH} {q : (Int32 × LH)} : F_Mod_wordHere l0 h = some q → jl_Sem jt_T jt_Ms d 179 [.ref l0] h (jo_i q) := by
 unfold F_Mod_wordHere
 exact jr_enter (D := 2) hd jM_179_at rfl rfl rfl (fun d hd =>
  jr_aloadn 0 1 rfl rfl rfl
  (jr_cVv 1 4 [] rfl rfl rfl rfl rfl rfl rfl rfl (as := []) (F_Mod_blanks_ok (Nat.le_trans (by decide : 2 ≤ 2) hd)) (fun h1 =>
  jr_iconst 4 5 (0 : Int32) rfl jc_i_0 rfl
  (jr_istoren 5 6 [.ref l0, .int (0 : Int32), .retAddr 0] rfl rfl rfl rfl
  (jr_iconst 6 7 (0 : Int32) rfl jc_i_0 rfl
  (jr_istoren 7 8 [.ref l0, .int (0 : Int32), .int (0 : Int32)] rfl rfl rfl rfl
  ((F_Mod_wordHere_l8_ok hd  jF _ _ _ _))))))))
noncomputable def jM_181 : JMeth := (11, false, 1, jk_181, [], 7)
set_option maxRecDepth 100000 in
theorem jM_181_at : jt_Ms 181 = some jM_181 := rfl
noncomputable def F_Mod_six_b69 (s0 : Int32) (h : LH) : Option (Int32 × LH) :=
 some (s0, h)
set_option maxRecDepth 100000 in
theorem F_Mod_six_b69_ok {d : Nat} {q : (Int32 × LH)} (hd : 0 ≤ d) {s0 : Int32} {u0 : Value} {u1 : Value} {u2 : Value} {u3 : Value} {u4 : Value} {u5 : Value} {u6 : Value} {h : LH} : F_Mod_six_b69 s0 h = some q → JR d jM_181 69 [u0, u1, u2, u3, u4, u5, u6] [.int s0] h (jo_i q) := by
 unfold F_Mod_six_b69
 exact jr_ri 69 rfl rfl
noncomputable def F_Mod_six_b49 (l5 : Int32) (s0 : Int32) (h : LH) : Option (Int32 × LH) :=
 if l5 = 0 then
 F_Mod_six_b69  s0 h
else
 F_Mod_six_b69  (((27 : Int32) * s0) + l5) h
set_option maxRecDepth 100000 in
theorem F_Mod_six_b49_ok {d : Nat} {q : (Int32 × LH)} (hd : 0 ≤ d) {l5 : Int32} {s0 : Int32} {u0 : Value} {u1 : Value} {u2 : Value} {u3 : Value} {u4 : Value} {u6 : Value} {h : LH} : F_Mod_six_b49 l5 s0 h = some q → JR d jM_181 49 [u0, u1, u2, u3, u4, .int l5, u6] [.int s0] h (jo_i q) := by
 unfold F_Mod_six_b49
 exact jr_istore 49 51 [u0, u1, u2, u3, u4, .int l5, .int s0] rfl rfl rfl rfl
  (jr_iload 51 53 rfl rfl rfl
  (jr_if_ne 53 61 56 rfl rfl rfl
  (jr_bipush 61 63 (27 : Int32) rfl jc_b_27 rfl
  (jr_iload 63 65 rfl rfl rfl
  (jr_imul 65 66 rfl rfl
  (jr_iload 66 68 rfl rfl rfl
  (jr_iadd 68 69 rfl rfl
  ((F_Mod_six_b69_ok hd )))))))
  (jr_iload 56 58 rfl rfl rfl
  (jr_goto 58 69 rfl rfl
  ((F_Mod_six_b69_ok hd ))))))
noncomputable def F_Mod_six_b29 (l4 : Int32) (l5 : Int32) (s0 : Int32) (h : LH) : Option (Int32 × LH) :=
 if l4 = 0 then
 F_Mod_six_b49  l5 s0 h
else
 F_Mod_six_b49  l5 (((27 : Int32) * s0) + l4) h
set_option maxRecDepth 100000 in
theorem F_Mod_six_b29_ok {d : Nat} {q : (Int32 × LH)} (hd : 0 ≤ d) {l4 : Int32} {l5 : Int32} {s0 : Int32} {u0 : Value} {u1 : Value} {u2 : Value} {u3 : Value} {u6 : Value} {h : LH} : F_Mod_six_b29 l4 l5 s0 h = some q → JR d jM_181 29 [u0, u1, u2, u3, .int l4, .int l5, u6] [.int s0] h (jo_i q) := by
 unfold F_Mod_six_b29
 exact jr_istore 29 31 [u0, u1, u2, u3, .int l4, .int l5, .int s0] rfl rfl rfl rfl
  (jr_iload 31 33 rfl rfl rfl
  (jr_if_ne 33 41 36 rfl rfl rfl
  (jr_bipush 41 43 (27 : Int32) rfl jc_b_27 rfl
  (jr_iload 43 45 rfl rfl rfl
  (jr_imul 45 46 rfl rfl
  (jr_iload 46 48 rfl rfl rfl
  (jr_iadd 48 49 rfl rfl
  ((F_Mod_six_b49_ok hd )))))))
  (jr_iload 36 38 rfl rfl rfl
  (jr_goto 38 49 rfl rfl
  ((F_Mod_six_b49_ok hd ))))))
noncomputable def F_Mod_six (l0 : Int32) (l1 : Int32) (l2 : Int32) (l3 : Int32) (l4 : Int32) (l5 : Int32) (h : LH) : Option (Int32 × LH) :=
 jf_let (((27 : Int32) * (((27 : Int32) * l0) + l1)) + l2) fun v1 =>
 if l3 = 0 then
 F_Mod_six_b29  l4 l5 v1 h
else
 F_Mod_six_b29  l4 l5 (((27 : Int32) * v1) + l3) h
set_option maxRecDepth 100000 in
theorem F_Mod_six_ok {d : Nat} (hd : 1 ≤ d) {l0 : Int32} {l1 : Int32} {l2 : Int32} {l3 : Int32} {l4 : Int32} {l5 : Int32} {h : LH} {q : (Int32 × LH)} : F_Mod_six l0 l1 l2 l3 l4 l5 h = some q → jl_Sem jt_T jt_Ms d 181 [.int l0, .int l1, .int l2, .int l3, .int l4, .int l5] h (jo_i q) := by
 unfold F_Mod_six
 exact jr_enter (D := 0) hd jM_181_at rfl rfl rfl (fun d hd =>
  jr_bipush 0 2 (27 : Int32) rfl jc_b_27 rfl
  (jr_bipush 2 4 (27 : Int32) rfl jc_b_27 rfl
  (jr_iloadn 4 5 rfl rfl rfl
  (jr_imul 5 6 rfl rfl
  (jr_iloadn 6 7 rfl rfl rfl
  (jr_iadd 7 8 rfl rfl
  (jr_imul 8 9 rfl rfl
  (jr_iloadn 9 10 rfl rfl rfl
  (jr_iadd 10 11 rfl rfl
  (jr_istoreL 11 13 (fun v1 => [.int l0, .int l1, .int l2, .int l3, .int l4, .int l5, .int v1]) rfl rfl (fun _ => rfl) rfl (fun v1 =>
  jr_iloadn 13 14 rfl rfl rfl
  (jr_if_ne 14 22 17 rfl rfl rfl
  (jr_bipush 22 24 (27 : Int32) rfl jc_b_27 rfl
  (jr_iload 24 26 rfl rfl rfl
  (jr_imul 26 27 rfl rfl
  (jr_iloadn 27 28 rfl rfl rfl
  (jr_iadd 28 29 rfl rfl
  ((F_Mod_six_b29_ok hd )))))))
  (jr_iload 17 19 rfl rfl rfl
  (jr_goto 19 29 rfl rfl
  ((F_Mod_six_b29_ok hd ))))))))))))))))
noncomputable def jM_178 : JMeth := (11, false, 2, jk_178, [], 7)
set_option maxRecDepth 100000 in
theorem jM_178_at : jt_Ms 178 = some jM_178 := rfl
noncomputable def F_Mod_isWord_b31 (s0 : Int32) (h : LH) : Option (Int32 × LH) :=
 jf_rz s0 (some (s0, h))
set_option maxRecDepth 100000 in
theorem F_Mod_isWord_b31_ok {d : Nat} {q : (Int32 × LH)} (hd : 3 ≤ d) {s0 : Int32} {u0 : Value} {u1 : Value} {u2 : Value} {u3 : Value} {u4 : Value} {u5 : Value} {u6 : Value} {h : LH} : F_Mod_isWord_b31 s0 h = some q → JR d jM_178 31 [u0, u1, u2, u3, u4, u5, u6] [.int s0] h (jo_i q) := by
 unfold F_Mod_isWord_b31
 exact jr_rz 31 rfl rfl
noncomputable def F_Mod_isWord_b30 (h : LH) : Option (Int32 × LH) :=
 F_Mod_isWord_b31  (0 : Int32) h
set_option maxRecDepth 100000 in
theorem F_Mod_isWord_b30_ok {d : Nat} {q : (Int32 × LH)} (hd : 3 ≤ d) {u0 : Value} {u1 : Value} {u2 : Value} {u3 : Value} {u4 : Value} {u5 : Value} {u6 : Value} {h : LH} : F_Mod_isWord_b30 h = some q → JR d jM_178 30 [u0, u1, u2, u3, u4, u5, u6] [] h (jo_i q) := by
 unfold F_Mod_isWord_b30
 exact jr_iconst 30 31 (0 : Int32) rfl jc_i_0 rfl
  ((F_Mod_isWord_b31_ok hd ))
noncomputable def F_Mod_isWord (l0 : Nat) (l1 : Int32) (l2 : Int32) (l3 : Int32) (l4 : Int32) (l5 : Int32) (l6 : Int32) (h : LH) : Option (Int32 × LH) :=
 jf_gi h l0 11 5 fun v1 =>
 if v1 = 0 then
 jf_kd h l0 11
 (jf_bi (F_Mod_wordHere l0 h) fun v2 h3 =>
 jf_bi (F_Mod_six l1 l2 l3 l4 l5 l6 h3) fun v4 h5 =>
 if v2 = v4 then
 F_Mod_isWord_b31  (1 : Int32) h5
else
 F_Mod_isWord_b30  h5)
else
 F_Mod_isWord_b30  h
set_option maxRecDepth 100000 in
theorem F_Mod_isWord_ok {d : Nat} (hd : 4 ≤ d) {l0 : Nat} {l1 : Int32} {l2 : Int32} {l3 : Int32} {l4 : Int32} {l5 : Int32} {l6 : Int32} {h : LH} {q : (Int32 × LH)} : F_Mod_isWord l0 l1 l2 l3 l4 l5 l6 h = some q → jl_Sem jt_T jt_Ms d 178 [.ref l0, .int l1, .int l2, .int l3, .int l4, .int l5, .int l6] h (jo_i q) := by
 unfold F_Mod_isWord
 exact jr_enter (D := 3) hd jM_178_at rfl rfl rfl (fun d hd =>
  jr_aloadn 0 1 rfl rfl rfl
  (jr_gi 1 4 rfl jg_11_125_1 rfl (fun v1 =>
  jr_if_ne 4 30 7 rfl rfl rfl
  ((F_Mod_isWord_b30_ok hd ))
  (jr_aloadn 7 8 rfl rfl rfl
  (jr_cVi 8 11 [] rfl rfl rfl rfl rfl rfl rfl rfl (as := []) (F_Mod_wordHere_ok (Nat.le_trans (by decide : 3 ≤ 3) hd)) (fun v2 h3 =>
  jr_iloadn 11 12 rfl rfl rfl
  (jr_iloadn 12 13 rfl rfl rfl
  (jr_iloadn 13 14 rfl rfl rfl
  (jr_iload 14 16 rfl rfl rfl
  (jr_iload 16 18 rfl rfl rfl
  (jr_iload 18 20 rfl rfl rfl
  (jr_cSi 20 23 [.int v2] rfl rfl rfl rfl rfl rfl rfl (as := [.int l1, .int l2, .int l3, .int l4, .int l5, .int l6]) (F_Mod_six_ok (Nat.le_trans (by decide : 1 ≤ 3) hd)) (fun v4 h5 =>
  jr_icmp_ne 23 30 26 rfl rfl rfl
  ((F_Mod_isWord_b30_ok hd ))
  (jr_iconst 26 27 (1 : Int32) rfl jc_i_1 rfl
  (jr_goto 27 31 rfl rfl
  ((F_Mod_isWord_b31_ok hd )))))))))))))))))
noncomputable def jM_177 : JMeth := (11, false, 1, jk_177, [], 1)
set_option maxRecDepth 100000 in
theorem jM_177_at : jt_Ms 177 = some jM_177 := rfl
noncomputable def F_Mod_kindHere_b112 (s0 : Int32) (h : LH) : Option (Int32 × LH) :=
 some (s0, h)
set_option maxRecDepth 100000 in
theorem F_Mod_kindHere_b112_ok {d : Nat} {q : (Int32 × LH)} (hd : 4 ≤ d) {s0 : Int32} {u0 : Value} {h : LH} : F_Mod_kindHere_b112 s0 h = some q → JR d jM_177 112 [u0] [.int s0] h (jo_i q) := by
 unfold F_Mod_kindHere_b112
 exact jr_ri 112 rfl rfl
noncomputable def F_Mod_kindHere (l0 : Nat) (h : LH) : Option (Int32 × LH) :=
 jf_kd h l0 11
 (jf_bi (F_Mod_isWord l0 (7 : Int32) (1 : Int32) (20 : Int32) (5 : Int32) (0 : Int32) (0 : Int32) h) fun v1 h2 =>
 if v1 = 0 then
 jf_kd h2 l0 11
 (jf_bi (F_Mod_isWord l0 (23 : Int32) (15 : Int32) (15 : Int32) (4 : Int32) (0 : Int32) (0 : Int32) h2) fun v3 h4 =>
 if v3 = 0 then
 jf_kd h4 l0 11
 (jf_bi (F_Mod_isWord l0 (3 : Int32) (15 : Int32) (13 : Int32) (5 : Int32) (18 : Int32) (0 : Int32) h4) fun v5 h6 =>
 if v5 = 0 then
 jf_kd h6 l0 11
 (jf_bi (F_Mod_isWord l0 (19 : Int32) (9 : Int32) (7 : Int32) (14 : Int32) (1 : Int32) (12 : Int32) h6) fun v7 h8 =>
 if v7 = 0 then
 jf_kd h8 l0 11
 (jf_bi (F_Mod_isWord l0 (23 : Int32) (9 : Int32) (14 : Int32) (4 : Int32) (0 : Int32) (0 : Int32) h8) fun v9 h10 =>
 if v9 = 0 then
 jf_kd h10 l0 11
 (jf_bi (F_Mod_isWord l0 (18 : Int32) (1 : Int32) (9 : Int32) (14 : Int32) (0 : Int32) (0 : Int32) h10) fun v11 h12 =>
 if v11 = 0 then
 F_Mod_kindHere_b112  (-1 : Int32) h12
else
 F_Mod_kindHere_b112  (5 : Int32) h12)
else
 some ((4 : Int32), h10))
else
 some ((3 : Int32), h8))
else
 some ((2 : Int32), h6))
else
 some ((1 : Int32), h4))
else
 some ((0 : Int32), h2))
set_option maxRecDepth 100000 in
theorem F_Mod_kindHere_ok {d : Nat} (hd : 5 ≤ d) {l0 : Nat} {h : LH} {q : (Int32 × LH)} : F_Mod_kindHere l0 h = some q → jl_Sem jt_T jt_Ms d 177 [.ref l0] h (jo_i q) := by
 unfold F_Mod_kindHere
 exact jr_enter (D := 4) hd jM_177_at rfl rfl rfl (fun d hd =>
  jr_aloadn 0 1 rfl rfl rfl
  (jr_bipush 1 3 (7 : Int32) rfl jc_b_7 rfl
  (jr_iconst 3 4 (1 : Int32) rfl jc_i_1 rfl
  (jr_bipush 4 6 (20 : Int32) rfl jc_b_20 rfl
  (jr_iconst 6 7 (5 : Int32) rfl jc_i_5 rfl
  (jr_iconst 7 8 (0 : Int32) rfl jc_i_0 rfl
  (jr_iconst 8 9 (0 : Int32) rfl jc_i_0 rfl
  (jr_cVi 9 12 [] rfl rfl rfl rfl rfl rfl rfl rfl (as := [.int (7 : Int32), .int (1 : Int32), .int (20 : Int32), .int (5 : Int32), .int (0 : Int32), .int (0 : Int32)]) (F_Mod_isWord_ok (Nat.le_trans (by decide : 4 ≤ 4) hd)) (fun v1 h2 =>
  jr_if_eq 12 17 15 rfl rfl rfl
  (jr_aloadn 17 18 rfl rfl rfl
  (jr_bipush 18 20 (23 : Int32) rfl jc_b_23 rfl
  (jr_bipush 20 22 (15 : Int32) rfl jc_b_15 rfl
  (jr_bipush 22 24 (15 : Int32) rfl jc_b_15 rfl
  (jr_iconst 24 25 (4 : Int32) rfl jc_i_4 rfl
  (jr_iconst 25 26 (0 : Int32) rfl jc_i_0 rfl
  (jr_iconst 26 27 (0 : Int32) rfl jc_i_0 rfl
  (jr_cVi 27 30 [] rfl rfl rfl rfl rfl rfl rfl rfl (as := [.int (23 : Int32), .int (15 : Int32), .int (15 : Int32), .int (4 : Int32), .int (0 : Int32), .int (0 : Int32)]) (F_Mod_isWord_ok (Nat.le_trans (by decide : 4 ≤ 4) hd)) (fun v3 h4 =>
  jr_if_eq 30 35 33 rfl rfl rfl
  (jr_aloadn 35 36 rfl rfl rfl
  (jr_iconst 36 37 (3 : Int32) rfl jc_i_3 rfl
  (jr_bipush 37 39 (15 : Int32) rfl jc_b_15 rfl
  (jr_bipush 39 41 (13 : Int32) rfl jc_b_13 rfl
  (jr_iconst 41 42 (5 : Int32) rfl jc_i_5 rfl
  (jr_bipush 42 44 (18 : Int32) rfl jc_b_18 rfl
  (jr_iconst 44 45 (0 : Int32) rfl jc_i_0 rfl
  (jr_cVi 45 48 [] rfl rfl rfl rfl rfl rfl rfl rfl (as := [.int (3 : Int32), .int (15 : Int32), .int (13 : Int32), .int (5 : Int32), .int (18 : Int32), .int (0 : Int32)]) (F_Mod_isWord_ok (Nat.le_trans (by decide : 4 ≤ 4) hd)) (fun v5 h6 =>
  jr_if_eq 48 53 51 rfl rfl rfl
  (jr_aloadn 53 54 rfl rfl rfl
  (jr_bipush 54 56 (19 : Int32) rfl jc_b_19 rfl
  (jr_bipush 56 58 (9 : Int32) rfl jc_b_9 rfl
  (jr_bipush 58 60 (7 : Int32) rfl jc_b_7 rfl
  (jr_bipush 60 62 (14 : Int32) rfl jc_b_14 rfl
  (jr_iconst 62 63 (1 : Int32) rfl jc_i_1 rfl
  (jr_bipush 63 65 (12 : Int32) rfl jc_b_12 rfl
  (jr_cVi 65 68 [] rfl rfl rfl rfl rfl rfl rfl rfl (as := [.int (19 : Int32), .int (9 : Int32), .int (7 : Int32), .int (14 : Int32), .int (1 : Int32), .int (12 : Int32)]) (F_Mod_isWord_ok (Nat.le_trans (by decide : 4 ≤ 4) hd)) (fun v7 h8 =>
  jr_if_eq 68 73 71 rfl rfl rfl
  (jr_aloadn 73 74 rfl rfl rfl
  (jr_bipush 74 76 (23 : Int32) rfl jc_b_23 rfl
  (jr_bipush 76 78 (9 : Int32) rfl jc_b_9 rfl
  (jr_bipush 78 80 (14 : Int32) rfl jc_b_14 rfl
  (jr_iconst 80 81 (4 : Int32) rfl jc_i_4 rfl
  (jr_iconst 81 82 (0 : Int32) rfl jc_i_0 rfl
  (jr_iconst 82 83 (0 : Int32) rfl jc_i_0 rfl
  (jr_cVi 83 86 [] rfl rfl rfl rfl rfl rfl rfl rfl (as := [.int (23 : Int32), .int (9 : Int32), .int (14 : Int32), .int (4 : Int32), .int (0 : Int32), .int (0 : Int32)]) (F_Mod_isWord_ok (Nat.le_trans (by decide : 4 ≤ 4) hd)) (fun v9 h10 =>
  jr_if_eq 86 91 89 rfl rfl rfl
  (jr_aloadn 91 92 rfl rfl rfl
  (jr_bipush 92 94 (18 : Int32) rfl jc_b_18 rfl
  (jr_iconst 94 95 (1 : Int32) rfl jc_i_1 rfl
  (jr_bipush 95 97 (9 : Int32) rfl jc_b_9 rfl
  (jr_bipush 97 99 (14 : Int32) rfl jc_b_14 rfl
  (jr_iconst 99 100 (0 : Int32) rfl jc_i_0 rfl
  (jr_iconst 100 101 (0 : Int32) rfl jc_i_0 rfl
  (jr_cVi 101 104 [] rfl rfl rfl rfl rfl rfl rfl rfl (as := [.int (18 : Int32), .int (1 : Int32), .int (9 : Int32), .int (14 : Int32), .int (0 : Int32), .int (0 : Int32)]) (F_Mod_isWord_ok (Nat.le_trans (by decide : 4 ≤ 4) hd)) (fun v11 h12 =>
  jr_if_eq 104 111 107 rfl rfl rfl
  (jr_iconst 111 112 (-1 : Int32) rfl jc_i_m1 rfl
  ((F_Mod_kindHere_b112_ok hd )))
  (jr_iconst 107 108 (5 : Int32) rfl jc_i_5 rfl
  (jr_goto 108 112 rfl rfl
  ((F_Mod_kindHere_b112_ok hd )))))))))))))
  (jr_iconst 89 90 (4 : Int32) rfl jc_i_4 rfl
  (jr_ri 90 rfl rfl)))))))))))
  (jr_iconst 71 72 (3 : Int32) rfl jc_i_3 rfl
  (jr_ri 72 rfl rfl)))))))))))
  (jr_iconst 51 52 (2 : Int32) rfl jc_i_2 rfl
  (jr_ri 52 rfl rfl)))))))))))
  (jr_iconst 33 34 (1 : Int32) rfl jc_i_1 rfl
  (jr_ri 34 rfl rfl)))))))))))
  (jr_iconst 15 16 (0 : Int32) rfl jc_i_0 rfl
  (jr_ri 16 rfl rfl)))))))))))
noncomputable def jM_182 : JMeth := (11, false, 0, jk_182, [], 3)
set_option maxRecDepth 100000 in
theorem jM_182_at : jt_Ms 182 = some jM_182 := rfl
noncomputable def F_Mod_wrong_b17 (h : LH) : Option LH :=
 some h
set_option maxRecDepth 100000 in
theorem F_Mod_wrong_b17_ok {d : Nat} {q : LH} (hd : 0 ≤ d) {u0 : Value} {u1 : Value} {u2 : Value} {h : LH} : F_Mod_wrong_b17 h = some q → JR d jM_182 17 [u0, u1, u2] [] h (jo_v q) := by
 unfold F_Mod_wrong_b17
 exact jr_rv 17 rfl rfl
noncomputable def F_Mod_wrong (l0 : Nat) (l1 : Int32) (l2 : Int32) (h : LH) : Option LH :=
 jf_gi h l0 11 5 fun v1 =>
 if v1 = 0 then
 jf_pi h l0 11 5 l1 fun h2 =>
 jf_pi h2 l0 11 6 l2 fun h3 =>
 F_Mod_wrong_b17  h3
else
 F_Mod_wrong_b17  h
set_option maxRecDepth 100000 in
theorem F_Mod_wrong_ok {d : Nat} (hd : 1 ≤ d) {l0 : Nat} {l1 : Int32} {l2 : Int32} {h : LH} {q : LH} : F_Mod_wrong l0 l1 l2 h = some q → jl_Sem jt_T jt_Ms d 182 [.ref l0, .int l1, .int l2] h (jo_v q) := by
 unfold F_Mod_wrong
 exact jr_enter (D := 0) hd jM_182_at rfl rfl rfl (fun d hd =>
  jr_aloadn 0 1 rfl rfl rfl
  (jr_gi 1 4 rfl jg_11_125_1 rfl (fun v1 =>
  jr_if_ne 4 17 7 rfl rfl rfl
  ((F_Mod_wrong_b17_ok hd ))
  (jr_aloadn 7 8 rfl rfl rfl
  (jr_iloadn 8 9 rfl rfl rfl
  (jr_pi 9 12 rfl jg_11_125_3 rfl (fun h2 =>
  jr_aloadn 12 13 rfl rfl rfl
  (jr_iloadn 13 14 rfl rfl rfl
  (jr_pi 14 17 rfl jg_11_128_3 rfl (fun h3 =>
  (F_Mod_wrong_b17_ok hd )))))))))))
noncomputable def jM_183 : JMeth := (11, false, 1, jk_183, [], 1)
set_option maxRecDepth 100000 in
theorem jM_183_at : jt_Ms 183 = some jM_183 := rfl
noncomputable def F_Mod_mostOf (l0 : Int32) (h : LH) : Option (Int32 × LH) :=
 if l0 = (0 : Int32) then
 some ((9 : Int32), h)
else
 if l0 = (1 : Int32) then
 some ((6 : Int32), h)
else
 if l0 = (2 : Int32) then
 some ((10 : Int32), h)
else
 if l0 = (3 : Int32) then
 some ((8 : Int32), h)
else
 if l0 = (4 : Int32) then
 some ((24 : Int32), h)
else
 some ((6 : Int32), h)
set_option maxRecDepth 100000 in
theorem F_Mod_mostOf_ok {d : Nat} (hd : 1 ≤ d) {l0 : Int32} {h : LH} {q : (Int32 × LH)} : F_Mod_mostOf l0 h = some q → jl_Sem jt_T jt_Ms d 183 [.int l0] h (jo_i q) := by
 unfold F_Mod_mostOf
 exact jr_enter (D := 0) hd jM_183_at rfl rfl rfl (fun d hd =>
  jr_iloadn 0 1 rfl rfl rfl
  (jr_ite (fun hx1_0 => jr_tsI 1 36 hx1_0 rfl rfl rfl rfl
  (jr_bipush 36 38 (9 : Int32) rfl jc_b_9 rfl
  (jr_ri 38 rfl rfl)))
  (fun hx1_0 =>
  jr_ite (fun hx1_1 => jr_tsI 1 39 hx1_1 rfl rfl rfl rfl
  (jr_bipush 39 41 (6 : Int32) rfl jc_b_6 rfl
  (jr_ri 41 rfl rfl)))
  (fun hx1_1 =>
  jr_ite (fun hx1_2 => jr_tsI 1 42 hx1_2 rfl rfl rfl rfl
  (jr_bipush 42 44 (10 : Int32) rfl jc_b_10 rfl
  (jr_ri 44 rfl rfl)))
  (fun hx1_2 =>
  jr_ite (fun hx1_3 => jr_tsI 1 45 hx1_3 rfl rfl rfl rfl
  (jr_bipush 45 47 (8 : Int32) rfl jc_b_8 rfl
  (jr_ri 47 rfl rfl)))
  (fun hx1_3 =>
  jr_ite (fun hx1_4 => jr_tsI 1 48 hx1_4 rfl rfl rfl rfl
  (jr_bipush 48 50 (24 : Int32) rfl jc_b_24 rfl
  (jr_ri 50 rfl rfl)))
  (fun hx1_4 =>
  jr_tsD 1 51 rfl (by have := jr_ne (k := 0) jc_t_0 hx1_0; have := jr_ne (k := 1) jc_t_1 hx1_1; have := jr_ne (k := 2) jc_t_2 hx1_2; have := jr_ne (k := 3) jc_t_3 hx1_3; have := jr_ne (k := 4) jc_t_4 hx1_4; omega) rfl
  (jr_bipush 51 53 (6 : Int32) rfl jc_b_6 rfl
  (jr_ri 53 rfl rfl)))))))))
noncomputable def jM_184 : JMeth := (11, false, 0, jk_184, [], 1)
set_option maxRecDepth 100000 in
theorem jM_184_at : jt_Ms 184 = some jM_184 := rfl
noncomputable def F_Mod_skipWord_c0 (k0 : Nat → LH → Option LH) (l0 : Nat) (h : LH) : Option LH :=
 jf_gi h l0 11 4 fun v1 =>
 jf_kd h l0 11
 (jf_bi (F_Mod_byteAt l0 v1 h) fun v2 h3 =>
 jf_bi (F_Mod_isSmall v2 h3) fun v4 h5 =>
 if v4 = 0 then
 some h5
else
 jf_gi h5 l0 11 4 fun v6 =>
 jf_pi h5 l0 11 4 (v6 + (1 : Int32)) fun h7 =>
 k0 l0 h7)
set_option maxRecDepth 100000 in
theorem F_Mod_skipWord_c0_ok {d : Nat} {q : LH} {k0 : Nat → LH → Option LH} (hd : 1 ≤ d) (hk0 : ∀ (l0 : Nat) (h : LH), k0 l0 h = some q → JR d jM_184 0 [.ref l0] [] h (jo_v q)) {l0 : Nat} {h : LH} : F_Mod_skipWord_c0 k0 l0 h = some q → JR d jM_184 0 [.ref l0] [] h (jo_v q) := by
 unfold F_Mod_skipWord_c0
 exact jr_aloadn 0 1 rfl rfl rfl
  (jr_aloadn 1 2 rfl rfl rfl
  (jr_gi 2 5 rfl jg_11_118_1 rfl (fun v1 =>
  jr_cVi 5 8 [] rfl rfl rfl rfl rfl rfl rfl rfl (as := [.int v1]) (F_Mod_byteAt_ok (Nat.le_trans (by decide : 1 ≤ 1) hd)) (fun v2 h3 =>
  jr_cSi 8 11 [] rfl rfl rfl rfl rfl rfl rfl (as := [.int v2]) (F_Mod_isSmall_ok (Nat.le_trans (by decide : 1 ≤ 1) hd)) (fun v4 h5 =>
  jr_if_eq 11 27 14 rfl rfl rfl
  (jr_rv 27 rfl rfl)
  (jr_aloadn 14 15 rfl rfl rfl
  (jr_dup 15 16 rfl rfl rfl
  (jr_gi 16 19 rfl jg_11_118_1 rfl (fun v6 =>
  jr_iconst 19 20 (1 : Int32) rfl jc_i_1 rfl
  (jr_iadd 20 21 rfl rfl
  (jr_pi 21 24 rfl jg_11_118_3 rfl (fun h7 =>
  jr_goto 24 0 rfl rfl
  ((hk0 _ _))))))))))))))
noncomputable def F_Mod_skipWord_l0 : Nat → Nat → LH → Option LH
 | 0, _, _ => none
 | n + 1, l0, h => F_Mod_skipWord_c0 (F_Mod_skipWord_l0 n) l0 h
theorem F_Mod_skipWord_l0_ok {d : Nat} {q : LH} (hd : 1 ≤ d) : ∀ (n : Nat) (l0 : Nat) (h : LH), F_Mod_skipWord_l0 n l0 h = some q → JR d jM_184 0 [.ref l0] [] h (jo_v q)
 | 0 => fun _ _ hq => nomatch (show (none : Option LH) = some q from hq)
 | n + 1 => fun _ _ hq => F_Mod_skipWord_c0_ok hd (F_Mod_skipWord_l0_ok hd n) hq
noncomputable def F_Mod_skipWord (l0 : Nat) (h : LH) : Option LH :=
 F_Mod_skipWord_l0  jF l0 h
set_option maxRecDepth 100000 in
theorem F_Mod_skipWord_ok {d : Nat} (hd : 2 ≤ d) {l0 : Nat} {h : LH} {q : LH} : F_Mod_skipWord l0 h = some q → jl_Sem jt_T jt_Ms d 184 [.ref l0] h (jo_v q) := by
 unfold F_Mod_skipWord
 exact jr_enter (D := 1) hd jM_184_at rfl rfl rfl (fun d hd =>
  (F_Mod_skipWord_l0_ok hd  jF _ _))
noncomputable def jM_186 : JMeth := (11, false, 2, jk_186, [], 1)
set_option maxRecDepth 100000 in
theorem jM_186_at : jt_Ms 186 = some jM_186 := rfl
noncomputable def F_Mod_isDigit_b17 (s0 : Int32) (h : LH) : Option (Int32 × LH) :=
 jf_rz s0 (some (s0, h))
set_option maxRecDepth 100000 in
theorem F_Mod_isDigit_b17_ok {d : Nat} {q : (Int32 × LH)} (hd : 0 ≤ d) {s0 : Int32} {u0 : Value} {h : LH} : F_Mod_isDigit_b17 s0 h = some q → JR d jM_186 17 [u0] [.int s0] h (jo_i q) := by
 unfold F_Mod_isDigit_b17
 exact jr_rz 17 rfl rfl
noncomputable def F_Mod_isDigit_b16 (h : LH) : Option (Int32 × LH) :=
 F_Mod_isDigit_b17  (0 : Int32) h
set_option maxRecDepth 100000 in
theorem F_Mod_isDigit_b16_ok {d : Nat} {q : (Int32 × LH)} (hd : 0 ≤ d) {u0 : Value} {h : LH} : F_Mod_isDigit_b16 h = some q → JR d jM_186 16 [u0] [] h (jo_i q) := by
 unfold F_Mod_isDigit_b16
 exact jr_iconst 16 17 (0 : Int32) rfl jc_i_0 rfl
  ((F_Mod_isDigit_b17_ok hd ))
noncomputable def F_Mod_isDigit (l0 : Int32) (h : LH) : Option (Int32 × LH) :=
 if l0 < (48 : Int32) then
 F_Mod_isDigit_b16  h
else
 if (57 : Int32) < l0 then
 F_Mod_isDigit_b16  h
else
 F_Mod_isDigit_b17  (1 : Int32) h
set_option maxRecDepth 100000 in
theorem F_Mod_isDigit_ok {d : Nat} (hd : 1 ≤ d) {l0 : Int32} {h : LH} {q : (Int32 × LH)} : F_Mod_isDigit l0 h = some q → jl_Sem jt_T jt_Ms d 186 [.int l0] h (jo_i q) := by
 unfold F_Mod_isDigit
 exact jr_enter (D := 0) hd jM_186_at rfl rfl rfl (fun d hd =>
  jr_iloadn 0 1 rfl rfl rfl
  (jr_bipush 1 3 (48 : Int32) rfl jc_b_48 rfl
  (jr_icmp_lt 3 16 6 rfl rfl rfl
  ((F_Mod_isDigit_b16_ok hd ))
  (jr_iloadn 6 7 rfl rfl rfl
  (jr_bipush 7 9 (57 : Int32) rfl jc_b_57 rfl
  (jr_icmp_gt 9 16 12 rfl rfl rfl
  ((F_Mod_isDigit_b16_ok hd ))
  (jr_iconst 12 13 (1 : Int32) rfl jc_i_1 rfl
  (jr_goto 13 17 rfl rfl
  ((F_Mod_isDigit_b17_ok hd ))))))))))
noncomputable def jM_185 : JMeth := (11, false, 1, jk_185, [], 5)
set_option maxRecDepth 100000 in
theorem jM_185_at : jt_Ms 185 = some jM_185 := rfl
noncomputable def F_Mod_number_b135 (s0 : Int32) (h : LH) : Option (Int32 × LH) :=
 some (s0, h)
set_option maxRecDepth 100000 in
theorem F_Mod_number_b135_ok {d : Nat} {q : (Int32 × LH)} (hd : 2 ≤ d) {s0 : Int32} {u0 : Value} {u1 : Value} {u2 : Value} {u3 : Value} {u4 : Value} {h : LH} : F_Mod_number_b135 s0 h = some q → JR d jM_185 135 [u0, u1, u2, u3, u4] [.int s0] h (jo_i q) := by
 unfold F_Mod_number_b135
 exact jr_ri 135 rfl rfl
noncomputable def F_Mod_number_b122 (l0 : Nat) (l4 : Int32) (h : LH) : Option (Int32 × LH) :=
 jf_gi h l0 11 5 fun v1 =>
 if v1 = 0 then
 F_Mod_number_b135  l4 h
else
 F_Mod_number_b135  (0 : Int32) h
set_option maxRecDepth 100000 in
theorem F_Mod_number_b122_ok {d : Nat} {q : (Int32 × LH)} (hd : 2 ≤ d) {l0 : Nat} {l4 : Int32} {u1 : Value} {u2 : Value} {u3 : Value} {h : LH} : F_Mod_number_b122 l0 l4 h = some q → JR d jM_185 122 [.ref l0, u1, u2, u3, .int l4] [] h (jo_i q) := by
 unfold F_Mod_number_b122
 exact jr_aloadn 122 123 rfl rfl rfl
  (jr_gi 123 126 rfl jg_11_125_1 rfl (fun v1 =>
  jr_if_ne 126 134 129 rfl rfl rfl
  (jr_iconst 134 135 (0 : Int32) rfl jc_i_0 rfl
  ((F_Mod_number_b135_ok hd )))
  (jr_iload 129 131 rfl rfl rfl
  (jr_goto 131 135 rfl rfl
  ((F_Mod_number_b135_ok hd ))))))
noncomputable def F_Mod_number_b91 (k44 : Nat → Int32 → Int32 → Int32 → Int32 → LH → Option (Int32 × LH)) (l0 : Nat) (l1 : Int32) (l2 : Int32) (l3 : Int32) (s0 : Int32) (h : LH) : Option (Int32 × LH) :=
 jf_gi h l0 11 4 fun v1 =>
 jf_pi h l0 11 4 (v1 + (1 : Int32)) fun h2 =>
 k44 l0 l1 l2 l3 s0 h2
set_option maxRecDepth 100000 in
theorem F_Mod_number_b91_ok {d : Nat} {q : (Int32 × LH)} {k44 : Nat → Int32 → Int32 → Int32 → Int32 → LH → Option (Int32 × LH)} (hd : 2 ≤ d) (hk44 : ∀ (l0 : Nat) (l1 : Int32) (l2 : Int32) (l3 : Int32) (l4 : Int32) (h : LH), k44 l0 l1 l2 l3 l4 h = some q → JR d jM_185 44 [.ref l0, .int l1, .int l2, .int l3, .int l4] [] h (jo_i q)) {l0 : Nat} {l1 : Int32} {l2 : Int32} {l3 : Int32} {s0 : Int32} {u4 : Value} {h : LH} : F_Mod_number_b91 k44 l0 l1 l2 l3 s0 h = some q → JR d jM_185 91 [.ref l0, .int l1, .int l2, .int l3, u4] [.int s0] h (jo_i q) := by
 unfold F_Mod_number_b91
 exact jr_istore 91 93 [.ref l0, .int l1, .int l2, .int l3, .int s0] rfl rfl rfl rfl
  (jr_aloadn 93 94 rfl rfl rfl
  (jr_dup 94 95 rfl rfl rfl
  (jr_gi 95 98 rfl jg_11_118_1 rfl (fun v1 =>
  jr_iconst 98 99 (1 : Int32) rfl jc_i_1 rfl
  (jr_iadd 99 100 rfl rfl
  (jr_pi 100 103 rfl jg_11_118_3 rfl (fun h2 =>
  jr_goto 103 44 rfl rfl
  ((hk44 _ _ _ _ _ _)))))))))
noncomputable def F_Mod_number_c44 (k44 : Nat → Int32 → Int32 → Int32 → Int32 → LH → Option (Int32 × LH)) (l0 : Nat) (l1 : Int32) (l2 : Int32) (l3 : Int32) (l4 : Int32) (h : LH) : Option (Int32 × LH) :=
 jf_gi h l0 11 4 fun v1 =>
 jf_kd h l0 11
 (jf_bi (F_Mod_byteAt l0 v1 h) fun v2 h3 =>
 jf_bi (F_Mod_isDigit v2 h3) fun v4 h5 =>
 if v4 = 0 then
 jf_bi (F_Mod_in l4 l1 l2 h5) fun v6 h7 =>
 if v6 = 0 then
 jf_kd h7 l0 11
 ((F_Mod_wrong l0 (2 : Int32) l3 h7).bind fun h8 =>
 F_Mod_number_b122  l0 l4 h8)
else
 F_Mod_number_b122  l0 l4 h7
else
 jf_gi h5 l0 11 4 fun v9 =>
 jf_kd h5 l0 11
 (jf_bi (F_Mod_byteAt l0 v9 h5) fun v10 h11 =>
 jf_let ((((10 : Int32) * l4) + v10) - (48 : Int32)) fun v12 =>
 if (100000 : Int32) < v12 then
 F_Mod_number_b91 k44 l0 l1 l2 l3 (100000 : Int32) h11
else
 F_Mod_number_b91 k44 l0 l1 l2 l3 v12 h11))
set_option maxRecDepth 100000 in
theorem F_Mod_number_c44_ok {d : Nat} {q : (Int32 × LH)} {k44 : Nat → Int32 → Int32 → Int32 → Int32 → LH → Option (Int32 × LH)} (hd : 2 ≤ d) (hk44 : ∀ (l0 : Nat) (l1 : Int32) (l2 : Int32) (l3 : Int32) (l4 : Int32) (h : LH), k44 l0 l1 l2 l3 l4 h = some q → JR d jM_185 44 [.ref l0, .int l1, .int l2, .int l3, .int l4] [] h (jo_i q)) {l0 : Nat} {l1 : Int32} {l2 : Int32} {l3 : Int32} {l4 : Int32} {h : LH} : F_Mod_number_c44 k44 l0 l1 l2 l3 l4 h = some q → JR d jM_185 44 [.ref l0, .int l1, .int l2, .int l3, .int l4] [] h (jo_i q) := by
 unfold F_Mod_number_c44
 exact jr_aloadn 44 45 rfl rfl rfl
  (jr_aloadn 45 46 rfl rfl rfl
  (jr_gi 46 49 rfl jg_11_118_1 rfl (fun v1 =>
  jr_cVi 49 52 [] rfl rfl rfl rfl rfl rfl rfl rfl (as := [.int v1]) (F_Mod_byteAt_ok (Nat.le_trans (by decide : 1 ≤ 2) hd)) (fun v2 h3 =>
  jr_cSi 52 55 [] rfl rfl rfl rfl rfl rfl rfl (as := [.int v2]) (F_Mod_isDigit_ok (Nat.le_trans (by decide : 1 ≤ 2) hd)) (fun v4 h5 =>
  jr_if_eq 55 106 58 rfl rfl rfl
  (jr_iload 106 108 rfl rfl rfl
  (jr_iloadn 108 109 rfl rfl rfl
  (jr_iloadn 109 110 rfl rfl rfl
  (jr_cSi 110 113 [] rfl rfl rfl rfl rfl rfl rfl (as := [.int l4, .int l1, .int l2]) (F_Mod_in_ok (Nat.le_trans (by decide : 1 ≤ 2) hd)) (fun v6 h7 =>
  jr_if_ne 113 122 116 rfl rfl rfl
  ((F_Mod_number_b122_ok hd ))
  (jr_aloadn 116 117 rfl rfl rfl
  (jr_iconst 117 118 (2 : Int32) rfl jc_i_2 rfl
  (jr_iloadn 118 119 rfl rfl rfl
  (jr_cVv 119 122 [] rfl rfl rfl rfl rfl rfl rfl rfl (as := [.int (2 : Int32), .int l3]) (F_Mod_wrong_ok (Nat.le_trans (by decide : 1 ≤ 2) hd)) (fun h8 =>
  (F_Mod_number_b122_ok hd )))))))))))
  (jr_bipush 58 60 (10 : Int32) rfl jc_b_10 rfl
  (jr_iload 60 62 rfl rfl rfl
  (jr_imul 62 63 rfl rfl
  (jr_aloadn 63 64 rfl rfl rfl
  (jr_aloadn 64 65 rfl rfl rfl
  (jr_gi 65 68 rfl jg_11_118_1 rfl (fun v9 =>
  jr_cVi 68 71 [.int ((10 : Int32) * l4)] rfl rfl rfl rfl rfl rfl rfl rfl (as := [.int v9]) (F_Mod_byteAt_ok (Nat.le_trans (by decide : 1 ≤ 2) hd)) (fun v10 h11 =>
  jr_iadd 71 72 rfl rfl
  (jr_bipush 72 74 (48 : Int32) rfl jc_b_48 rfl
  (jr_isub 74 75 rfl rfl
  (jr_istoreL 75 77 (fun v12 => [.ref l0, .int l1, .int l2, .int l3, .int v12]) rfl rfl (fun _ => rfl) rfl (fun v12 =>
  jr_iload 77 79 rfl rfl rfl
  (jr_ldci 79 81 rfl rfl rfl rfl
  (jr_icmp_le 81 89 84 rfl rfl rfl
  (jr_iload 89 91 rfl rfl rfl
  ((F_Mod_number_b91_ok hd hk44)))
  (jr_ldci 84 86 rfl rfl rfl rfl
  (jr_goto 86 91 rfl rfl
  ((F_Mod_number_b91_ok hd hk44)))))))))))))))))))))))
noncomputable def F_Mod_number_l44 : Nat → Nat → Int32 → Int32 → Int32 → Int32 → LH → Option (Int32 × LH)
 | 0, _, _, _, _, _, _ => none
 | n + 1, l0, l1, l2, l3, l4, h => F_Mod_number_c44 (F_Mod_number_l44 n) l0 l1 l2 l3 l4 h
theorem F_Mod_number_l44_ok {d : Nat} {q : (Int32 × LH)} (hd : 2 ≤ d) : ∀ (n : Nat) (l0 : Nat) (l1 : Int32) (l2 : Int32) (l3 : Int32) (l4 : Int32) (h : LH), F_Mod_number_l44 n l0 l1 l2 l3 l4 h = some q → JR d jM_185 44 [.ref l0, .int l1, .int l2, .int l3, .int l4] [] h (jo_i q)
 | 0 => fun _ _ _ _ _ _ hq => nomatch (show (none : Option (Int32 × LH)) = some q from hq)
 | n + 1 => fun _ _ _ _ _ _ hq => F_Mod_number_c44_ok hd (F_Mod_number_l44_ok hd n) hq
noncomputable def F_Mod_number (l0 : Nat) (l1 : Int32) (l2 : Int32) (h : LH) : Option (Int32 × LH) :=
 jf_gi h l0 11 5 fun v1 =>
 if v1 = 0 then
 jf_kd h l0 11
 ((F_Mod_blanks l0 h).bind fun h2 =>
 jf_gi h2 l0 11 4 fun v3 =>
 jf_gi h2 l0 11 4 fun v4 =>
 jf_kd h2 l0 11
 (jf_bi (F_Mod_byteAt l0 v4 h2) fun v5 h6 =>
 jf_bi (F_Mod_isDigit v5 h6) fun v7 h8 =>
 if v7 = 0 then
 jf_gi h8 l0 11 4 fun v9 =>
 jf_kd h8 l0 11
 ((F_Mod_wrong l0 (1 : Int32) v9 h8).bind fun h10 =>
 F_Mod_number_l44  jF l0 l1 l2 v3 (0 : Int32) h10)
else
 F_Mod_number_l44  jF l0 l1 l2 v3 (0 : Int32) h8))
else
 some ((0 : Int32), h)
set_option maxRecDepth 100000 in
theorem F_Mod_number_ok {d : Nat} (hd : 3 ≤ d) {l0 : Nat} {l1 : Int32} {l2 : Int32} {h : LH} {q : (Int32 × LH)} : F_Mod_number l0 l1 l2 h = some q → jl_Sem jt_T jt_Ms d 185 [.ref l0, .int l1, .int l2] h (jo_i q) := by
 unfold F_Mod_number
 exact jr_enter (D := 2) hd jM_185_at rfl rfl rfl (fun d hd =>
  jr_aloadn 0 1 rfl rfl rfl
  (jr_gi 1 4 rfl jg_11_125_1 rfl (fun v1 =>
  jr_if_eq 4 9 7 rfl rfl rfl
  (jr_aloadn 9 10 rfl rfl rfl
  (jr_cVv 10 13 [] rfl rfl rfl rfl rfl rfl rfl rfl (as := []) (F_Mod_blanks_ok (Nat.le_trans (by decide : 2 ≤ 2) hd)) (fun h2 =>
  jr_aloadn 13 14 rfl rfl rfl
  (jr_gi 14 17 rfl jg_11_118_1 rfl (fun v3 =>
  jr_istoren 17 18 [.ref l0, .int l1, .int l2, .int v3, .retAddr 0] rfl rfl rfl rfl
  (jr_iconst 18 19 (0 : Int32) rfl jc_i_0 rfl
  (jr_istore 19 21 [.ref l0, .int l1, .int l2, .int v3, .int (0 : Int32)] rfl rfl rfl rfl
  (jr_aloadn 21 22 rfl rfl rfl
  (jr_aloadn 22 23 rfl rfl rfl
  (jr_gi 23 26 rfl jg_11_118_1 rfl (fun v4 =>
  jr_cVi 26 29 [] rfl rfl rfl rfl rfl rfl rfl rfl (as := [.int v4]) (F_Mod_byteAt_ok (Nat.le_trans (by decide : 1 ≤ 2) hd)) (fun v5 h6 =>
  jr_cSi 29 32 [] rfl rfl rfl rfl rfl rfl rfl (as := [.int v5]) (F_Mod_isDigit_ok (Nat.le_trans (by decide : 1 ≤ 2) hd)) (fun v7 h8 =>
  jr_if_ne 32 44 35 rfl rfl rfl
  ((F_Mod_number_l44_ok hd  jF _ _ _ _ _ _))
  (jr_aloadn 35 36 rfl rfl rfl
  (jr_iconst 36 37 (1 : Int32) rfl jc_i_1 rfl
  (jr_aloadn 37 38 rfl rfl rfl
  (jr_gi 38 41 rfl jg_11_118_1 rfl (fun v9 =>
  jr_cVv 41 44 [] rfl rfl rfl rfl rfl rfl rfl rfl (as := [.int (1 : Int32), .int v9]) (F_Mod_wrong_ok (Nat.le_trans (by decide : 1 ≤ 2) hd)) (fun h10 =>
  (F_Mod_number_l44_ok hd  jF _ _ _ _ _ _))))))))))))))))))))
  (jr_iconst 7 8 (0 : Int32) rfl jc_i_0 rfl
  (jr_ri 8 rfl rfl)))))
noncomputable def jM_187 : JMeth := (11, false, 0, jk_187, [], 2)
set_option maxRecDepth 100000 in
theorem jM_187_at : jt_Ms 187 = some jM_187 := rfl
noncomputable def F_Mod_sign_b46 (h : LH) : Option LH :=
 some h
set_option maxRecDepth 100000 in
theorem F_Mod_sign_b46_ok {d : Nat} {q : LH} (hd : 2 ≤ d) {u0 : Value} {u1 : Value} {h : LH} : F_Mod_sign_b46 h = some q → JR d jM_187 46 [u0, u1] [] h (jo_v q) := by
 unfold F_Mod_sign_b46
 exact jr_rv 46 rfl rfl
noncomputable def F_Mod_sign (l0 : Nat) (l1 : Int32) (h : LH) : Option LH :=
 jf_gi h l0 11 5 fun v1 =>
 if v1 = 0 then
 jf_kd h l0 11
 ((F_Mod_blanks l0 h).bind fun h2 =>
 jf_gi h2 l0 11 4 fun v3 =>
 jf_kd h2 l0 11
 (jf_bi (F_Mod_byteAt l0 v3 h2) fun v4 h5 =>
 if v4 = l1 then
 jf_gi h5 l0 11 4 fun v8 =>
 jf_pi h5 l0 11 4 (v8 + (1 : Int32)) fun h9 =>
 F_Mod_sign_b46  h9
else
 jf_gi h5 l0 11 4 fun v6 =>
 jf_kd h5 l0 11
 ((F_Mod_wrong l0 (1 : Int32) v6 h5).bind fun h7 =>
 F_Mod_sign_b46  h7)))
else
 some h
set_option maxRecDepth 100000 in
theorem F_Mod_sign_ok {d : Nat} (hd : 3 ≤ d) {l0 : Nat} {l1 : Int32} {h : LH} {q : LH} : F_Mod_sign l0 l1 h = some q → jl_Sem jt_T jt_Ms d 187 [.ref l0, .int l1] h (jo_v q) := by
 unfold F_Mod_sign
 exact jr_enter (D := 2) hd jM_187_at rfl rfl rfl (fun d hd =>
  jr_aloadn 0 1 rfl rfl rfl
  (jr_gi 1 4 rfl jg_11_125_1 rfl (fun v1 =>
  jr_if_eq 4 8 7 rfl rfl rfl
  (jr_aloadn 8 9 rfl rfl rfl
  (jr_cVv 9 12 [] rfl rfl rfl rfl rfl rfl rfl rfl (as := []) (F_Mod_blanks_ok (Nat.le_trans (by decide : 2 ≤ 2) hd)) (fun h2 =>
  jr_aloadn 12 13 rfl rfl rfl
  (jr_aloadn 13 14 rfl rfl rfl
  (jr_gi 14 17 rfl jg_11_118_1 rfl (fun v3 =>
  jr_cVi 17 20 [] rfl rfl rfl rfl rfl rfl rfl rfl (as := [.int v3]) (F_Mod_byteAt_ok (Nat.le_trans (by decide : 1 ≤ 2) hd)) (fun v4 h5 =>
  jr_iloadn 20 21 rfl rfl rfl
  (jr_icmp_ne 21 37 24 rfl rfl rfl
  (jr_aloadn 37 38 rfl rfl rfl
  (jr_iconst 38 39 (1 : Int32) rfl jc_i_1 rfl
  (jr_aloadn 39 40 rfl rfl rfl
  (jr_gi 40 43 rfl jg_11_118_1 rfl (fun v6 =>
  jr_cVv 43 46 [] rfl rfl rfl rfl rfl rfl rfl rfl (as := [.int (1 : Int32), .int v6]) (F_Mod_wrong_ok (Nat.le_trans (by decide : 1 ≤ 2) hd)) (fun h7 =>
  (F_Mod_sign_b46_ok hd )))))))
  (jr_aloadn 24 25 rfl rfl rfl
  (jr_dup 25 26 rfl rfl rfl
  (jr_gi 26 29 rfl jg_11_118_1 rfl (fun v8 =>
  jr_iconst 29 30 (1 : Int32) rfl jc_i_1 rfl
  (jr_iadd 30 31 rfl rfl
  (jr_pi 31 34 rfl jg_11_118_3 rfl (fun h9 =>
  jr_goto 34 46 rfl rfl
  ((F_Mod_sign_b46_ok hd )))))))))))))))))
  (jr_rv 7 rfl rfl))))
noncomputable def jM_176 : JMeth := (11, false, 0, jk_176, [], 4)
set_option maxRecDepth 100000 in
theorem jM_176_at : jt_Ms 176 = some jM_176 := rfl
noncomputable def F_Mod_clause_b311 (l0 : Nat) (s0 : Nat) (s1 : Int32) (s2 : Int32) (s3 : Int32) (h : LH) : Option LH :=
 jf_is h s0 s1 (s2 + s3) fun h1 =>
 jf_kd h1 l0 11
 ((F_Mod_sign l0 (59 : Int32) h1).bind fun h2 =>
 some h2)
set_option maxRecDepth 100000 in
theorem F_Mod_clause_b311_ok {d : Nat} {q : LH} (hd : 5 ≤ d) {l0 : Nat} {s0 : Nat} {s1 : Int32} {s2 : Int32} {s3 : Int32} {u1 : Value} {u2 : Value} {u3 : Value} {h : LH} : F_Mod_clause_b311 l0 s0 s1 s2 s3 h = some q → JR d jM_176 311 [.ref l0, u1, u2, u3] [.int s3, .int s2, .int s1, .ref s0] h (jo_v q) := by
 unfold F_Mod_clause_b311
 exact jr_iadd 311 312 rfl rfl
  (jr_is 312 313 rfl rfl (fun h1 =>
  jr_aloadn 313 314 rfl rfl rfl
  (jr_bipush 314 316 (59 : Int32) rfl jc_b_59 rfl
  (jr_cVv 316 319 [] rfl rfl rfl rfl rfl rfl rfl rfl (as := [.int (59 : Int32)]) (F_Mod_sign_ok (Nat.le_trans (by decide : 3 ≤ 5) hd)) (fun h2 =>
  jr_rv 319 rfl rfl)))))
noncomputable def F_Mod_clause_b292 (l0 : Nat) (l1 : Int32) (h : LH) : Option LH :=
 jf_gr h l0 11 11 fun v1 =>
 jf_ia h v1 l1 fun v2 =>
 jf_gi h l0 11 5 fun v3 =>
 if v3 = 0 then
 F_Mod_clause_b311  l0 v1 l1 v2 (1 : Int32) h
else
 F_Mod_clause_b311  l0 v1 l1 v2 (0 : Int32) h
set_option maxRecDepth 100000 in
theorem F_Mod_clause_b292_ok {d : Nat} {q : LH} (hd : 5 ≤ d) {l0 : Nat} {l1 : Int32} {u2 : Value} {u3 : Value} {h : LH} : F_Mod_clause_b292 l0 l1 h = some q → JR d jM_176 292 [.ref l0, .int l1, u2, u3] [] h (jo_v q) := by
 unfold F_Mod_clause_b292
 exact jr_aloadn 292 293 rfl rfl rfl
  (jr_gr 293 296 rfl jg_11_20_2 rfl (fun v1 =>
  jr_iloadn 296 297 rfl rfl rfl
  (jr_dup2 297 298 rfl rfl rfl rfl
  (jr_ia 298 299 rfl rfl (fun v2 =>
  jr_aloadn 299 300 rfl rfl rfl
  (jr_gi 300 303 rfl jg_11_125_1 rfl (fun v3 =>
  jr_if_ne 303 310 306 rfl rfl rfl
  (jr_iconst 310 311 (0 : Int32) rfl jc_i_0 rfl
  ((F_Mod_clause_b311_ok hd )))
  (jr_iconst 306 307 (1 : Int32) rfl jc_i_1 rfl
  (jr_goto 307 311 rfl rfl
  ((F_Mod_clause_b311_ok hd )))))))))))
noncomputable def F_Mod_clause_b53 (l0 : Nat) (l1 : Int32) (h : LH) : Option LH :=
 jf_gi h l0 11 5 fun v1 =>
 if v1 = 0 then
 jf_kd h l0 11
 ((F_Mod_skipWord l0 h).bind fun h2 =>
 jf_gi h2 l0 11 7 fun v3 =>
 jf_pi h2 l0 11 7 (v3 + (1 : Int32)) fun h4 =>
 jf_gr h4 l0 11 11 fun v5 =>
 jf_ia h4 v5 l1 fun v6 =>
 if l1 = (0 : Int32) then
 jf_gr h4 l0 11 13 fun v51 =>
 jf_kd h4 l0 11
 (jf_bi (F_Mod_number l0 (0 : Int32) (3 : Int32) h4) fun v52 h53 =>
 jf_is h53 v51 v6 v52 fun h54 =>
 F_Mod_clause_b292  l0 l1 h54)
else
 if l1 = (1 : Int32) then
 jf_gr h4 l0 11 19 fun v37 =>
 jf_aa h4 v37 v6 fun v38 =>
 jf_kd h4 l0 11
 (jf_bi (F_Mod_number l0 (1 : Int32) (20 : Int32) h4) fun v39 h40 =>
 jf_is h40 v38 (0 : Int32) v39 fun h41 =>
 jf_kd h41 l0 11
 (jf_bi (F_Mod_number l0 (1 : Int32) (9 : Int32) h41) fun v42 h43 =>
 jf_is h43 v38 (1 : Int32) v42 fun h44 =>
 jf_kd h44 l0 11
 (jf_bi (F_Mod_number l0 (0 : Int32) (31 : Int32) h44) fun v45 h46 =>
 jf_is h46 v38 (2 : Int32) v45 fun h47 =>
 jf_kd h47 l0 11
 (jf_bi (F_Mod_number l0 (0 : Int32) (40 : Int32) h47) fun v48 h49 =>
 jf_is h49 v38 (3 : Int32) v48 fun h50 =>
 F_Mod_clause_b292  l0 l1 h50))))
else
 if l1 = (2 : Int32) then
 jf_gr h4 l0 11 21 fun v24 =>
 jf_aa h4 v24 v6 fun v25 =>
 jf_gr h4 l0 11 11 fun v26 =>
 jf_ia h4 v26 (0 : Int32) fun v27 =>
 jf_kd h4 l0 11
 (jf_bi (F_Mod_number l0 (0 : Int32) (v27 - (1 : Int32)) h4) fun v28 h29 =>
 jf_is h29 v25 (0 : Int32) v28 fun h30 =>
 jf_kd h30 l0 11
 (jf_bi (F_Mod_number l0 (0 : Int32) (99 : Int32) h30) fun v31 h32 =>
 jf_is h32 v25 (1 : Int32) v31 fun h33 =>
 jf_kd h33 l0 11
 (jf_bi (F_Mod_number l0 (0 : Int32) (9 : Int32) h33) fun v34 h35 =>
 jf_is h35 v25 (2 : Int32) v34 fun h36 =>
 F_Mod_clause_b292  l0 l1 h36)))
else
 if l1 = (3 : Int32) then
 jf_gr h4 l0 11 17 fun v20 =>
 jf_kd h4 l0 11
 (jf_bi (F_Mod_number l0 (0 : Int32) (511 : Int32) h4) fun v21 h22 =>
 jf_is h22 v20 v6 v21 fun h23 =>
 F_Mod_clause_b292  l0 l1 h23)
else
 if l1 = (4 : Int32) then
 jf_gr h4 l0 11 15 fun v16 =>
 jf_kd h4 l0 11
 (jf_bi (F_Mod_number l0 (0 : Int32) (8 : Int32) h4) fun v17 h18 =>
 jf_is h18 v16 v6 v17 fun h19 =>
 F_Mod_clause_b292  l0 l1 h19)
else
 jf_gr h4 l0 11 23 fun v7 =>
 jf_aa h4 v7 v6 fun v8 =>
 jf_kd h4 l0 11
 (jf_bi (F_Mod_number l0 (0 : Int32) (99 : Int32) h4) fun v9 h10 =>
 jf_is h10 v8 (0 : Int32) v9 fun h11 =>
 jf_ia h11 v8 (0 : Int32) fun v12 =>
 jf_kd h11 l0 11
 (jf_bi (F_Mod_number l0 v12 (99 : Int32) h11) fun v13 h14 =>
 jf_is h14 v8 (1 : Int32) v13 fun h15 =>
 F_Mod_clause_b292  l0 l1 h15)))
else
 some h
set_option maxRecDepth 100000 in
theorem F_Mod_clause_b53_ok {d : Nat} {q : LH} (hd : 5 ≤ d) {l0 : Nat} {l1 : Int32} {u2 : Value} {u3 : Value} {h : LH} : F_Mod_clause_b53 l0 l1 h = some q → JR d jM_176 53 [.ref l0, .int l1, u2, u3] [] h (jo_v q) := by
 unfold F_Mod_clause_b53
 exact jr_aloadn 53 54 rfl rfl rfl
  (jr_gi 54 57 rfl jg_11_125_1 rfl (fun v1 =>
  jr_if_eq 57 61 60 rfl rfl rfl
  (jr_aloadn 61 62 rfl rfl rfl
  (jr_cVv 62 65 [] rfl rfl rfl rfl rfl rfl rfl rfl (as := []) (F_Mod_skipWord_ok (Nat.le_trans (by decide : 2 ≤ 5) hd)) (fun h2 =>
  jr_aloadn 65 66 rfl rfl rfl
  (jr_dup 66 67 rfl rfl rfl
  (jr_gi 67 70 rfl jg_11_165_1 rfl (fun v3 =>
  jr_iconst 70 71 (1 : Int32) rfl jc_i_1 rfl
  (jr_iadd 71 72 rfl rfl
  (jr_pi 72 75 rfl jg_11_165_3 rfl (fun h4 =>
  jr_aloadn 75 76 rfl rfl rfl
  (jr_gr 76 79 rfl jg_11_20_2 rfl (fun v5 =>
  jr_iloadn 79 80 rfl rfl rfl
  (jr_ia 80 81 rfl rfl (fun v6 =>
  jr_istoren 81 82 [.ref l0, .int l1, .int v6, u3] rfl rfl rfl rfl
  (jr_iloadn 82 83 rfl rfl rfl
  (jr_ite (fun hx83_0 => jr_tsI 83 116 hx83_0 rfl rfl rfl rfl
  (jr_aloadn 116 117 rfl rfl rfl
  (jr_gr 117 120 rfl jg_11_26_2 rfl (fun v51 =>
  jr_iloadn 120 121 rfl rfl rfl
  (jr_aloadn 121 122 rfl rfl rfl
  (jr_iconst 122 123 (0 : Int32) rfl jc_i_0 rfl
  (jr_iconst 123 124 (3 : Int32) rfl jc_i_3 rfl
  (jr_cVi 124 127 [.int v6, .ref v51] rfl rfl rfl rfl rfl rfl rfl rfl (as := [.int (0 : Int32), .int (3 : Int32)]) (F_Mod_number_ok (Nat.le_trans (by decide : 3 ≤ 5) hd)) (fun v52 h53 =>
  jr_is 127 128 rfl rfl (fun h54 =>
  jr_goto 128 292 rfl rfl
  ((F_Mod_clause_b292_ok hd ))))))))))))
  (fun hx83_0 =>
  jr_ite (fun hx83_1 => jr_tsI 83 131 hx83_1 rfl rfl rfl rfl
  (jr_aloadn 131 132 rfl rfl rfl
  (jr_gr 132 135 rfl jg_11_46_2 rfl (fun v37 =>
  jr_iloadn 135 136 rfl rfl rfl
  (jr_aa 136 137 rfl rfl (fun v38 =>
  jr_astoren 137 138 [.ref l0, .int l1, .int v6, .ref v38] rfl rfl rfl rfl
  (jr_aloadn 138 139 rfl rfl rfl
  (jr_iconst 139 140 (0 : Int32) rfl jc_i_0 rfl
  (jr_aloadn 140 141 rfl rfl rfl
  (jr_iconst 141 142 (1 : Int32) rfl jc_i_1 rfl
  (jr_bipush 142 144 (20 : Int32) rfl jc_b_20 rfl
  (jr_cVi 144 147 [.int (0 : Int32), .ref v38] rfl rfl rfl rfl rfl rfl rfl rfl (as := [.int (1 : Int32), .int (20 : Int32)]) (F_Mod_number_ok (Nat.le_trans (by decide : 3 ≤ 5) hd)) (fun v39 h40 =>
  jr_is 147 148 rfl rfl (fun h41 =>
  jr_aloadn 148 149 rfl rfl rfl
  (jr_iconst 149 150 (1 : Int32) rfl jc_i_1 rfl
  (jr_aloadn 150 151 rfl rfl rfl
  (jr_iconst 151 152 (1 : Int32) rfl jc_i_1 rfl
  (jr_bipush 152 154 (9 : Int32) rfl jc_b_9 rfl
  (jr_cVi 154 157 [.int (1 : Int32), .ref v38] rfl rfl rfl rfl rfl rfl rfl rfl (as := [.int (1 : Int32), .int (9 : Int32)]) (F_Mod_number_ok (Nat.le_trans (by decide : 3 ≤ 5) hd)) (fun v42 h43 =>
  jr_is 157 158 rfl rfl (fun h44 =>
  jr_aloadn 158 159 rfl rfl rfl
  (jr_iconst 159 160 (2 : Int32) rfl jc_i_2 rfl
  (jr_aloadn 160 161 rfl rfl rfl
  (jr_iconst 161 162 (0 : Int32) rfl jc_i_0 rfl
  (jr_bipush 162 164 (31 : Int32) rfl jc_b_31 rfl
  (jr_cVi 164 167 [.int (2 : Int32), .ref v38] rfl rfl rfl rfl rfl rfl rfl rfl (as := [.int (0 : Int32), .int (31 : Int32)]) (F_Mod_number_ok (Nat.le_trans (by decide : 3 ≤ 5) hd)) (fun v45 h46 =>
  jr_is 167 168 rfl rfl (fun h47 =>
  jr_aloadn 168 169 rfl rfl rfl
  (jr_iconst 169 170 (3 : Int32) rfl jc_i_3 rfl
  (jr_aloadn 170 171 rfl rfl rfl
  (jr_iconst 171 172 (0 : Int32) rfl jc_i_0 rfl
  (jr_bipush 172 174 (40 : Int32) rfl jc_b_40 rfl
  (jr_cVi 174 177 [.int (3 : Int32), .ref v38] rfl rfl rfl rfl rfl rfl rfl rfl (as := [.int (0 : Int32), .int (40 : Int32)]) (F_Mod_number_ok (Nat.le_trans (by decide : 3 ≤ 5) hd)) (fun v48 h49 =>
  jr_is 177 178 rfl rfl (fun h50 =>
  jr_goto 178 292 rfl rfl
  ((F_Mod_clause_b292_ok hd )))))))))))))))))))))))))))))))))))))
  (fun hx83_1 =>
  jr_ite (fun hx83_2 => jr_tsI 83 181 hx83_2 rfl rfl rfl rfl
  (jr_aloadn 181 182 rfl rfl rfl
  (jr_gr 182 185 rfl jg_11_52_2 rfl (fun v24 =>
  jr_iloadn 185 186 rfl rfl rfl
  (jr_aa 186 187 rfl rfl (fun v25 =>
  jr_astoren 187 188 [.ref l0, .int l1, .int v6, .ref v25] rfl rfl rfl rfl
  (jr_aloadn 188 189 rfl rfl rfl
  (jr_iconst 189 190 (0 : Int32) rfl jc_i_0 rfl
  (jr_aloadn 190 191 rfl rfl rfl
  (jr_iconst 191 192 (0 : Int32) rfl jc_i_0 rfl
  (jr_aloadn 192 193 rfl rfl rfl
  (jr_gr 193 196 rfl jg_11_20_2 rfl (fun v26 =>
  jr_iconst 196 197 (0 : Int32) rfl jc_i_0 rfl
  (jr_ia 197 198 rfl rfl (fun v27 =>
  jr_iconst 198 199 (1 : Int32) rfl jc_i_1 rfl
  (jr_isub 199 200 rfl rfl
  (jr_cVi 200 203 [.int (0 : Int32), .ref v25] rfl rfl rfl rfl rfl rfl rfl rfl (as := [.int (0 : Int32), .int (v27 - (1 : Int32))]) (F_Mod_number_ok (Nat.le_trans (by decide : 3 ≤ 5) hd)) (fun v28 h29 =>
  jr_is 203 204 rfl rfl (fun h30 =>
  jr_aloadn 204 205 rfl rfl rfl
  (jr_iconst 205 206 (1 : Int32) rfl jc_i_1 rfl
  (jr_aloadn 206 207 rfl rfl rfl
  (jr_iconst 207 208 (0 : Int32) rfl jc_i_0 rfl
  (jr_bipush 208 210 (99 : Int32) rfl jc_b_99 rfl
  (jr_cVi 210 213 [.int (1 : Int32), .ref v25] rfl rfl rfl rfl rfl rfl rfl rfl (as := [.int (0 : Int32), .int (99 : Int32)]) (F_Mod_number_ok (Nat.le_trans (by decide : 3 ≤ 5) hd)) (fun v31 h32 =>
  jr_is 213 214 rfl rfl (fun h33 =>
  jr_aloadn 214 215 rfl rfl rfl
  (jr_iconst 215 216 (2 : Int32) rfl jc_i_2 rfl
  (jr_aloadn 216 217 rfl rfl rfl
  (jr_iconst 217 218 (0 : Int32) rfl jc_i_0 rfl
  (jr_bipush 218 220 (9 : Int32) rfl jc_b_9 rfl
  (jr_cVi 220 223 [.int (2 : Int32), .ref v25] rfl rfl rfl rfl rfl rfl rfl rfl (as := [.int (0 : Int32), .int (9 : Int32)]) (F_Mod_number_ok (Nat.le_trans (by decide : 3 ≤ 5) hd)) (fun v34 h35 =>
  jr_is 223 224 rfl rfl (fun h36 =>
  jr_goto 224 292 rfl rfl
  ((F_Mod_clause_b292_ok hd )))))))))))))))))))))))))))))))))))
  (fun hx83_2 =>
  jr_ite (fun hx83_3 => jr_tsI 83 227 hx83_3 rfl rfl rfl rfl
  (jr_aloadn 227 228 rfl rfl rfl
  (jr_gr 228 231 rfl jg_11_38_2 rfl (fun v20 =>
  jr_iloadn 231 232 rfl rfl rfl
  (jr_aloadn 232 233 rfl rfl rfl
  (jr_iconst 233 234 (0 : Int32) rfl jc_i_0 rfl
  (jr_sipush 234 237 (511 : Int32) rfl jc_s_511 rfl
  (jr_cVi 237 240 [.int v6, .ref v20] rfl rfl rfl rfl rfl rfl rfl rfl (as := [.int (0 : Int32), .int (511 : Int32)]) (F_Mod_number_ok (Nat.le_trans (by decide : 3 ≤ 5) hd)) (fun v21 h22 =>
  jr_is 240 241 rfl rfl (fun h23 =>
  jr_goto 241 292 rfl rfl
  ((F_Mod_clause_b292_ok hd ))))))))))))
  (fun hx83_3 =>
  jr_ite (fun hx83_4 => jr_tsI 83 244 hx83_4 rfl rfl rfl rfl
  (jr_aloadn 244 245 rfl rfl rfl
  (jr_gr 245 248 rfl jg_11_32_2 rfl (fun v16 =>
  jr_iloadn 248 249 rfl rfl rfl
  (jr_aloadn 249 250 rfl rfl rfl
  (jr_iconst 250 251 (0 : Int32) rfl jc_i_0 rfl
  (jr_bipush 251 253 (8 : Int32) rfl jc_b_8 rfl
  (jr_cVi 253 256 [.int v6, .ref v16] rfl rfl rfl rfl rfl rfl rfl rfl (as := [.int (0 : Int32), .int (8 : Int32)]) (F_Mod_number_ok (Nat.le_trans (by decide : 3 ≤ 5) hd)) (fun v17 h18 =>
  jr_is 256 257 rfl rfl (fun h19 =>
  jr_goto 257 292 rfl rfl
  ((F_Mod_clause_b292_ok hd ))))))))))))
  (fun hx83_4 =>
  jr_tsD 83 260 rfl (by have := jr_ne (k := 0) jc_t_0 hx83_0; have := jr_ne (k := 1) jc_t_1 hx83_1; have := jr_ne (k := 2) jc_t_2 hx83_2; have := jr_ne (k := 3) jc_t_3 hx83_3; have := jr_ne (k := 4) jc_t_4 hx83_4; omega) rfl
  (jr_aloadn 260 261 rfl rfl rfl
  (jr_gr 261 264 rfl jg_11_58_2 rfl (fun v7 =>
  jr_iloadn 264 265 rfl rfl rfl
  (jr_aa 265 266 rfl rfl (fun v8 =>
  jr_astoren 266 267 [.ref l0, .int l1, .int v6, .ref v8] rfl rfl rfl rfl
  (jr_aloadn 267 268 rfl rfl rfl
  (jr_iconst 268 269 (0 : Int32) rfl jc_i_0 rfl
  (jr_aloadn 269 270 rfl rfl rfl
  (jr_iconst 270 271 (0 : Int32) rfl jc_i_0 rfl
  (jr_bipush 271 273 (99 : Int32) rfl jc_b_99 rfl
  (jr_cVi 273 276 [.int (0 : Int32), .ref v8] rfl rfl rfl rfl rfl rfl rfl rfl (as := [.int (0 : Int32), .int (99 : Int32)]) (F_Mod_number_ok (Nat.le_trans (by decide : 3 ≤ 5) hd)) (fun v9 h10 =>
  jr_is 276 277 rfl rfl (fun h11 =>
  jr_aloadn 277 278 rfl rfl rfl
  (jr_iconst 278 279 (1 : Int32) rfl jc_i_1 rfl
  (jr_aloadn 279 280 rfl rfl rfl
  (jr_aloadn 280 281 rfl rfl rfl
  (jr_iconst 281 282 (0 : Int32) rfl jc_i_0 rfl
  (jr_ia 282 283 rfl rfl (fun v12 =>
  jr_bipush 283 285 (99 : Int32) rfl jc_b_99 rfl
  (jr_cVi 285 288 [.int (1 : Int32), .ref v8] rfl rfl rfl rfl rfl rfl rfl rfl (as := [.int v12, .int (99 : Int32)]) (F_Mod_number_ok (Nat.le_trans (by decide : 3 ≤ 5) hd)) (fun v13 h14 =>
  jr_is 288 289 rfl rfl (fun h15 =>
  jr_goto 289 292 rfl rfl
  ((F_Mod_clause_b292_ok hd ))))))))))))))))))))))))))))))))))))))))))))
  (jr_rv 60 rfl rfl)))
noncomputable def F_Mod_clause_b44 (l0 : Nat) (l1 : Int32) (h : LH) : Option LH :=
 jf_gi h l0 11 4 fun v1 =>
 jf_kd h l0 11
 ((F_Mod_wrong l0 (3 : Int32) v1 h).bind fun h2 =>
 F_Mod_clause_b53  l0 l1 h2)
set_option maxRecDepth 100000 in
theorem F_Mod_clause_b44_ok {d : Nat} {q : LH} (hd : 5 ≤ d) {l0 : Nat} {l1 : Int32} {u2 : Value} {u3 : Value} {h : LH} : F_Mod_clause_b44 l0 l1 h = some q → JR d jM_176 44 [.ref l0, .int l1, u2, u3] [] h (jo_v q) := by
 unfold F_Mod_clause_b44
 exact jr_aloadn 44 45 rfl rfl rfl
  (jr_iconst 45 46 (3 : Int32) rfl jc_i_3 rfl
  (jr_aloadn 46 47 rfl rfl rfl
  (jr_gi 47 50 rfl jg_11_118_1 rfl (fun v1 =>
  jr_cVv 50 53 [] rfl rfl rfl rfl rfl rfl rfl rfl (as := [.int (3 : Int32), .int v1]) (F_Mod_wrong_ok (Nat.le_trans (by decide : 1 ≤ 5) hd)) (fun h2 =>
  (F_Mod_clause_b53_ok hd ))))))
noncomputable def F_Mod_clause (l0 : Nat) (h : LH) : Option LH :=
 jf_kd h l0 11
 (jf_bi (F_Mod_kindHere l0 h) fun v1 h2 =>
 if v1 = (-1 : Int32) then
 jf_gi h2 l0 11 4 fun v8 =>
 jf_kd h2 l0 11
 ((F_Mod_wrong l0 (1 : Int32) v8 h2).bind fun h9 =>
 F_Mod_clause_b53  l0 v1 h9)
else
 jf_gi h2 l0 11 7 fun v3 =>
 if v3 = (60 : Int32) then
 F_Mod_clause_b44  l0 v1 h2
else
 jf_gr h2 l0 11 11 fun v4 =>
 jf_ia h2 v4 v1 fun v5 =>
 jf_bi (F_Mod_mostOf v1 h2) fun v6 h7 =>
 if v5 = v6 then
 F_Mod_clause_b44  l0 v1 h7
else
 F_Mod_clause_b53  l0 v1 h7)
set_option maxRecDepth 100000 in
theorem F_Mod_clause_ok {d : Nat} (hd : 6 ≤ d) {l0 : Nat} {h : LH} {q : LH} : F_Mod_clause l0 h = some q → jl_Sem jt_T jt_Ms d 176 [.ref l0] h (jo_v q) := by
 unfold F_Mod_clause
 exact jr_enter (D := 5) hd jM_176_at rfl rfl rfl (fun d hd =>
  jr_aloadn 0 1 rfl rfl rfl
  (jr_cVi 1 4 [] rfl rfl rfl rfl rfl rfl rfl rfl (as := []) (F_Mod_kindHere_ok (Nat.le_trans (by decide : 5 ≤ 5) hd)) (fun v1 h2 =>
  jr_istoren 4 5 [.ref l0, .int v1, .retAddr 0, .retAddr 0] rfl rfl rfl rfl
  (jr_iloadn 5 6 rfl rfl rfl
  (jr_iconst 6 7 (-1 : Int32) rfl jc_i_m1 rfl
  (jr_icmp_ne 7 22 10 rfl rfl rfl
  (jr_aloadn 22 23 rfl rfl rfl
  (jr_gi 23 26 rfl jg_11_165_1 rfl (fun v3 =>
  jr_bipush 26 28 (60 : Int32) rfl jc_b_60 rfl
  (jr_icmp_eq 28 44 31 rfl rfl rfl
  ((F_Mod_clause_b44_ok hd ))
  (jr_aloadn 31 32 rfl rfl rfl
  (jr_gr 32 35 rfl jg_11_20_2 rfl (fun v4 =>
  jr_iloadn 35 36 rfl rfl rfl
  (jr_ia 36 37 rfl rfl (fun v5 =>
  jr_iloadn 37 38 rfl rfl rfl
  (jr_cSi 38 41 [.int v5] rfl rfl rfl rfl rfl rfl rfl (as := [.int v1]) (F_Mod_mostOf_ok (Nat.le_trans (by decide : 1 ≤ 5) hd)) (fun v6 h7 =>
  jr_icmp_ne 41 53 44 rfl rfl rfl
  ((F_Mod_clause_b53_ok hd ))
  ((F_Mod_clause_b44_ok hd )))))))))))))
  (jr_aloadn 10 11 rfl rfl rfl
  (jr_iconst 11 12 (1 : Int32) rfl jc_i_1 rfl
  (jr_aloadn 12 13 rfl rfl rfl
  (jr_gi 13 16 rfl jg_11_118_1 rfl (fun v8 =>
  jr_cVv 16 19 [] rfl rfl rfl rfl rfl rfl rfl rfl (as := [.int (1 : Int32), .int v8]) (F_Mod_wrong_ok (Nat.le_trans (by decide : 1 ≤ 5) hd)) (fun h9 =>
  jr_goto 19 53 rfl rfl
  ((F_Mod_clause_b53_ok hd ))))))))))))))
noncomputable def jM_188 : JMeth := (11, false, 1, jk_188, [], 1)
set_option maxRecDepth 100000 in
theorem jM_188_at : jt_Ms 188 = some jM_188 := rfl
noncomputable def F_Mod_ends (l0 : Nat) (h : LH) : Option (Int32 × LH) :=
 jf_gi h l0 11 6 fun v1 =>
 jf_pi h l0 11 3 v1 fun h2 =>
 jf_gi h2 l0 11 5 fun v3 =>
 some ((v3 - (10 : Int32)), h2)
set_option maxRecDepth 100000 in
theorem F_Mod_ends_ok {d : Nat} (hd : 1 ≤ d) {l0 : Nat} {h : LH} {q : (Int32 × LH)} : F_Mod_ends l0 h = some q → jl_Sem jt_T jt_Ms d 188 [.ref l0] h (jo_i q) := by
 unfold F_Mod_ends
 exact jr_enter (D := 0) hd jM_188_at rfl rfl rfl (fun d hd =>
  jr_aloadn 0 1 rfl rfl rfl
  (jr_aloadn 1 2 rfl rfl rfl
  (jr_gi 2 5 rfl jg_11_128_1 rfl (fun v1 =>
  jr_pi 5 8 rfl jg_11_9_3 rfl (fun h2 =>
  jr_aloadn 8 9 rfl rfl rfl
  (jr_gi 9 12 rfl jg_11_125_1 rfl (fun v3 =>
  jr_bipush 12 14 (10 : Int32) rfl jc_b_10 rfl
  (jr_isub 14 15 rfl rfl
  (jr_ri 15 rfl rfl)))))))))
noncomputable def jM_170 : JMeth := (11, false, 1, jk_170, [], 3)
set_option maxRecDepth 100000 in
theorem jM_170_at : jt_Ms 170 = some jM_170 := rfl
noncomputable def F_Mod_town_b88 (l0 : Nat) (h : LH) : Option (Int32 × LH) :=
 jf_gi h l0 11 5 fun v1 =>
 if v1 = 0 then
 jf_pi h l0 11 3 (-1 : Int32) fun h2 =>
 jf_kd h2 l0 11
 ((F_Mod_beginsAnew l0 h2).bind fun h3 =>
 jf_gr h3 l0 11 12 fun v4 =>
 jf_ia h3 v4 (0 : Int32) fun v5 =>
 some (v5, h3))
else
 jf_kd h l0 11
 (jf_bi (F_Mod_ends l0 h) fun v6 h7 =>
 some (v6, h7))
set_option maxRecDepth 100000 in
theorem F_Mod_town_b88_ok {d : Nat} {q : (Int32 × LH)} (hd : 6 ≤ d) {l0 : Nat} {u1 : Value} {u2 : Value} {h : LH} : F_Mod_town_b88 l0 h = some q → JR d jM_170 88 [.ref l0, u1, u2] [] h (jo_i q) := by
 unfold F_Mod_town_b88
 exact jr_aloadn 88 89 rfl rfl rfl
  (jr_gi 89 92 rfl jg_11_125_1 rfl (fun v1 =>
  jr_if_eq 92 100 95 rfl rfl rfl
  (jr_aloadn 100 101 rfl rfl rfl
  (jr_iconst 101 102 (-1 : Int32) rfl jc_i_m1 rfl
  (jr_pi 102 105 rfl jg_11_9_3 rfl (fun h2 =>
  jr_aloadn 105 106 rfl rfl rfl
  (jr_cVv 106 109 [] rfl rfl rfl rfl rfl rfl rfl rfl (as := []) (F_Mod_beginsAnew_ok (Nat.le_trans (by decide : 2 ≤ 6) hd)) (fun h3 =>
  jr_aloadn 109 110 rfl rfl rfl
  (jr_gr 110 113 rfl jg_11_23_2 rfl (fun v4 =>
  jr_iconst 113 114 (0 : Int32) rfl jc_i_0 rfl
  (jr_ia 114 115 rfl rfl (fun v5 =>
  jr_ri 115 rfl rfl))))))))))
  (jr_aloadn 95 96 rfl rfl rfl
  (jr_cVi 96 99 [] rfl rfl rfl rfl rfl rfl rfl rfl (as := []) (F_Mod_ends_ok (Nat.le_trans (by decide : 1 ≤ 6) hd)) (fun v6 h7 =>
  jr_ri 99 rfl rfl)))))
noncomputable def F_Mod_town_c59 (k59 : Nat → LH → Option (Int32 × LH)) (l0 : Nat) (h : LH) : Option (Int32 × LH) :=
 jf_gi h l0 11 5 fun v1 =>
 if v1 = 0 then
 jf_gi h l0 11 4 fun v2 =>
 jf_gi h l0 11 2 fun v3 =>
 if v2 < v3 then
 jf_kd h l0 11
 ((F_Mod_clause l0 h).bind fun h4 =>
 jf_kd h4 l0 11
 ((F_Mod_blanks l0 h4).bind fun h5 =>
 k59 l0 h5))
else
 F_Mod_town_b88  l0 h
else
 F_Mod_town_b88  l0 h
set_option maxRecDepth 100000 in
theorem F_Mod_town_c59_ok {d : Nat} {q : (Int32 × LH)} {k59 : Nat → LH → Option (Int32 × LH)} (hd : 6 ≤ d) (hk59 : ∀ (l0 : Nat) (u1 : Value) (u2 : Value) (h : LH), k59 l0 h = some q → JR d jM_170 59 [.ref l0, u1, u2] [] h (jo_i q)) {l0 : Nat} {u1 : Value} {u2 : Value} {h : LH} : F_Mod_town_c59 k59 l0 h = some q → JR d jM_170 59 [.ref l0, u1, u2] [] h (jo_i q) := by
 unfold F_Mod_town_c59
 exact jr_aloadn 59 60 rfl rfl rfl
  (jr_gi 60 63 rfl jg_11_125_1 rfl (fun v1 =>
  jr_if_ne 63 88 66 rfl rfl rfl
  ((F_Mod_town_b88_ok hd ))
  (jr_aloadn 66 67 rfl rfl rfl
  (jr_gi 67 70 rfl jg_11_118_1 rfl (fun v2 =>
  jr_aloadn 70 71 rfl rfl rfl
  (jr_gi 71 74 rfl jg_11_115_1 rfl (fun v3 =>
  jr_icmp_ge 74 88 77 rfl rfl rfl
  ((F_Mod_town_b88_ok hd ))
  (jr_aloadn 77 78 rfl rfl rfl
  (jr_cVv 78 81 [] rfl rfl rfl rfl rfl rfl rfl rfl (as := []) (F_Mod_clause_ok (Nat.le_trans (by decide : 6 ≤ 6) hd)) (fun h4 =>
  jr_aloadn 81 82 rfl rfl rfl
  (jr_cVv 82 85 [] rfl rfl rfl rfl rfl rfl rfl rfl (as := []) (F_Mod_blanks_ok (Nat.le_trans (by decide : 2 ≤ 6) hd)) (fun h5 =>
  jr_goto 85 59 rfl rfl
  ((hk59 _ _ _ _))))))))))))))
noncomputable def F_Mod_town_l59 : Nat → Nat → LH → Option (Int32 × LH)
 | 0, _, _ => none
 | n + 1, l0, h => F_Mod_town_c59 (F_Mod_town_l59 n) l0 h
theorem F_Mod_town_l59_ok {d : Nat} {q : (Int32 × LH)} (hd : 6 ≤ d) : ∀ (n : Nat) (l0 : Nat) (u1 : Value) (u2 : Value) (h : LH), F_Mod_town_l59 n l0 h = some q → JR d jM_170 59 [.ref l0, u1, u2] [] h (jo_i q)
 | 0 => fun _ _ _ _ hq => nomatch (show (none : Option (Int32 × LH)) = some q from hq)
 | n + 1 => fun _ _ _ _ hq => F_Mod_town_c59_ok hd (F_Mod_town_l59_ok hd n) hq
noncomputable def F_Mod_town_c40 (k40 : Nat → Int32 → LH → Option (Int32 × LH)) (l0 : Nat) (l2 : Int32) (h : LH) : Option (Int32 × LH) :=
 if l2 < (6 : Int32) then
 jf_gr h l0 11 11 fun v1 =>
 jf_is h v1 l2 (0 : Int32) fun h2 =>
 k40 l0 (l2 + (1 : Int32)) h2
else
 F_Mod_town_l59  jF l0 h
set_option maxRecDepth 100000 in
theorem F_Mod_town_c40_ok {d : Nat} {q : (Int32 × LH)} {k40 : Nat → Int32 → LH → Option (Int32 × LH)} (hd : 6 ≤ d) (hk40 : ∀ (l0 : Nat) (l2 : Int32) (u1 : Value) (h : LH), k40 l0 l2 h = some q → JR d jM_170 40 [.ref l0, u1, .int l2] [] h (jo_i q)) {l0 : Nat} {l2 : Int32} {u1 : Value} {h : LH} : F_Mod_town_c40 k40 l0 l2 h = some q → JR d jM_170 40 [.ref l0, u1, .int l2] [] h (jo_i q) := by
 unfold F_Mod_town_c40
 exact jr_iloadn 40 41 rfl rfl rfl
  (jr_bipush 41 43 (6 : Int32) rfl jc_b_6 rfl
  (jr_icmp_ge 43 59 46 rfl rfl rfl
  ((F_Mod_town_l59_ok hd  jF _ _ _ _))
  (jr_aloadn 46 47 rfl rfl rfl
  (jr_gr 47 50 rfl jg_11_20_2 rfl (fun v1 =>
  jr_iloadn 50 51 rfl rfl rfl
  (jr_iconst 51 52 (0 : Int32) rfl jc_i_0 rfl
  (jr_is 52 53 rfl rfl (fun h2 =>
  jr_iinc 53 56 [.ref l0, u1, .int (l2 + (1 : Int32))] rfl jc_i_1 rfl rfl rfl rfl
  (jr_goto 56 40 rfl rfl
  ((hk40 _ _ _ _)))))))))))
noncomputable def F_Mod_town_l40 : Nat → Nat → Int32 → LH → Option (Int32 × LH)
 | 0, _, _, _ => none
 | n + 1, l0, l2, h => F_Mod_town_c40 (F_Mod_town_l40 n) l0 l2 h
theorem F_Mod_town_l40_ok {d : Nat} {q : (Int32 × LH)} (hd : 6 ≤ d) : ∀ (n : Nat) (l0 : Nat) (l2 : Int32) (u1 : Value) (h : LH), F_Mod_town_l40 n l0 l2 h = some q → JR d jM_170 40 [.ref l0, u1, .int l2] [] h (jo_i q)
 | 0 => fun _ _ _ _ hq => nomatch (show (none : Option (Int32 × LH)) = some q from hq)
 | n + 1 => fun _ _ _ _ hq => F_Mod_town_c40_ok hd (F_Mod_town_l40_ok hd n) hq
noncomputable def F_Mod_town_b23 (l0 : Nat) (l1 : Int32) (s0 : Nat) (s1 : Int32) (h : LH) : Option (Int32 × LH) :=
 jf_kd h s0 11
 (jf_bi (F_Mod_bad s0 s1 (1 : Int32) (1 : Int32) h) fun v1 h2 =>
 if v1 = 0 then
 jf_kd h2 l0 11
 ((F_Mod_starts l0 l1 h2).bind fun h3 =>
 F_Mod_town_l40  jF l0 (0 : Int32) h3)
else
 some ((0 : Int32), h2))
set_option maxRecDepth 100000 in
theorem F_Mod_town_b23_ok {d : Nat} {q : (Int32 × LH)} (hd : 6 ≤ d) {l0 : Nat} {l1 : Int32} {s0 : Nat} {s1 : Int32} {u2 : Value} {h : LH} : F_Mod_town_b23 l0 l1 s0 s1 h = some q → JR d jM_170 23 [.ref l0, .int l1, u2] [.int s1, .ref s0] h (jo_i q) := by
 unfold F_Mod_town_b23
 exact jr_iconst 23 24 (1 : Int32) rfl jc_i_1 rfl
  (jr_iconst 24 25 (1 : Int32) rfl jc_i_1 rfl
  (jr_cVi 25 28 [] rfl rfl rfl rfl rfl rfl rfl rfl (as := [.int s1, .int (1 : Int32), .int (1 : Int32)]) (F_Mod_bad_ok (Nat.le_trans (by decide : 1 ≤ 6) hd)) (fun v1 h2 =>
  jr_if_eq 28 33 31 rfl rfl rfl
  (jr_aloadn 33 34 rfl rfl rfl
  (jr_iloadn 34 35 rfl rfl rfl
  (jr_cVv 35 38 [] rfl rfl rfl rfl rfl rfl rfl rfl (as := [.int l1]) (F_Mod_starts_ok (Nat.le_trans (by decide : 3 ≤ 6) hd)) (fun h3 =>
  jr_iconst 38 39 (0 : Int32) rfl jc_i_0 rfl
  (jr_istoren 39 40 [.ref l0, .int l1, .int (0 : Int32)] rfl rfl rfl rfl
  ((F_Mod_town_l40_ok hd  jF _ _ _ _)))))))
  (jr_iconst 31 32 (0 : Int32) rfl jc_i_0 rfl
  (jr_ri 32 rfl rfl)))))
noncomputable def F_Mod_town (l0 : Nat) (l1 : Int32) (h : LH) : Option (Int32 × LH) :=
 jf_pi h l0 11 0 (0 : Int32) fun h1 =>
 jf_gi h1 l0 11 1 fun v2 =>
 jf_bi (F_Mod_in l1 (0 : Int32) v2 h1) fun v3 h4 =>
 if v3 = 0 then
 F_Mod_town_b23  l0 l1 l0 (1 : Int32) h4
else
 F_Mod_town_b23  l0 l1 l0 (0 : Int32) h4
set_option maxRecDepth 100000 in
theorem F_Mod_town_ok {d : Nat} (hd : 7 ≤ d) {l0 : Nat} {l1 : Int32} {h : LH} {q : (Int32 × LH)} : F_Mod_town l0 l1 h = some q → jl_Sem jt_T jt_Ms d 170 [.ref l0, .int l1] h (jo_i q) := by
 unfold F_Mod_town
 exact jr_enter (D := 6) hd jM_170_at rfl rfl rfl (fun d hd =>
  jr_aloadn 0 1 rfl rfl rfl
  (jr_iconst 1 2 (0 : Int32) rfl jc_i_0 rfl
  (jr_pi 2 5 rfl jg_11_109_3 rfl (fun h1 =>
  jr_aloadn 5 6 rfl rfl rfl
  (jr_iloadn 6 7 rfl rfl rfl
  (jr_iconst 7 8 (0 : Int32) rfl jc_i_0 rfl
  (jr_aloadn 8 9 rfl rfl rfl
  (jr_gi 9 12 rfl jg_11_112_1 rfl (fun v2 =>
  jr_cSi 12 15 [.ref l0] rfl rfl rfl rfl rfl rfl rfl (as := [.int l1, .int (0 : Int32), .int v2]) (F_Mod_in_ok (Nat.le_trans (by decide : 1 ≤ 6) hd)) (fun v3 h4 =>
  jr_if_ne 15 22 18 rfl rfl rfl
  (jr_iconst 22 23 (0 : Int32) rfl jc_i_0 rfl
  ((F_Mod_town_b23_ok hd )))
  (jr_iconst 18 19 (1 : Int32) rfl jc_i_1 rfl
  (jr_goto 19 23 rfl rfl
  ((F_Mod_town_b23_ok hd ))))))))))))))
noncomputable def jM_193 : JMeth := (11, false, 2, jk_193, [], 1)
set_option maxRecDepth 100000 in
theorem jM_193_at : jt_Ms 193 = some jM_193 := rfl
noncomputable def F_Mod_opensOne_b57 (s0 : Int32) (h : LH) : Option (Int32 × LH) :=
 jf_rz s0 (some (s0, h))
set_option maxRecDepth 100000 in
theorem F_Mod_opensOne_b57_ok {d : Nat} {q : (Int32 × LH)} (hd : 1 ≤ d) {s0 : Int32} {u0 : Value} {h : LH} : F_Mod_opensOne_b57 s0 h = some q → JR d jM_193 57 [u0] [.int s0] h (jo_i q) := by
 unfold F_Mod_opensOne_b57
 exact jr_rz 57 rfl rfl
noncomputable def F_Mod_opensOne_b45 (l0 : Nat) (h : LH) : Option (Int32 × LH) :=
 jf_gi h l0 11 5 fun v1 =>
 if v1 = 0 then
 F_Mod_opensOne_b57  (1 : Int32) h
else
 F_Mod_opensOne_b57  (0 : Int32) h
set_option maxRecDepth 100000 in
theorem F_Mod_opensOne_b45_ok {d : Nat} {q : (Int32 × LH)} (hd : 1 ≤ d) {l0 : Nat} {h : LH} : F_Mod_opensOne_b45 l0 h = some q → JR d jM_193 45 [.ref l0] [] h (jo_i q) := by
 unfold F_Mod_opensOne_b45
 exact jr_aloadn 45 46 rfl rfl rfl
  (jr_gi 46 49 rfl jg_11_125_1 rfl (fun v1 =>
  jr_if_ne 49 56 52 rfl rfl rfl
  (jr_iconst 56 57 (0 : Int32) rfl jc_i_0 rfl
  ((F_Mod_opensOne_b57_ok hd )))
  (jr_iconst 52 53 (1 : Int32) rfl jc_i_1 rfl
  (jr_goto 53 57 rfl rfl
  ((F_Mod_opensOne_b57_ok hd ))))))
noncomputable def F_Mod_opensOne_b28 (l0 : Nat) (h : LH) : Option (Int32 × LH) :=
 jf_gi h l0 11 5 fun v1 =>
 if v1 = 0 then
 jf_gi h l0 11 8 fun v2 =>
 jf_pi h l0 11 8 (v2 + (1 : Int32)) fun h3 =>
 F_Mod_opensOne_b45  l0 h3
else
 F_Mod_opensOne_b45  l0 h
set_option maxRecDepth 100000 in
theorem F_Mod_opensOne_b28_ok {d : Nat} {q : (Int32 × LH)} (hd : 1 ≤ d) {l0 : Nat} {h : LH} : F_Mod_opensOne_b28 l0 h = some q → JR d jM_193 28 [.ref l0] [] h (jo_i q) := by
 unfold F_Mod_opensOne_b28
 exact jr_aloadn 28 29 rfl rfl rfl
  (jr_gi 29 32 rfl jg_11_125_1 rfl (fun v1 =>
  jr_if_ne 32 45 35 rfl rfl rfl
  ((F_Mod_opensOne_b45_ok hd ))
  (jr_aloadn 35 36 rfl rfl rfl
  (jr_dup 36 37 rfl rfl rfl
  (jr_gi 37 40 rfl jg_11_168_1 rfl (fun v2 =>
  jr_iconst 40 41 (1 : Int32) rfl jc_i_1 rfl
  (jr_iadd 41 42 rfl rfl
  (jr_pi 42 45 rfl jg_11_168_3 rfl (fun h3 =>
  (F_Mod_opensOne_b45_ok hd ))))))))))
noncomputable def F_Mod_opensOne (l0 : Nat) (h : LH) : Option (Int32 × LH) :=
 jf_gi h l0 11 5 fun v1 =>
 if v1 = 0 then
 jf_gi h l0 11 8 fun v2 =>
 if v2 = (6 : Int32) then
 jf_gi h l0 11 4 fun v3 =>
 jf_kd h l0 11
 ((F_Mod_wrong l0 (3 : Int32) v3 h).bind fun h4 =>
 F_Mod_opensOne_b45  l0 h4)
else
 F_Mod_opensOne_b28  l0 h
else
 F_Mod_opensOne_b28  l0 h
set_option maxRecDepth 100000 in
theorem F_Mod_opensOne_ok {d : Nat} (hd : 2 ≤ d) {l0 : Nat} {h : LH} {q : (Int32 × LH)} : F_Mod_opensOne l0 h = some q → jl_Sem jt_T jt_Ms d 193 [.ref l0] h (jo_i q) := by
 unfold F_Mod_opensOne
 exact jr_enter (D := 1) hd jM_193_at rfl rfl rfl (fun d hd =>
  jr_aloadn 0 1 rfl rfl rfl
  (jr_gi 1 4 rfl jg_11_125_1 rfl (fun v1 =>
  jr_if_ne 4 28 7 rfl rfl rfl
  ((F_Mod_opensOne_b28_ok hd ))
  (jr_aloadn 7 8 rfl rfl rfl
  (jr_gi 8 11 rfl jg_11_168_1 rfl (fun v2 =>
  jr_bipush 11 13 (6 : Int32) rfl jc_b_6 rfl
  (jr_icmp_ne 13 28 16 rfl rfl rfl
  ((F_Mod_opensOne_b28_ok hd ))
  (jr_aloadn 16 17 rfl rfl rfl
  (jr_iconst 17 18 (3 : Int32) rfl jc_i_3 rfl
  (jr_aloadn 18 19 rfl rfl rfl
  (jr_gi 19 22 rfl jg_11_118_1 rfl (fun v3 =>
  jr_cVv 22 25 [] rfl rfl rfl rfl rfl rfl rfl rfl (as := [.int (3 : Int32), .int v3]) (F_Mod_wrong_ok (Nat.le_trans (by decide : 1 ≤ 1) hd)) (fun h4 =>
  jr_goto 25 45 rfl rfl
  ((F_Mod_opensOne_b45_ok hd )))))))))))))))
noncomputable def jM_194 : JMeth := (11, false, 0, jk_194, [], 3)
set_option maxRecDepth 100000 in
theorem jM_194_at : jt_Ms 194 = some jM_194 := rfl
noncomputable def F_Mod_notes (l0 : Nat) (l1 : Int32) (l2 : Int32) (h : LH) : Option LH :=
 jf_gi h l0 11 5 fun v1 =>
 if v1 = 0 then
 jf_gr h l0 11 28 fun v2 =>
 jf_gi h l0 11 26 fun v3 =>
 jf_aa h v2 v3 fun v4 =>
 jf_is h v4 (0 : Int32) l1 fun h5 =>
 jf_gr h5 l0 11 28 fun v6 =>
 jf_gi h5 l0 11 26 fun v7 =>
 jf_aa h5 v6 v7 fun v8 =>
 jf_is h5 v8 (1 : Int32) l2 fun h9 =>
 jf_gi h9 l0 11 26 fun v10 =>
 jf_pi h9 l0 11 26 (v10 + (1 : Int32)) fun h11 =>
 some h11
else
 some h
set_option maxRecDepth 100000 in
theorem F_Mod_notes_ok {d : Nat} (hd : 1 ≤ d) {l0 : Nat} {l1 : Int32} {l2 : Int32} {h : LH} {q : LH} : F_Mod_notes l0 l1 l2 h = some q → jl_Sem jt_T jt_Ms d 194 [.ref l0, .int l1, .int l2] h (jo_v q) := by
 unfold F_Mod_notes
 exact jr_enter (D := 0) hd jM_194_at rfl rfl rfl (fun d hd =>
  jr_aloadn 0 1 rfl rfl rfl
  (jr_gi 1 4 rfl jg_11_125_1 rfl (fun v1 =>
  jr_if_eq 4 8 7 rfl rfl rfl
  (jr_aloadn 8 9 rfl rfl rfl
  (jr_gr 9 12 rfl jg_11_67_2 rfl (fun v2 =>
  jr_aloadn 12 13 rfl rfl rfl
  (jr_gi 13 16 rfl jg_11_217_1 rfl (fun v3 =>
  jr_aa 16 17 rfl rfl (fun v4 =>
  jr_iconst 17 18 (0 : Int32) rfl jc_i_0 rfl
  (jr_iloadn 18 19 rfl rfl rfl
  (jr_is 19 20 rfl rfl (fun h5 =>
  jr_aloadn 20 21 rfl rfl rfl
  (jr_gr 21 24 rfl jg_11_67_2 rfl (fun v6 =>
  jr_aloadn 24 25 rfl rfl rfl
  (jr_gi 25 28 rfl jg_11_217_1 rfl (fun v7 =>
  jr_aa 28 29 rfl rfl (fun v8 =>
  jr_iconst 29 30 (1 : Int32) rfl jc_i_1 rfl
  (jr_iloadn 30 31 rfl rfl rfl
  (jr_is 31 32 rfl rfl (fun h9 =>
  jr_aloadn 32 33 rfl rfl rfl
  (jr_dup 33 34 rfl rfl rfl
  (jr_gi 34 37 rfl jg_11_217_1 rfl (fun v10 =>
  jr_iconst 37 38 (1 : Int32) rfl jc_i_1 rfl
  (jr_iadd 38 39 rfl rfl
  (jr_pi 39 42 rfl jg_11_217_3 rfl (fun h11 =>
  jr_rv 42 rfl rfl)))))))))))))))))))))))
  (jr_rv 7 rfl rfl))))
noncomputable def jM_196 : JMeth := (11, false, 2, jk_196, [], 8)
set_option maxRecDepth 100000 in
theorem jM_196_at : jt_Ms 196 = some jM_196 := rfl
noncomputable def F_Mod_takes_b24 (l7 : Int32) (h : LH) : Option (Int32 × LH) :=
 jf_rz l7 (some (l7, h))
set_option maxRecDepth 100000 in
theorem F_Mod_takes_b24_ok {d : Nat} {q : (Int32 × LH)} (hd : 4 ≤ d) {l7 : Int32} {u0 : Value} {u1 : Value} {u2 : Value} {u3 : Value} {u4 : Value} {u5 : Value} {u6 : Value} {h : LH} : F_Mod_takes_b24 l7 h = some q → JR d jM_196 24 [u0, u1, u2, u3, u4, u5, u6, .int l7] [] h (jo_i q) := by
 unfold F_Mod_takes_b24
 exact jr_iload 24 26 rfl rfl rfl
  (jr_rz 26 rfl rfl)
noncomputable def F_Mod_takes (l0 : Nat) (l1 : Int32) (l2 : Int32) (l3 : Int32) (l4 : Int32) (l5 : Int32) (l6 : Int32) (h : LH) : Option (Int32 × LH) :=
 jf_kd h l0 11
 (jf_bi (F_Mod_isWord l0 l1 l2 l3 l4 l5 l6 h) fun v1 h2 =>
 if v1 = 0 then
 F_Mod_takes_b24  v1 h2
else
 jf_kd h2 l0 11
 ((F_Mod_skipWord l0 h2).bind fun h3 =>
 F_Mod_takes_b24  v1 h3))
set_option maxRecDepth 100000 in
theorem F_Mod_takes_ok {d : Nat} (hd : 5 ≤ d) {l0 : Nat} {l1 : Int32} {l2 : Int32} {l3 : Int32} {l4 : Int32} {l5 : Int32} {l6 : Int32} {h : LH} {q : (Int32 × LH)} : F_Mod_takes l0 l1 l2 l3 l4 l5 l6 h = some q → jl_Sem jt_T jt_Ms d 196 [.ref l0, .int l1, .int l2, .int l3, .int l4, .int l5, .int l6] h (jo_i q) := by
 unfold F_Mod_takes
 exact jr_enter (D := 4) hd jM_196_at rfl rfl rfl (fun d hd =>
  jr_aloadn 0 1 rfl rfl rfl
  (jr_iloadn 1 2 rfl rfl rfl
  (jr_iloadn 2 3 rfl rfl rfl
  (jr_iloadn 3 4 rfl rfl rfl
  (jr_iload 4 6 rfl rfl rfl
  (jr_iload 6 8 rfl rfl rfl
  (jr_iload 8 10 rfl rfl rfl
  (jr_cVi 10 13 [] rfl rfl rfl rfl rfl rfl rfl rfl (as := [.int l1, .int l2, .int l3, .int l4, .int l5, .int l6]) (F_Mod_isWord_ok (Nat.le_trans (by decide : 4 ≤ 4) hd)) (fun v1 h2 =>
  jr_istore 13 15 [.ref l0, .int l1, .int l2, .int l3, .int l4, .int l5, .int l6, .int v1] rfl rfl rfl rfl
  (jr_iload 15 17 rfl rfl rfl
  (jr_if_eq 17 24 20 rfl rfl rfl
  ((F_Mod_takes_b24_ok hd ))
  (jr_aloadn 20 21 rfl rfl rfl
  (jr_cVv 21 24 [] rfl rfl rfl rfl rfl rfl rfl rfl (as := []) (F_Mod_skipWord_ok (Nat.le_trans (by decide : 2 ≤ 4) hd)) (fun h3 =>
  (F_Mod_takes_b24_ok hd )))))))))))))))
noncomputable def jM_195 : JMeth := (11, false, 1, jk_195, [], 1)
set_option maxRecDepth 100000 in
theorem jM_195_at : jt_Ms 195 = some jM_195 := rfl
noncomputable def F_Mod_knownHere_b132 (s0 : Int32) (h : LH) : Option (Int32 × LH) :=
 some (s0, h)
set_option maxRecDepth 100000 in
theorem F_Mod_knownHere_b132_ok {d : Nat} {q : (Int32 × LH)} (hd : 5 ≤ d) {s0 : Int32} {u0 : Value} {h : LH} : F_Mod_knownHere_b132 s0 h = some q → JR d jM_195 132 [u0] [.int s0] h (jo_i q) := by
 unfold F_Mod_knownHere_b132
 exact jr_ri 132 rfl rfl
noncomputable def F_Mod_knownHere (l0 : Nat) (h : LH) : Option (Int32 × LH) :=
 jf_kd h l0 11
 (jf_bi (F_Mod_takes l0 (19 : Int32) (13 : Int32) (15 : Int32) (11 : Int32) (5 : Int32) (0 : Int32) h) fun v1 h2 =>
 if v1 = 0 then
 jf_kd h2 l0 11
 (jf_bi (F_Mod_takes l0 (12 : Int32) (15 : Int32) (7 : Int32) (19 : Int32) (0 : Int32) (0 : Int32) h2) fun v3 h4 =>
 if v3 = 0 then
 jf_kd h4 l0 11
 (jf_bi (F_Mod_takes l0 (23 : Int32) (9 : Int32) (14 : Int32) (4 : Int32) (0 : Int32) (0 : Int32) h4) fun v5 h6 =>
 if v5 = 0 then
 jf_kd h6 l0 11
 (jf_bi (F_Mod_takes l0 (18 : Int32) (1 : Int32) (9 : Int32) (14 : Int32) (0 : Int32) (0 : Int32) h6) fun v7 h8 =>
 if v7 = 0 then
 jf_kd h8 l0 11
 (jf_bi (F_Mod_takes l0 (8 : Int32) (15 : Int32) (21 : Int32) (18 : Int32) (0 : Int32) (0 : Int32) h8) fun v9 h10 =>
 if v9 = 0 then
 jf_kd h10 l0 11
 (jf_bi (F_Mod_takes l0 (7 : Int32) (1 : Int32) (20 : Int32) (5 : Int32) (0 : Int32) (0 : Int32) h10) fun v11 h12 =>
 if v11 = 0 then
 jf_kd h12 l0 11
 (jf_bi (F_Mod_takes l0 (19 : Int32) (3 : Int32) (5 : Int32) (14 : Int32) (20 : Int32) (0 : Int32) h12) fun v13 h14 =>
 if v13 = 0 then
 F_Mod_knownHere_b132  (-1 : Int32) h14
else
 F_Mod_knownHere_b132  (6 : Int32) h14)
else
 some ((5 : Int32), h12))
else
 some ((4 : Int32), h10))
else
 some ((3 : Int32), h8))
else
 some ((2 : Int32), h6))
else
 some ((1 : Int32), h4))
else
 some ((0 : Int32), h2))
set_option maxRecDepth 100000 in
theorem F_Mod_knownHere_ok {d : Nat} (hd : 6 ≤ d) {l0 : Nat} {h : LH} {q : (Int32 × LH)} : F_Mod_knownHere l0 h = some q → jl_Sem jt_T jt_Ms d 195 [.ref l0] h (jo_i q) := by
 unfold F_Mod_knownHere
 exact jr_enter (D := 5) hd jM_195_at rfl rfl rfl (fun d hd =>
  jr_aloadn 0 1 rfl rfl rfl
  (jr_bipush 1 3 (19 : Int32) rfl jc_b_19 rfl
  (jr_bipush 3 5 (13 : Int32) rfl jc_b_13 rfl
  (jr_bipush 5 7 (15 : Int32) rfl jc_b_15 rfl
  (jr_bipush 7 9 (11 : Int32) rfl jc_b_11 rfl
  (jr_iconst 9 10 (5 : Int32) rfl jc_i_5 rfl
  (jr_iconst 10 11 (0 : Int32) rfl jc_i_0 rfl
  (jr_cVi 11 14 [] rfl rfl rfl rfl rfl rfl rfl rfl (as := [.int (19 : Int32), .int (13 : Int32), .int (15 : Int32), .int (11 : Int32), .int (5 : Int32), .int (0 : Int32)]) (F_Mod_takes_ok (Nat.le_trans (by decide : 5 ≤ 5) hd)) (fun v1 h2 =>
  jr_if_eq 14 19 17 rfl rfl rfl
  (jr_aloadn 19 20 rfl rfl rfl
  (jr_bipush 20 22 (12 : Int32) rfl jc_b_12 rfl
  (jr_bipush 22 24 (15 : Int32) rfl jc_b_15 rfl
  (jr_bipush 24 26 (7 : Int32) rfl jc_b_7 rfl
  (jr_bipush 26 28 (19 : Int32) rfl jc_b_19 rfl
  (jr_iconst 28 29 (0 : Int32) rfl jc_i_0 rfl
  (jr_iconst 29 30 (0 : Int32) rfl jc_i_0 rfl
  (jr_cVi 30 33 [] rfl rfl rfl rfl rfl rfl rfl rfl (as := [.int (12 : Int32), .int (15 : Int32), .int (7 : Int32), .int (19 : Int32), .int (0 : Int32), .int (0 : Int32)]) (F_Mod_takes_ok (Nat.le_trans (by decide : 5 ≤ 5) hd)) (fun v3 h4 =>
  jr_if_eq 33 38 36 rfl rfl rfl
  (jr_aloadn 38 39 rfl rfl rfl
  (jr_bipush 39 41 (23 : Int32) rfl jc_b_23 rfl
  (jr_bipush 41 43 (9 : Int32) rfl jc_b_9 rfl
  (jr_bipush 43 45 (14 : Int32) rfl jc_b_14 rfl
  (jr_iconst 45 46 (4 : Int32) rfl jc_i_4 rfl
  (jr_iconst 46 47 (0 : Int32) rfl jc_i_0 rfl
  (jr_iconst 47 48 (0 : Int32) rfl jc_i_0 rfl
  (jr_cVi 48 51 [] rfl rfl rfl rfl rfl rfl rfl rfl (as := [.int (23 : Int32), .int (9 : Int32), .int (14 : Int32), .int (4 : Int32), .int (0 : Int32), .int (0 : Int32)]) (F_Mod_takes_ok (Nat.le_trans (by decide : 5 ≤ 5) hd)) (fun v5 h6 =>
  jr_if_eq 51 56 54 rfl rfl rfl
  (jr_aloadn 56 57 rfl rfl rfl
  (jr_bipush 57 59 (18 : Int32) rfl jc_b_18 rfl
  (jr_iconst 59 60 (1 : Int32) rfl jc_i_1 rfl
  (jr_bipush 60 62 (9 : Int32) rfl jc_b_9 rfl
  (jr_bipush 62 64 (14 : Int32) rfl jc_b_14 rfl
  (jr_iconst 64 65 (0 : Int32) rfl jc_i_0 rfl
  (jr_iconst 65 66 (0 : Int32) rfl jc_i_0 rfl
  (jr_cVi 66 69 [] rfl rfl rfl rfl rfl rfl rfl rfl (as := [.int (18 : Int32), .int (1 : Int32), .int (9 : Int32), .int (14 : Int32), .int (0 : Int32), .int (0 : Int32)]) (F_Mod_takes_ok (Nat.le_trans (by decide : 5 ≤ 5) hd)) (fun v7 h8 =>
  jr_if_eq 69 74 72 rfl rfl rfl
  (jr_aloadn 74 75 rfl rfl rfl
  (jr_bipush 75 77 (8 : Int32) rfl jc_b_8 rfl
  (jr_bipush 77 79 (15 : Int32) rfl jc_b_15 rfl
  (jr_bipush 79 81 (21 : Int32) rfl jc_b_21 rfl
  (jr_bipush 81 83 (18 : Int32) rfl jc_b_18 rfl
  (jr_iconst 83 84 (0 : Int32) rfl jc_i_0 rfl
  (jr_iconst 84 85 (0 : Int32) rfl jc_i_0 rfl
  (jr_cVi 85 88 [] rfl rfl rfl rfl rfl rfl rfl rfl (as := [.int (8 : Int32), .int (15 : Int32), .int (21 : Int32), .int (18 : Int32), .int (0 : Int32), .int (0 : Int32)]) (F_Mod_takes_ok (Nat.le_trans (by decide : 5 ≤ 5) hd)) (fun v9 h10 =>
  jr_if_eq 88 93 91 rfl rfl rfl
  (jr_aloadn 93 94 rfl rfl rfl
  (jr_bipush 94 96 (7 : Int32) rfl jc_b_7 rfl
  (jr_iconst 96 97 (1 : Int32) rfl jc_i_1 rfl
  (jr_bipush 97 99 (20 : Int32) rfl jc_b_20 rfl
  (jr_iconst 99 100 (5 : Int32) rfl jc_i_5 rfl
  (jr_iconst 100 101 (0 : Int32) rfl jc_i_0 rfl
  (jr_iconst 101 102 (0 : Int32) rfl jc_i_0 rfl
  (jr_cVi 102 105 [] rfl rfl rfl rfl rfl rfl rfl rfl (as := [.int (7 : Int32), .int (1 : Int32), .int (20 : Int32), .int (5 : Int32), .int (0 : Int32), .int (0 : Int32)]) (F_Mod_takes_ok (Nat.le_trans (by decide : 5 ≤ 5) hd)) (fun v11 h12 =>
  jr_if_eq 105 110 108 rfl rfl rfl
  (jr_aloadn 110 111 rfl rfl rfl
  (jr_bipush 111 113 (19 : Int32) rfl jc_b_19 rfl
  (jr_iconst 113 114 (3 : Int32) rfl jc_i_3 rfl
  (jr_iconst 114 115 (5 : Int32) rfl jc_i_5 rfl
  (jr_bipush 115 117 (14 : Int32) rfl jc_b_14 rfl
  (jr_bipush 117 119 (20 : Int32) rfl jc_b_20 rfl
  (jr_iconst 119 120 (0 : Int32) rfl jc_i_0 rfl
  (jr_cVi 120 123 [] rfl rfl rfl rfl rfl rfl rfl rfl (as := [.int (19 : Int32), .int (3 : Int32), .int (5 : Int32), .int (14 : Int32), .int (20 : Int32), .int (0 : Int32)]) (F_Mod_takes_ok (Nat.le_trans (by decide : 5 ≤ 5) hd)) (fun v13 h14 =>
  jr_if_eq 123 131 126 rfl rfl rfl
  (jr_iconst 131 132 (-1 : Int32) rfl jc_i_m1 rfl
  ((F_Mod_knownHere_b132_ok hd )))
  (jr_bipush 126 128 (6 : Int32) rfl jc_b_6 rfl
  (jr_goto 128 132 rfl rfl
  ((F_Mod_knownHere_b132_ok hd )))))))))))))
  (jr_iconst 108 109 (5 : Int32) rfl jc_i_5 rfl
  (jr_ri 109 rfl rfl)))))))))))
  (jr_iconst 91 92 (4 : Int32) rfl jc_i_4 rfl
  (jr_ri 92 rfl rfl)))))))))))
  (jr_iconst 72 73 (3 : Int32) rfl jc_i_3 rfl
  (jr_ri 73 rfl rfl)))))))))))
  (jr_iconst 54 55 (2 : Int32) rfl jc_i_2 rfl
  (jr_ri 55 rfl rfl)))))))))))
  (jr_iconst 36 37 (1 : Int32) rfl jc_i_1 rfl
  (jr_ri 37 rfl rfl)))))))))))
  (jr_iconst 17 18 (0 : Int32) rfl jc_i_0 rfl
  (jr_ri 18 rfl rfl)))))))))))
noncomputable def jM_192 : JMeth := (11, false, 0, jk_192, [], 3)
set_option maxRecDepth 100000 in
theorem jM_192_at : jt_Ms 192 = some jM_192 := rfl
noncomputable def F_Mod_one_b201 (R : Nat → LH → Option LH) (h : LH) : Option LH :=
 some h
set_option maxRecDepth 100000 in
theorem F_Mod_one_b201_ok {d : Nat} {rd : Nat} {R : Nat → LH → Option LH} {q : LH} (hd : 6 + rd ≤ d) (hRR : ∀ d : Nat, rd ≤ d → ∀ (r0 : Nat) (hh : LH) (qq : LH), R r0 hh = some qq → jl_Sem jt_T jt_Ms d 190 [.ref r0] hh (jo_v qq)) (hR : ∀ (r0 : Nat) (hh : LH) (qq : LH), R r0 hh = some qq → jl_Sem jt_T jt_Ms d 190 [.ref r0] hh (jo_v qq)) {u0 : Value} {u1 : Value} {u2 : Value} {h : LH} : F_Mod_one_b201 R h = some q → JR d jM_192 201 [u0, u1, u2] [] h (jo_v q) := by
 unfold F_Mod_one_b201
 exact jr_rv 201 rfl rfl
noncomputable def F_Mod_one_b56 (R : Nat → LH → Option LH) (l0 : Nat) (s0 : Int32) (h : LH) : Option LH :=
 if s0 = (-1 : Int32) then
 jf_gi h l0 11 4 fun v1 =>
 jf_kd h l0 11
 (jf_bi (F_Mod_byteAt l0 v1 h) fun v2 h3 =>
 if v2 = (40 : Int32) then
 jf_kd h3 l0 11
 (jf_bi (F_Mod_opensOne l0 h3) fun v10 h11 =>
 if v10 = 0 then
 some h11
else
 jf_gi h11 l0 11 4 fun v12 =>
 jf_pi h11 l0 11 4 (v12 + (1 : Int32)) fun h13 =>
 jf_kd h13 l0 11
 ((R l0 h13).bind fun h14 =>
 jf_kd h14 l0 11
 ((F_Mod_sign l0 (41 : Int32) h14).bind fun h15 =>
 jf_gi h15 l0 11 8 fun v16 =>
 jf_pi h15 l0 11 8 (v16 - (1 : Int32)) fun h17 =>
 some h17)))
else
 jf_kd h3 l0 11
 (jf_bi (F_Mod_knownHere l0 h3) fun v4 h5 =>
 if v4 = (-1 : Int32) then
 jf_kd h5 l0 11
 (jf_bi (F_Mod_number l0 (0 : Int32) (999 : Int32) h5) fun v6 h7 =>
 jf_kd h7 l0 11
 ((F_Mod_notes l0 (0 : Int32) v6 h7).bind fun h8 =>
 F_Mod_one_b201 R  h8))
else
 jf_kd h5 l0 11
 ((F_Mod_notes l0 (1 : Int32) v4 h5).bind fun h9 =>
 F_Mod_one_b201 R  h9)))
else
 jf_kd h l0 11
 (jf_bi (F_Mod_opensOne l0 h) fun v18 h19 =>
 if v18 = 0 then
 some h19
else
 jf_kd h19 l0 11
 ((F_Mod_skipWord l0 h19).bind fun h20 =>
 jf_kd h20 l0 11
 ((F_Mod_sign l0 (91 : Int32) h20).bind fun h21 =>
 jf_kd h21 l0 11
 ((R l0 h21).bind fun h22 =>
 jf_kd h22 l0 11
 ((F_Mod_sign l0 (44 : Int32) h22).bind fun h23 =>
 jf_kd h23 l0 11
 ((R l0 h23).bind fun h24 =>
 jf_kd h24 l0 11
 ((F_Mod_sign l0 (93 : Int32) h24).bind fun h25 =>
 jf_kd h25 l0 11
 ((F_Mod_notes l0 s0 (0 : Int32) h25).bind fun h26 =>
 jf_gi h26 l0 11 8 fun v27 =>
 jf_pi h26 l0 11 8 (v27 - (1 : Int32)) fun h28 =>
 some h28))))))))
set_option maxRecDepth 100000 in
theorem F_Mod_one_b56_ok {d : Nat} {rd : Nat} {R : Nat → LH → Option LH} {q : LH} (hd : 6 + rd ≤ d) (hRR : ∀ d : Nat, rd ≤ d → ∀ (r0 : Nat) (hh : LH) (qq : LH), R r0 hh = some qq → jl_Sem jt_T jt_Ms d 190 [.ref r0] hh (jo_v qq)) (hR : ∀ (r0 : Nat) (hh : LH) (qq : LH), R r0 hh = some qq → jl_Sem jt_T jt_Ms d 190 [.ref r0] hh (jo_v qq)) {l0 : Nat} {s0 : Int32} {u1 : Value} {u2 : Value} {h : LH} : F_Mod_one_b56 R l0 s0 h = some q → JR d jM_192 56 [.ref l0, u1, u2] [.int s0] h (jo_v q) := by
 unfold F_Mod_one_b56
 exact jr_istoren 56 57 [.ref l0, .int s0, u2] rfl rfl rfl rfl
  (jr_iloadn 57 58 rfl rfl rfl
  (jr_iconst 58 59 (-1 : Int32) rfl jc_i_m1 rfl
  (jr_icmp_eq 59 117 62 rfl rfl rfl
  (jr_aloadn 117 118 rfl rfl rfl
  (jr_aloadn 118 119 rfl rfl rfl
  (jr_gi 119 122 rfl jg_11_118_1 rfl (fun v1 =>
  jr_cVi 122 125 [] rfl rfl rfl rfl rfl rfl rfl rfl (as := [.int v1]) (F_Mod_byteAt_ok (Nat.le_trans (by decide : 1 ≤ 6) (Nat.le_trans (Nat.le_add_right _ rd) hd))) (fun v2 h3 =>
  jr_bipush 125 127 (40 : Int32) rfl jc_b_40 rfl
  (jr_icmp_ne 127 169 130 rfl rfl rfl
  (jr_aloadn 169 170 rfl rfl rfl
  (jr_cVi 170 173 [] rfl rfl rfl rfl rfl rfl rfl rfl (as := []) (F_Mod_knownHere_ok (Nat.le_trans (by decide : 6 ≤ 6) (Nat.le_trans (Nat.le_add_right _ rd) hd))) (fun v4 h5 =>
  jr_istoren 173 174 [.ref l0, .int s0, .int v4] rfl rfl rfl rfl
  (jr_iloadn 174 175 rfl rfl rfl
  (jr_iconst 175 176 (-1 : Int32) rfl jc_i_m1 rfl
  (jr_icmp_eq 176 188 179 rfl rfl rfl
  (jr_aloadn 188 189 rfl rfl rfl
  (jr_iconst 189 190 (0 : Int32) rfl jc_i_0 rfl
  (jr_aloadn 190 191 rfl rfl rfl
  (jr_iconst 191 192 (0 : Int32) rfl jc_i_0 rfl
  (jr_sipush 192 195 (999 : Int32) rfl jc_s_999 rfl
  (jr_cVi 195 198 [.int (0 : Int32), .ref l0] rfl rfl rfl rfl rfl rfl rfl rfl (as := [.int (0 : Int32), .int (999 : Int32)]) (F_Mod_number_ok (Nat.le_trans (by decide : 3 ≤ 6) (Nat.le_trans (Nat.le_add_right _ rd) hd))) (fun v6 h7 =>
  jr_cVv 198 201 [] rfl rfl rfl rfl rfl rfl rfl rfl (as := [.int (0 : Int32), .int v6]) (F_Mod_notes_ok (Nat.le_trans (by decide : 1 ≤ 6) (Nat.le_trans (Nat.le_add_right _ rd) hd))) (fun h8 =>
  (F_Mod_one_b201_ok hd hRR hR )))))))))
  (jr_aloadn 179 180 rfl rfl rfl
  (jr_iconst 180 181 (1 : Int32) rfl jc_i_1 rfl
  (jr_iloadn 181 182 rfl rfl rfl
  (jr_cVv 182 185 [] rfl rfl rfl rfl rfl rfl rfl rfl (as := [.int (1 : Int32), .int v4]) (F_Mod_notes_ok (Nat.le_trans (by decide : 1 ≤ 6) (Nat.le_trans (Nat.le_add_right _ rd) hd))) (fun h9 =>
  jr_goto 185 201 rfl rfl
  ((F_Mod_one_b201_ok hd hRR hR )))))))))))))
  (jr_aloadn 130 131 rfl rfl rfl
  (jr_cVi 131 134 [] rfl rfl rfl rfl rfl rfl rfl rfl (as := []) (F_Mod_opensOne_ok (Nat.le_trans (by decide : 2 ≤ 6) (Nat.le_trans (Nat.le_add_right _ rd) hd))) (fun v10 h11 =>
  jr_if_ne 134 138 137 rfl rfl rfl
  (jr_aloadn 138 139 rfl rfl rfl
  (jr_dup 139 140 rfl rfl rfl
  (jr_gi 140 143 rfl jg_11_118_1 rfl (fun v12 =>
  jr_iconst 143 144 (1 : Int32) rfl jc_i_1 rfl
  (jr_iadd 144 145 rfl rfl
  (jr_pi 145 148 rfl jg_11_118_3 rfl (fun h13 =>
  jr_aloadn 148 149 rfl rfl rfl
  (jr_cVv 149 152 [] rfl rfl rfl rfl rfl rfl rfl rfl (as := []) (fun hq => hR _ _ _ hq) (fun h14 =>
  jr_aloadn 152 153 rfl rfl rfl
  (jr_bipush 153 155 (41 : Int32) rfl jc_b_41 rfl
  (jr_cVv 155 158 [] rfl rfl rfl rfl rfl rfl rfl rfl (as := [.int (41 : Int32)]) (F_Mod_sign_ok (Nat.le_trans (by decide : 3 ≤ 6) (Nat.le_trans (Nat.le_add_right _ rd) hd))) (fun h15 =>
  jr_aloadn 158 159 rfl rfl rfl
  (jr_dup 159 160 rfl rfl rfl
  (jr_gi 160 163 rfl jg_11_168_1 rfl (fun v16 =>
  jr_iconst 163 164 (1 : Int32) rfl jc_i_1 rfl
  (jr_isub 164 165 rfl rfl
  (jr_pi 165 168 rfl jg_11_168_3 rfl (fun h17 =>
  jr_rv 168 rfl rfl))))))))))))))))))
  (jr_rv 137 rfl rfl))))))))))
  (jr_aloadn 62 63 rfl rfl rfl
  (jr_cVi 63 66 [] rfl rfl rfl rfl rfl rfl rfl rfl (as := []) (F_Mod_opensOne_ok (Nat.le_trans (by decide : 2 ≤ 6) (Nat.le_trans (Nat.le_add_right _ rd) hd))) (fun v18 h19 =>
  jr_if_ne 66 70 69 rfl rfl rfl
  (jr_aloadn 70 71 rfl rfl rfl
  (jr_cVv 71 74 [] rfl rfl rfl rfl rfl rfl rfl rfl (as := []) (F_Mod_skipWord_ok (Nat.le_trans (by decide : 2 ≤ 6) (Nat.le_trans (Nat.le_add_right _ rd) hd))) (fun h20 =>
  jr_aloadn 74 75 rfl rfl rfl
  (jr_bipush 75 77 (91 : Int32) rfl jc_b_91 rfl
  (jr_cVv 77 80 [] rfl rfl rfl rfl rfl rfl rfl rfl (as := [.int (91 : Int32)]) (F_Mod_sign_ok (Nat.le_trans (by decide : 3 ≤ 6) (Nat.le_trans (Nat.le_add_right _ rd) hd))) (fun h21 =>
  jr_aloadn 80 81 rfl rfl rfl
  (jr_cVv 81 84 [] rfl rfl rfl rfl rfl rfl rfl rfl (as := []) (fun hq => hR _ _ _ hq) (fun h22 =>
  jr_aloadn 84 85 rfl rfl rfl
  (jr_bipush 85 87 (44 : Int32) rfl jc_b_44 rfl
  (jr_cVv 87 90 [] rfl rfl rfl rfl rfl rfl rfl rfl (as := [.int (44 : Int32)]) (F_Mod_sign_ok (Nat.le_trans (by decide : 3 ≤ 6) (Nat.le_trans (Nat.le_add_right _ rd) hd))) (fun h23 =>
  jr_aloadn 90 91 rfl rfl rfl
  (jr_cVv 91 94 [] rfl rfl rfl rfl rfl rfl rfl rfl (as := []) (fun hq => hR _ _ _ hq) (fun h24 =>
  jr_aloadn 94 95 rfl rfl rfl
  (jr_bipush 95 97 (93 : Int32) rfl jc_b_93 rfl
  (jr_cVv 97 100 [] rfl rfl rfl rfl rfl rfl rfl rfl (as := [.int (93 : Int32)]) (F_Mod_sign_ok (Nat.le_trans (by decide : 3 ≤ 6) (Nat.le_trans (Nat.le_add_right _ rd) hd))) (fun h25 =>
  jr_aloadn 100 101 rfl rfl rfl
  (jr_iloadn 101 102 rfl rfl rfl
  (jr_iconst 102 103 (0 : Int32) rfl jc_i_0 rfl
  (jr_cVv 103 106 [] rfl rfl rfl rfl rfl rfl rfl rfl (as := [.int s0, .int (0 : Int32)]) (F_Mod_notes_ok (Nat.le_trans (by decide : 1 ≤ 6) (Nat.le_trans (Nat.le_add_right _ rd) hd))) (fun h26 =>
  jr_aloadn 106 107 rfl rfl rfl
  (jr_dup 107 108 rfl rfl rfl
  (jr_gi 108 111 rfl jg_11_168_1 rfl (fun v27 =>
  jr_iconst 111 112 (1 : Int32) rfl jc_i_1 rfl
  (jr_isub 112 113 rfl rfl
  (jr_pi 113 116 rfl jg_11_168_3 rfl (fun h28 =>
  jr_rv 116 rfl rfl))))))))))))))))))))))))))
  (jr_rv 69 rfl rfl)))))))
noncomputable def F_Mod_one (R : Nat → LH → Option LH) (l0 : Nat) (h : LH) : Option LH :=
 jf_gi h l0 11 5 fun v1 =>
 if v1 = 0 then
 jf_kd h l0 11
 ((F_Mod_blanks l0 h).bind fun h2 =>
 jf_kd h2 l0 11
 (jf_bi (F_Mod_isWord l0 (12 : Int32) (5 : Int32) (1 : Int32) (19 : Int32) (20 : Int32) (0 : Int32) h2) fun v3 h4 =>
 if v3 = 0 then
 jf_kd h4 l0 11
 (jf_bi (F_Mod_isWord l0 (13 : Int32) (15 : Int32) (19 : Int32) (20 : Int32) (0 : Int32) (0 : Int32) h4) fun v5 h6 =>
 if v5 = 0 then
 F_Mod_one_b56 R  l0 (-1 : Int32) h6
else
 F_Mod_one_b56 R  l0 (7 : Int32) h6)
else
 F_Mod_one_b56 R  l0 (6 : Int32) h4))
else
 some h
set_option maxRecDepth 100000 in
theorem F_Mod_one_ok {d : Nat} {rd : Nat} {R : Nat → LH → Option LH} (hd : 7 + rd ≤ d) (hRR : ∀ d : Nat, rd ≤ d → ∀ (r0 : Nat) (hh : LH) (qq : LH), R r0 hh = some qq → jl_Sem jt_T jt_Ms d 190 [.ref r0] hh (jo_v qq)) {l0 : Nat} {h : LH} {q : LH} : F_Mod_one R l0 h = some q → jl_Sem jt_T jt_Ms d 192 [.ref l0] h (jo_v q) := by
 unfold F_Mod_one
 exact jr_enter (D := 6 + rd) (Nat.le_trans (Nat.le_of_eq (by omega)) hd) jM_192_at rfl rfl rfl (fun d hd =>
  have hR := hRR d (Nat.le_trans (Nat.le_add_left rd _) hd)
  jr_aloadn 0 1 rfl rfl rfl
  (jr_gi 1 4 rfl jg_11_125_1 rfl (fun v1 =>
  jr_if_eq 4 8 7 rfl rfl rfl
  (jr_aloadn 8 9 rfl rfl rfl
  (jr_cVv 9 12 [] rfl rfl rfl rfl rfl rfl rfl rfl (as := []) (F_Mod_blanks_ok (Nat.le_trans (by decide : 2 ≤ 6) (Nat.le_trans (Nat.le_add_right _ rd) hd))) (fun h2 =>
  jr_aloadn 12 13 rfl rfl rfl
  (jr_bipush 13 15 (12 : Int32) rfl jc_b_12 rfl
  (jr_iconst 15 16 (5 : Int32) rfl jc_i_5 rfl
  (jr_iconst 16 17 (1 : Int32) rfl jc_i_1 rfl
  (jr_bipush 17 19 (19 : Int32) rfl jc_b_19 rfl
  (jr_bipush 19 21 (20 : Int32) rfl jc_b_20 rfl
  (jr_iconst 21 22 (0 : Int32) rfl jc_i_0 rfl
  (jr_cVi 22 25 [] rfl rfl rfl rfl rfl rfl rfl rfl (as := [.int (12 : Int32), .int (5 : Int32), .int (1 : Int32), .int (19 : Int32), .int (20 : Int32), .int (0 : Int32)]) (F_Mod_isWord_ok (Nat.le_trans (by decide : 4 ≤ 6) (Nat.le_trans (Nat.le_add_right _ rd) hd))) (fun v3 h4 =>
  jr_if_eq 25 33 28 rfl rfl rfl
  (jr_aloadn 33 34 rfl rfl rfl
  (jr_bipush 34 36 (13 : Int32) rfl jc_b_13 rfl
  (jr_bipush 36 38 (15 : Int32) rfl jc_b_15 rfl
  (jr_bipush 38 40 (19 : Int32) rfl jc_b_19 rfl
  (jr_bipush 40 42 (20 : Int32) rfl jc_b_20 rfl
  (jr_iconst 42 43 (0 : Int32) rfl jc_i_0 rfl
  (jr_iconst 43 44 (0 : Int32) rfl jc_i_0 rfl
  (jr_cVi 44 47 [] rfl rfl rfl rfl rfl rfl rfl rfl (as := [.int (13 : Int32), .int (15 : Int32), .int (19 : Int32), .int (20 : Int32), .int (0 : Int32), .int (0 : Int32)]) (F_Mod_isWord_ok (Nat.le_trans (by decide : 4 ≤ 6) (Nat.le_trans (Nat.le_add_right _ rd) hd))) (fun v5 h6 =>
  jr_if_eq 47 55 50 rfl rfl rfl
  (jr_iconst 55 56 (-1 : Int32) rfl jc_i_m1 rfl
  ((F_Mod_one_b56_ok hd hRR hR )))
  (jr_bipush 50 52 (7 : Int32) rfl jc_b_7 rfl
  (jr_goto 52 56 rfl rfl
  ((F_Mod_one_b56_ok hd hRR hR )))))))))))))
  (jr_bipush 28 30 (6 : Int32) rfl jc_b_6 rfl
  (jr_goto 30 56 rfl rfl
  ((F_Mod_one_b56_ok hd hRR hR )))))))))))))))
  (jr_rv 7 rfl rfl))))
noncomputable def jM_197 : JMeth := (11, false, 2, jk_197, [], 3)
set_option maxRecDepth 100000 in
theorem jM_197_at : jt_Ms 197 = some jM_197 := rfl
noncomputable def F_Mod_takesSign_b45 (l2 : Int32) (h : LH) : Option (Int32 × LH) :=
 jf_rz l2 (some (l2, h))
set_option maxRecDepth 100000 in
theorem F_Mod_takesSign_b45_ok {d : Nat} {q : (Int32 × LH)} (hd : 2 ≤ d) {l2 : Int32} {u0 : Value} {u1 : Value} {h : LH} : F_Mod_takesSign_b45 l2 h = some q → JR d jM_197 45 [u0, u1, .int l2] [] h (jo_i q) := by
 unfold F_Mod_takesSign_b45
 exact jr_iloadn 45 46 rfl rfl rfl
  (jr_rz 46 rfl rfl)
noncomputable def F_Mod_takesSign_b30 (l0 : Nat) (s0 : Int32) (h : LH) : Option (Int32 × LH) :=
 if s0 = 0 then
 F_Mod_takesSign_b45  s0 h
else
 jf_gi h l0 11 4 fun v1 =>
 jf_pi h l0 11 4 (v1 + (1 : Int32)) fun h2 =>
 F_Mod_takesSign_b45  s0 h2
set_option maxRecDepth 100000 in
theorem F_Mod_takesSign_b30_ok {d : Nat} {q : (Int32 × LH)} (hd : 2 ≤ d) {l0 : Nat} {s0 : Int32} {u1 : Value} {u2 : Value} {h : LH} : F_Mod_takesSign_b30 l0 s0 h = some q → JR d jM_197 30 [.ref l0, u1, u2] [.int s0] h (jo_i q) := by
 unfold F_Mod_takesSign_b30
 exact jr_istoren 30 31 [.ref l0, u1, .int s0] rfl rfl rfl rfl
  (jr_iloadn 31 32 rfl rfl rfl
  (jr_if_eq 32 45 35 rfl rfl rfl
  ((F_Mod_takesSign_b45_ok hd ))
  (jr_aloadn 35 36 rfl rfl rfl
  (jr_dup 36 37 rfl rfl rfl
  (jr_gi 37 40 rfl jg_11_118_1 rfl (fun v1 =>
  jr_iconst 40 41 (1 : Int32) rfl jc_i_1 rfl
  (jr_iadd 41 42 rfl rfl
  (jr_pi 42 45 rfl jg_11_118_3 rfl (fun h2 =>
  (F_Mod_takesSign_b45_ok hd ))))))))))
noncomputable def F_Mod_takesSign (l0 : Nat) (l1 : Int32) (h : LH) : Option (Int32 × LH) :=
 jf_gi h l0 11 5 fun v1 =>
 if v1 = 0 then
 jf_kd h l0 11
 ((F_Mod_blanks l0 h).bind fun h2 =>
 jf_gi h2 l0 11 4 fun v3 =>
 jf_kd h2 l0 11
 (jf_bi (F_Mod_byteAt l0 v3 h2) fun v4 h5 =>
 if v4 = l1 then
 F_Mod_takesSign_b30  l0 (1 : Int32) h5
else
 F_Mod_takesSign_b30  l0 (0 : Int32) h5))
else
 jf_rz (0 : Int32) (some ((0 : Int32), h))
set_option maxRecDepth 100000 in
theorem F_Mod_takesSign_ok {d : Nat} (hd : 3 ≤ d) {l0 : Nat} {l1 : Int32} {h : LH} {q : (Int32 × LH)} : F_Mod_takesSign l0 l1 h = some q → jl_Sem jt_T jt_Ms d 197 [.ref l0, .int l1] h (jo_i q) := by
 unfold F_Mod_takesSign
 exact jr_enter (D := 2) hd jM_197_at rfl rfl rfl (fun d hd =>
  jr_aloadn 0 1 rfl rfl rfl
  (jr_gi 1 4 rfl jg_11_125_1 rfl (fun v1 =>
  jr_if_eq 4 9 7 rfl rfl rfl
  (jr_aloadn 9 10 rfl rfl rfl
  (jr_cVv 10 13 [] rfl rfl rfl rfl rfl rfl rfl rfl (as := []) (F_Mod_blanks_ok (Nat.le_trans (by decide : 2 ≤ 2) hd)) (fun h2 =>
  jr_aloadn 13 14 rfl rfl rfl
  (jr_aloadn 14 15 rfl rfl rfl
  (jr_gi 15 18 rfl jg_11_118_1 rfl (fun v3 =>
  jr_cVi 18 21 [] rfl rfl rfl rfl rfl rfl rfl rfl (as := [.int v3]) (F_Mod_byteAt_ok (Nat.le_trans (by decide : 1 ≤ 2) hd)) (fun v4 h5 =>
  jr_iloadn 21 22 rfl rfl rfl
  (jr_icmp_ne 22 29 25 rfl rfl rfl
  (jr_iconst 29 30 (0 : Int32) rfl jc_i_0 rfl
  ((F_Mod_takesSign_b30_ok hd )))
  (jr_iconst 25 26 (1 : Int32) rfl jc_i_1 rfl
  (jr_goto 26 30 rfl rfl
  ((F_Mod_takesSign_b30_ok hd ))))))))))))
  (jr_iconst 7 8 (0 : Int32) rfl jc_i_0 rfl
  (jr_rz 8 rfl rfl)))))
noncomputable def jM_191 : JMeth := (11, false, 0, jk_191, [], 2)
set_option maxRecDepth 100000 in
theorem jM_191_at : jt_Ms 191 = some jM_191 := rfl
noncomputable def F_Mod_product_b38 (R : Nat → LH → Option LH) (k4 : Nat → LH → Option LH) (l0 : Nat) (s0 : Int32) (h : LH) : Option LH :=
 if s0 = (-1 : Int32) then
 some h
else
 jf_kd h l0 11
 ((F_Mod_one R l0 h).bind fun h1 =>
 jf_kd h1 l0 11
 ((F_Mod_notes l0 s0 (0 : Int32) h1).bind fun h2 =>
 k4 l0 h2))
set_option maxRecDepth 100000 in
theorem F_Mod_product_b38_ok {d : Nat} {rd : Nat} {R : Nat → LH → Option LH} {q : LH} {k4 : Nat → LH → Option LH} (hd : 7 + rd ≤ d) (hRR : ∀ d : Nat, rd ≤ d → ∀ (r0 : Nat) (hh : LH) (qq : LH), R r0 hh = some qq → jl_Sem jt_T jt_Ms d 190 [.ref r0] hh (jo_v qq)) (hR : ∀ (r0 : Nat) (hh : LH) (qq : LH), R r0 hh = some qq → jl_Sem jt_T jt_Ms d 190 [.ref r0] hh (jo_v qq)) (hk4 : ∀ (l0 : Nat) (u1 : Value) (h : LH), k4 l0 h = some q → JR d jM_191 4 [.ref l0, u1] [] h (jo_v q)) {l0 : Nat} {s0 : Int32} {u1 : Value} {h : LH} : F_Mod_product_b38 R k4 l0 s0 h = some q → JR d jM_191 38 [.ref l0, u1] [.int s0] h (jo_v q) := by
 unfold F_Mod_product_b38
 exact jr_istoren 38 39 [.ref l0, .int s0] rfl rfl rfl rfl
  (jr_iloadn 39 40 rfl rfl rfl
  (jr_iconst 40 41 (-1 : Int32) rfl jc_i_m1 rfl
  (jr_icmp_ne 41 45 44 rfl rfl rfl
  (jr_aloadn 45 46 rfl rfl rfl
  (jr_cVv 46 49 [] rfl rfl rfl rfl rfl rfl rfl rfl (as := []) (F_Mod_one_ok (rd := rd) (Nat.le_trans (Nat.add_le_add_right (by decide : 7 ≤ 7) rd) hd) hRR) (fun h1 =>
  jr_aloadn 49 50 rfl rfl rfl
  (jr_iloadn 50 51 rfl rfl rfl
  (jr_iconst 51 52 (0 : Int32) rfl jc_i_0 rfl
  (jr_cVv 52 55 [] rfl rfl rfl rfl rfl rfl rfl rfl (as := [.int s0, .int (0 : Int32)]) (F_Mod_notes_ok (Nat.le_trans (by decide : 1 ≤ 7) (Nat.le_trans (Nat.le_add_right _ rd) hd))) (fun h2 =>
  jr_goto 55 4 rfl rfl
  ((hk4 _ _ _)))))))))
  (jr_rv 44 rfl rfl))))
noncomputable def F_Mod_product_c4 (R : Nat → LH → Option LH) (k4 : Nat → LH → Option LH) (l0 : Nat) (h : LH) : Option LH :=
 jf_gi h l0 11 5 fun v1 =>
 if v1 = 0 then
 jf_kd h l0 11
 (jf_bi (F_Mod_takesSign l0 (42 : Int32) h) fun v2 h3 =>
 if v2 = 0 then
 jf_kd h3 l0 11
 (jf_bi (F_Mod_takesSign l0 (47 : Int32) h3) fun v4 h5 =>
 if v4 = 0 then
 F_Mod_product_b38 R k4 l0 (-1 : Int32) h5
else
 F_Mod_product_b38 R k4 l0 (5 : Int32) h5)
else
 F_Mod_product_b38 R k4 l0 (4 : Int32) h3)
else
 some h
set_option maxRecDepth 100000 in
theorem F_Mod_product_c4_ok {d : Nat} {rd : Nat} {R : Nat → LH → Option LH} {q : LH} {k4 : Nat → LH → Option LH} (hd : 7 + rd ≤ d) (hRR : ∀ d : Nat, rd ≤ d → ∀ (r0 : Nat) (hh : LH) (qq : LH), R r0 hh = some qq → jl_Sem jt_T jt_Ms d 190 [.ref r0] hh (jo_v qq)) (hR : ∀ (r0 : Nat) (hh : LH) (qq : LH), R r0 hh = some qq → jl_Sem jt_T jt_Ms d 190 [.ref r0] hh (jo_v qq)) (hk4 : ∀ (l0 : Nat) (u1 : Value) (h : LH), k4 l0 h = some q → JR d jM_191 4 [.ref l0, u1] [] h (jo_v q)) {l0 : Nat} {u1 : Value} {h : LH} : F_Mod_product_c4 R k4 l0 h = some q → JR d jM_191 4 [.ref l0, u1] [] h (jo_v q) := by
 unfold F_Mod_product_c4
 exact jr_aloadn 4 5 rfl rfl rfl
  (jr_gi 5 8 rfl jg_11_125_1 rfl (fun v1 =>
  jr_if_ne 8 58 11 rfl rfl rfl
  (jr_rv 58 rfl rfl)
  (jr_aloadn 11 12 rfl rfl rfl
  (jr_bipush 12 14 (42 : Int32) rfl jc_b_42 rfl
  (jr_cVi 14 17 [] rfl rfl rfl rfl rfl rfl rfl rfl (as := [.int (42 : Int32)]) (F_Mod_takesSign_ok (Nat.le_trans (by decide : 3 ≤ 7) (Nat.le_trans (Nat.le_add_right _ rd) hd))) (fun v2 h3 =>
  jr_if_eq 17 24 20 rfl rfl rfl
  (jr_aloadn 24 25 rfl rfl rfl
  (jr_bipush 25 27 (47 : Int32) rfl jc_b_47 rfl
  (jr_cVi 27 30 [] rfl rfl rfl rfl rfl rfl rfl rfl (as := [.int (47 : Int32)]) (F_Mod_takesSign_ok (Nat.le_trans (by decide : 3 ≤ 7) (Nat.le_trans (Nat.le_add_right _ rd) hd))) (fun v4 h5 =>
  jr_if_eq 30 37 33 rfl rfl rfl
  (jr_iconst 37 38 (-1 : Int32) rfl jc_i_m1 rfl
  ((F_Mod_product_b38_ok hd hRR hR hk4)))
  (jr_iconst 33 34 (5 : Int32) rfl jc_i_5 rfl
  (jr_goto 34 38 rfl rfl
  ((F_Mod_product_b38_ok hd hRR hR hk4))))))))
  (jr_iconst 20 21 (4 : Int32) rfl jc_i_4 rfl
  (jr_goto 21 38 rfl rfl
  ((F_Mod_product_b38_ok hd hRR hR hk4))))))))))
noncomputable def F_Mod_product_l4 (R : Nat → LH → Option LH) : Nat → Nat → LH → Option LH
 | 0, _, _ => none
 | n + 1, l0, h => F_Mod_product_c4 R (F_Mod_product_l4 R n) l0 h
theorem F_Mod_product_l4_ok {d : Nat} {rd : Nat} {R : Nat → LH → Option LH} {q : LH} (hd : 7 + rd ≤ d) (hRR : ∀ d : Nat, rd ≤ d → ∀ (r0 : Nat) (hh : LH) (qq : LH), R r0 hh = some qq → jl_Sem jt_T jt_Ms d 190 [.ref r0] hh (jo_v qq)) (hR : ∀ (r0 : Nat) (hh : LH) (qq : LH), R r0 hh = some qq → jl_Sem jt_T jt_Ms d 190 [.ref r0] hh (jo_v qq)) : ∀ (n : Nat) (l0 : Nat) (u1 : Value) (h : LH), F_Mod_product_l4 R n l0 h = some q → JR d jM_191 4 [.ref l0, u1] [] h (jo_v q)
 | 0 => fun _ _ _ hq => nomatch (show (none : Option LH) = some q from hq)
 | n + 1 => fun _ _ _ hq => F_Mod_product_c4_ok hd hRR hR (F_Mod_product_l4_ok hd hRR hR n) hq
noncomputable def F_Mod_product (R : Nat → LH → Option LH) (l0 : Nat) (h : LH) : Option LH :=
 jf_kd h l0 11
 ((F_Mod_one R l0 h).bind fun h1 =>
 F_Mod_product_l4 R  jF l0 h1)
set_option maxRecDepth 100000 in
theorem F_Mod_product_ok {d : Nat} {rd : Nat} {R : Nat → LH → Option LH} (hd : 8 + rd ≤ d) (hRR : ∀ d : Nat, rd ≤ d → ∀ (r0 : Nat) (hh : LH) (qq : LH), R r0 hh = some qq → jl_Sem jt_T jt_Ms d 190 [.ref r0] hh (jo_v qq)) {l0 : Nat} {h : LH} {q : LH} : F_Mod_product R l0 h = some q → jl_Sem jt_T jt_Ms d 191 [.ref l0] h (jo_v q) := by
 unfold F_Mod_product
 exact jr_enter (D := 7 + rd) (Nat.le_trans (Nat.le_of_eq (by omega)) hd) jM_191_at rfl rfl rfl (fun d hd =>
  have hR := hRR d (Nat.le_trans (Nat.le_add_left rd _) hd)
  jr_aloadn 0 1 rfl rfl rfl
  (jr_cVv 1 4 [] rfl rfl rfl rfl rfl rfl rfl rfl (as := []) (F_Mod_one_ok (rd := rd) (Nat.le_trans (Nat.add_le_add_right (by decide : 7 ≤ 7) rd) hd) hRR) (fun h1 =>
  (F_Mod_product_l4_ok hd hRR hR  jF _ _ _))))
noncomputable def jM_190 : JMeth := (11, false, 0, jk_190, [], 2)
set_option maxRecDepth 100000 in
theorem jM_190_at : jt_Ms 190 = some jM_190 := rfl
noncomputable def F_Mod_sum_b38 (R : Nat → LH → Option LH) (k4 : Nat → LH → Option LH) (l0 : Nat) (s0 : Int32) (h : LH) : Option LH :=
 if s0 = (-1 : Int32) then
 some h
else
 jf_kd h l0 11
 ((F_Mod_product R l0 h).bind fun h1 =>
 jf_kd h1 l0 11
 ((F_Mod_notes l0 s0 (0 : Int32) h1).bind fun h2 =>
 k4 l0 h2))
set_option maxRecDepth 100000 in
theorem F_Mod_sum_b38_ok {d : Nat} {rd : Nat} {R : Nat → LH → Option LH} {q : LH} {k4 : Nat → LH → Option LH} (hd : 8 + rd ≤ d) (hRR : ∀ d : Nat, rd ≤ d → ∀ (r0 : Nat) (hh : LH) (qq : LH), R r0 hh = some qq → jl_Sem jt_T jt_Ms d 190 [.ref r0] hh (jo_v qq)) (hR : ∀ (r0 : Nat) (hh : LH) (qq : LH), R r0 hh = some qq → jl_Sem jt_T jt_Ms d 190 [.ref r0] hh (jo_v qq)) (hk4 : ∀ (l0 : Nat) (u1 : Value) (h : LH), k4 l0 h = some q → JR d jM_190 4 [.ref l0, u1] [] h (jo_v q)) {l0 : Nat} {s0 : Int32} {u1 : Value} {h : LH} : F_Mod_sum_b38 R k4 l0 s0 h = some q → JR d jM_190 38 [.ref l0, u1] [.int s0] h (jo_v q) := by
 unfold F_Mod_sum_b38
 exact jr_istoren 38 39 [.ref l0, .int s0] rfl rfl rfl rfl
  (jr_iloadn 39 40 rfl rfl rfl
  (jr_iconst 40 41 (-1 : Int32) rfl jc_i_m1 rfl
  (jr_icmp_ne 41 45 44 rfl rfl rfl
  (jr_aloadn 45 46 rfl rfl rfl
  (jr_cVv 46 49 [] rfl rfl rfl rfl rfl rfl rfl rfl (as := []) (F_Mod_product_ok (rd := rd) (Nat.le_trans (Nat.add_le_add_right (by decide : 8 ≤ 8) rd) hd) hRR) (fun h1 =>
  jr_aloadn 49 50 rfl rfl rfl
  (jr_iloadn 50 51 rfl rfl rfl
  (jr_iconst 51 52 (0 : Int32) rfl jc_i_0 rfl
  (jr_cVv 52 55 [] rfl rfl rfl rfl rfl rfl rfl rfl (as := [.int s0, .int (0 : Int32)]) (F_Mod_notes_ok (Nat.le_trans (by decide : 1 ≤ 8) (Nat.le_trans (Nat.le_add_right _ rd) hd))) (fun h2 =>
  jr_goto 55 4 rfl rfl
  ((hk4 _ _ _)))))))))
  (jr_rv 44 rfl rfl))))
noncomputable def F_Mod_sum_c4 (R : Nat → LH → Option LH) (k4 : Nat → LH → Option LH) (l0 : Nat) (h : LH) : Option LH :=
 jf_gi h l0 11 5 fun v1 =>
 if v1 = 0 then
 jf_kd h l0 11
 (jf_bi (F_Mod_takesSign l0 (43 : Int32) h) fun v2 h3 =>
 if v2 = 0 then
 jf_kd h3 l0 11
 (jf_bi (F_Mod_takesSign l0 (45 : Int32) h3) fun v4 h5 =>
 if v4 = 0 then
 F_Mod_sum_b38 R k4 l0 (-1 : Int32) h5
else
 F_Mod_sum_b38 R k4 l0 (3 : Int32) h5)
else
 F_Mod_sum_b38 R k4 l0 (2 : Int32) h3)
else
 some h
set_option maxRecDepth 100000 in
theorem F_Mod_sum_c4_ok {d : Nat} {rd : Nat} {R : Nat → LH → Option LH} {q : LH} {k4 : Nat → LH → Option LH} (hd : 8 + rd ≤ d) (hRR : ∀ d : Nat, rd ≤ d → ∀ (r0 : Nat) (hh : LH) (qq : LH), R r0 hh = some qq → jl_Sem jt_T jt_Ms d 190 [.ref r0] hh (jo_v qq)) (hR : ∀ (r0 : Nat) (hh : LH) (qq : LH), R r0 hh = some qq → jl_Sem jt_T jt_Ms d 190 [.ref r0] hh (jo_v qq)) (hk4 : ∀ (l0 : Nat) (u1 : Value) (h : LH), k4 l0 h = some q → JR d jM_190 4 [.ref l0, u1] [] h (jo_v q)) {l0 : Nat} {u1 : Value} {h : LH} : F_Mod_sum_c4 R k4 l0 h = some q → JR d jM_190 4 [.ref l0, u1] [] h (jo_v q) := by
 unfold F_Mod_sum_c4
 exact jr_aloadn 4 5 rfl rfl rfl
  (jr_gi 5 8 rfl jg_11_125_1 rfl (fun v1 =>
  jr_if_ne 8 58 11 rfl rfl rfl
  (jr_rv 58 rfl rfl)
  (jr_aloadn 11 12 rfl rfl rfl
  (jr_bipush 12 14 (43 : Int32) rfl jc_b_43 rfl
  (jr_cVi 14 17 [] rfl rfl rfl rfl rfl rfl rfl rfl (as := [.int (43 : Int32)]) (F_Mod_takesSign_ok (Nat.le_trans (by decide : 3 ≤ 8) (Nat.le_trans (Nat.le_add_right _ rd) hd))) (fun v2 h3 =>
  jr_if_eq 17 24 20 rfl rfl rfl
  (jr_aloadn 24 25 rfl rfl rfl
  (jr_bipush 25 27 (45 : Int32) rfl jc_b_45 rfl
  (jr_cVi 27 30 [] rfl rfl rfl rfl rfl rfl rfl rfl (as := [.int (45 : Int32)]) (F_Mod_takesSign_ok (Nat.le_trans (by decide : 3 ≤ 8) (Nat.le_trans (Nat.le_add_right _ rd) hd))) (fun v4 h5 =>
  jr_if_eq 30 37 33 rfl rfl rfl
  (jr_iconst 37 38 (-1 : Int32) rfl jc_i_m1 rfl
  ((F_Mod_sum_b38_ok hd hRR hR hk4)))
  (jr_iconst 33 34 (3 : Int32) rfl jc_i_3 rfl
  (jr_goto 34 38 rfl rfl
  ((F_Mod_sum_b38_ok hd hRR hR hk4))))))))
  (jr_iconst 20 21 (2 : Int32) rfl jc_i_2 rfl
  (jr_goto 21 38 rfl rfl
  ((F_Mod_sum_b38_ok hd hRR hR hk4))))))))))
noncomputable def F_Mod_sum_l4 (R : Nat → LH → Option LH) : Nat → Nat → LH → Option LH
 | 0, _, _ => none
 | n + 1, l0, h => F_Mod_sum_c4 R (F_Mod_sum_l4 R n) l0 h
theorem F_Mod_sum_l4_ok {d : Nat} {rd : Nat} {R : Nat → LH → Option LH} {q : LH} (hd : 8 + rd ≤ d) (hRR : ∀ d : Nat, rd ≤ d → ∀ (r0 : Nat) (hh : LH) (qq : LH), R r0 hh = some qq → jl_Sem jt_T jt_Ms d 190 [.ref r0] hh (jo_v qq)) (hR : ∀ (r0 : Nat) (hh : LH) (qq : LH), R r0 hh = some qq → jl_Sem jt_T jt_Ms d 190 [.ref r0] hh (jo_v qq)) : ∀ (n : Nat) (l0 : Nat) (u1 : Value) (h : LH), F_Mod_sum_l4 R n l0 h = some q → JR d jM_190 4 [.ref l0, u1] [] h (jo_v q)
 | 0 => fun _ _ _ hq => nomatch (show (none : Option LH) = some q from hq)
 | n + 1 => fun _ _ _ hq => F_Mod_sum_c4_ok hd hRR hR (F_Mod_sum_l4_ok hd hRR hR n) hq
noncomputable def E_Mod_sum (R : Nat → LH → Option LH) (l0 : Nat) (h : LH) : Option LH :=
 jf_kd h l0 11
 ((F_Mod_product R l0 h).bind fun h1 =>
 F_Mod_sum_l4 R  jF l0 h1)
set_option maxRecDepth 100000 in
theorem E_Mod_sum_ok {d : Nat} {rd : Nat} {R : Nat → LH → Option LH} (hd : 9 + rd ≤ d) (hRR : ∀ d : Nat, rd ≤ d → ∀ (r0 : Nat) (hh : LH) (qq : LH), R r0 hh = some qq → jl_Sem jt_T jt_Ms d 190 [.ref r0] hh (jo_v qq)) {l0 : Nat} {h : LH} {q : LH} : E_Mod_sum R l0 h = some q → jl_Sem jt_T jt_Ms d 190 [.ref l0] h (jo_v q) := by
 unfold E_Mod_sum
 exact jr_enter (D := 8 + rd) (Nat.le_trans (Nat.le_of_eq (by omega)) hd) jM_190_at rfl rfl rfl (fun d hd =>
  have hR := hRR d (Nat.le_trans (Nat.le_add_left rd _) hd)
  jr_aloadn 0 1 rfl rfl rfl
  (jr_cVv 1 4 [] rfl rfl rfl rfl rfl rfl rfl rfl (as := []) (F_Mod_product_ok (rd := rd) (Nat.le_trans (Nat.add_le_add_right (by decide : 8 ≤ 8) rd) hd) hRR) (fun h1 =>
  (F_Mod_sum_l4_ok hd hRR hR  jF _ _ _))))
noncomputable def F_Mod_sum : Nat → Nat → LH → Option LH
 | 0, _, _ => none
 | n + 1, l0, h => E_Mod_sum (F_Mod_sum n) l0 h
theorem F_Mod_sum_all : ∀ (n d : Nat), 9 * n ≤ d → ∀ (l0 : Nat) (h : LH) (q : LH), F_Mod_sum n l0 h = some q → jl_Sem jt_T jt_Ms d 190 [.ref l0] h (jo_v q)
 | 0, _, _ => fun _ _ _ hq => nomatch (show (none : Option LH) = some _ from hq)
 | n + 1, d, hd => fun _ _ _ hq => E_Mod_sum_ok (rd := 9 * n) (Nat.le_trans (Nat.le_of_eq (by omega)) hd) (F_Mod_sum_all n) hq
theorem F_Mod_sum_ok (n : Nat) {d : Nat} (hd : 9 * n ≤ d) {l0 : Nat} {h : LH} {q : LH} : F_Mod_sum n l0 h = some q → jl_Sem jt_T jt_Ms d 190 [.ref l0] h (jo_v q) := F_Mod_sum_all n d hd _ _ _
noncomputable def jM_189 : JMeth := (11, false, 1, jk_189, [], 2)
set_option maxRecDepth 100000 in
theorem jM_189_at : jt_Ms 189 = some jM_189 := rfl
noncomputable def F_Mod_law_b85 (l0 : Nat) (h : LH) : Option (Int32 × LH) :=
 jf_gi h l0 11 5 fun v1 =>
 if v1 = 0 then
 jf_pi h l0 11 3 (-1 : Int32) fun h2 =>
 jf_gi h2 l0 11 26 fun v3 =>
 jf_pi h2 l0 11 25 v3 fun h4 =>
 jf_gr h4 l0 11 28 fun v5 =>
 jf_gr h4 l0 11 27 fun v6 =>
 jf_gi h4 l0 11 25 fun v7 =>
 (F_Mod_lays v5 v6 v7 h4).bind fun h8 =>
 some ((1 : Int32), h8)
else
 jf_kd h l0 11
 (jf_bi (F_Mod_ends l0 h) fun v9 h10 =>
 some (v9, h10))
set_option maxRecDepth 100000 in
theorem F_Mod_law_b85_ok {d : Nat} {q : (Int32 × LH)} (hd : 180 ≤ d) {l0 : Nat} {u1 : Value} {h : LH} : F_Mod_law_b85 l0 h = some q → JR d jM_189 85 [.ref l0, u1] [] h (jo_i q) := by
 unfold F_Mod_law_b85
 exact jr_aloadn 85 86 rfl rfl rfl
  (jr_gi 86 89 rfl jg_11_125_1 rfl (fun v1 =>
  jr_if_eq 89 97 92 rfl rfl rfl
  (jr_aloadn 97 98 rfl rfl rfl
  (jr_iconst 98 99 (-1 : Int32) rfl jc_i_m1 rfl
  (jr_pi 99 102 rfl jg_11_9_3 rfl (fun h2 =>
  jr_aloadn 102 103 rfl rfl rfl
  (jr_aloadn 103 104 rfl rfl rfl
  (jr_gi 104 107 rfl jg_11_217_1 rfl (fun v3 =>
  jr_pi 107 110 rfl jg_11_202_3 rfl (fun h4 =>
  jr_aloadn 110 111 rfl rfl rfl
  (jr_gr 111 114 rfl jg_11_67_2 rfl (fun v5 =>
  jr_aloadn 114 115 rfl rfl rfl
  (jr_gr 115 118 rfl jg_11_64_2 rfl (fun v6 =>
  jr_aloadn 118 119 rfl rfl rfl
  (jr_gi 119 122 rfl jg_11_202_1 rfl (fun v7 =>
  jr_cSv 122 125 [] rfl rfl rfl rfl rfl rfl rfl (as := [.ref v5, .ref v6, .int v7]) (F_Mod_lays_ok (Nat.le_trans (by decide : 1 ≤ 180) hd)) (fun h8 =>
  jr_iconst 125 126 (1 : Int32) rfl jc_i_1 rfl
  (jr_ri 126 rfl rfl))))))))))))))))
  (jr_aloadn 92 93 rfl rfl rfl
  (jr_cVi 93 96 [] rfl rfl rfl rfl rfl rfl rfl rfl (as := []) (F_Mod_ends_ok (Nat.le_trans (by decide : 1 ≤ 180) hd)) (fun v9 h10 =>
  jr_ri 96 rfl rfl)))))
noncomputable def F_Mod_law_b30 (l0 : Nat) (l1 : Int32) (s0 : Nat) (s1 : Int32) (h : LH) : Option (Int32 × LH) :=
 jf_kd h s0 11
 (jf_bi (F_Mod_bad s0 s1 (1 : Int32) (1 : Int32) h) fun v1 h2 =>
 if v1 = 0 then
 jf_kd h2 l0 11
 ((F_Mod_starts l0 l1 h2).bind fun h3 =>
 jf_pi h3 l0 11 26 (0 : Int32) fun h4 =>
 jf_kd h4 l0 11
 ((F_Mod_sum jE l0 h4).bind fun h5 =>
 jf_kd h5 l0 11
 ((F_Mod_blanks l0 h5).bind fun h6 =>
 jf_gi h6 l0 11 5 fun v7 =>
 if v7 = 0 then
 jf_gi h6 l0 11 4 fun v8 =>
 jf_gi h6 l0 11 2 fun v9 =>
 if v8 < v9 then
 jf_gi h6 l0 11 4 fun v10 =>
 jf_kd h6 l0 11
 ((F_Mod_wrong l0 (1 : Int32) v10 h6).bind fun h11 =>
 F_Mod_law_b85  l0 h11)
else
 F_Mod_law_b85  l0 h6
else
 F_Mod_law_b85  l0 h6)))
else
 some ((0 : Int32), h2))
set_option maxRecDepth 100000 in
theorem F_Mod_law_b30_ok {d : Nat} {q : (Int32 × LH)} (hd : 180 ≤ d) {l0 : Nat} {l1 : Int32} {s0 : Nat} {s1 : Int32} {h : LH} : F_Mod_law_b30 l0 l1 s0 s1 h = some q → JR d jM_189 30 [.ref l0, .int l1] [.int s1, .ref s0] h (jo_i q) := by
 unfold F_Mod_law_b30
 exact jr_iconst 30 31 (1 : Int32) rfl jc_i_1 rfl
  (jr_iconst 31 32 (1 : Int32) rfl jc_i_1 rfl
  (jr_cVi 32 35 [] rfl rfl rfl rfl rfl rfl rfl rfl (as := [.int s1, .int (1 : Int32), .int (1 : Int32)]) (F_Mod_bad_ok (Nat.le_trans (by decide : 1 ≤ 180) hd)) (fun v1 h2 =>
  jr_if_eq 35 40 38 rfl rfl rfl
  (jr_aloadn 40 41 rfl rfl rfl
  (jr_iloadn 41 42 rfl rfl rfl
  (jr_cVv 42 45 [] rfl rfl rfl rfl rfl rfl rfl rfl (as := [.int l1]) (F_Mod_starts_ok (Nat.le_trans (by decide : 3 ≤ 180) hd)) (fun h3 =>
  jr_aloadn 45 46 rfl rfl rfl
  (jr_iconst 46 47 (0 : Int32) rfl jc_i_0 rfl
  (jr_pi 47 50 rfl jg_11_217_3 rfl (fun h4 =>
  jr_aloadn 50 51 rfl rfl rfl
  (jr_cVv 51 54 [] rfl rfl rfl rfl rfl rfl rfl rfl (as := []) (F_Mod_sum_ok jE (Nat.le_trans (by decide : 9 * jE ≤ 180) hd)) (fun h5 =>
  jr_aloadn 54 55 rfl rfl rfl
  (jr_cVv 55 58 [] rfl rfl rfl rfl rfl rfl rfl rfl (as := []) (F_Mod_blanks_ok (Nat.le_trans (by decide : 2 ≤ 180) hd)) (fun h6 =>
  jr_aloadn 58 59 rfl rfl rfl
  (jr_gi 59 62 rfl jg_11_125_1 rfl (fun v7 =>
  jr_if_ne 62 85 65 rfl rfl rfl
  ((F_Mod_law_b85_ok hd ))
  (jr_aloadn 65 66 rfl rfl rfl
  (jr_gi 66 69 rfl jg_11_118_1 rfl (fun v8 =>
  jr_aloadn 69 70 rfl rfl rfl
  (jr_gi 70 73 rfl jg_11_115_1 rfl (fun v9 =>
  jr_icmp_ge 73 85 76 rfl rfl rfl
  ((F_Mod_law_b85_ok hd ))
  (jr_aloadn 76 77 rfl rfl rfl
  (jr_iconst 77 78 (1 : Int32) rfl jc_i_1 rfl
  (jr_aloadn 78 79 rfl rfl rfl
  (jr_gi 79 82 rfl jg_11_118_1 rfl (fun v10 =>
  jr_cVv 82 85 [] rfl rfl rfl rfl rfl rfl rfl rfl (as := [.int (1 : Int32), .int v10]) (F_Mod_wrong_ok (Nat.le_trans (by decide : 1 ≤ 180) hd)) (fun h11 =>
  (F_Mod_law_b85_ok hd )))))))))))))))))))))))))
  (jr_iconst 38 39 (0 : Int32) rfl jc_i_0 rfl
  (jr_ri 39 rfl rfl)))))
noncomputable def F_Mod_law_b25 (l0 : Nat) (l1 : Int32) (s0 : Nat) (h : LH) : Option (Int32 × LH) :=
 F_Mod_law_b30  l0 l1 s0 (1 : Int32) h
set_option maxRecDepth 100000 in
theorem F_Mod_law_b25_ok {d : Nat} {q : (Int32 × LH)} (hd : 180 ≤ d) {l0 : Nat} {l1 : Int32} {s0 : Nat} {h : LH} : F_Mod_law_b25 l0 l1 s0 h = some q → JR d jM_189 25 [.ref l0, .int l1] [.ref s0] h (jo_i q) := by
 unfold F_Mod_law_b25
 exact jr_iconst 25 26 (1 : Int32) rfl jc_i_1 rfl
  (jr_goto 26 30 rfl rfl
  ((F_Mod_law_b30_ok hd )))
noncomputable def F_Mod_law (l0 : Nat) (l1 : Int32) (h : LH) : Option (Int32 × LH) :=
 jf_pi h l0 11 0 (0 : Int32) fun h1 =>
 jf_gi h1 l0 11 1 fun v2 =>
 jf_bi (F_Mod_in l1 (0 : Int32) v2 h1) fun v3 h4 =>
 if v3 = 0 then
 F_Mod_law_b25  l0 l1 l0 h4
else
 if (150 : Int32) < l1 then
 F_Mod_law_b25  l0 l1 l0 h4
else
 F_Mod_law_b30  l0 l1 l0 (0 : Int32) h4
set_option maxRecDepth 100000 in
theorem F_Mod_law_ok {d : Nat} (hd : 181 ≤ d) {l0 : Nat} {l1 : Int32} {h : LH} {q : (Int32 × LH)} : F_Mod_law l0 l1 h = some q → jl_Sem jt_T jt_Ms d 189 [.ref l0, .int l1] h (jo_i q) := by
 unfold F_Mod_law
 exact jr_enter (D := 180) hd jM_189_at rfl rfl rfl (fun d hd =>
  jr_aloadn 0 1 rfl rfl rfl
  (jr_iconst 1 2 (0 : Int32) rfl jc_i_0 rfl
  (jr_pi 2 5 rfl jg_11_109_3 rfl (fun h1 =>
  jr_aloadn 5 6 rfl rfl rfl
  (jr_iloadn 6 7 rfl rfl rfl
  (jr_iconst 7 8 (0 : Int32) rfl jc_i_0 rfl
  (jr_aloadn 8 9 rfl rfl rfl
  (jr_gi 9 12 rfl jg_11_112_1 rfl (fun v2 =>
  jr_cSi 12 15 [.ref l0] rfl rfl rfl rfl rfl rfl rfl (as := [.int l1, .int (0 : Int32), .int v2]) (F_Mod_in_ok (Nat.le_trans (by decide : 1 ≤ 180) hd)) (fun v3 h4 =>
  jr_if_eq 15 25 18 rfl rfl rfl
  ((F_Mod_law_b25_ok hd ))
  (jr_iloadn 18 19 rfl rfl rfl
  (jr_sipush 19 22 (150 : Int32) rfl jc_s_150 rfl
  (jr_icmp_le 22 29 25 rfl rfl rfl
  (jr_iconst 29 30 (0 : Int32) rfl jc_i_0 rfl
  ((F_Mod_law_b30_ok hd )))
  ((F_Mod_law_b25_ok hd )))))))))))))))
noncomputable def jM_199 : JMeth := (11, false, 2, jk_199, [], 2)
set_option maxRecDepth 100000 in
theorem jM_199_at : jt_Ms 199 = some jM_199 := rfl
noncomputable def F_Mod_has_b14 (s0 : Int32) (h : LH) : Option (Int32 × LH) :=
 jf_rz s0 (some (s0, h))
set_option maxRecDepth 100000 in
theorem F_Mod_has_b14_ok {d : Nat} {q : (Int32 × LH)} (hd : 0 ≤ d) {s0 : Int32} {u0 : Value} {u1 : Value} {h : LH} : F_Mod_has_b14 s0 h = some q → JR d jM_199 14 [u0, u1] [.int s0] h (jo_i q) := by
 unfold F_Mod_has_b14
 exact jr_rz 14 rfl rfl
noncomputable def F_Mod_has (l0 : Int32) (l1 : Int32) (h : LH) : Option (Int32 × LH) :=
 if ((l0 >>> (l1 &&& 31)) &&& (1 : Int32)) = (1 : Int32) then
 F_Mod_has_b14  (1 : Int32) h
else
 F_Mod_has_b14  (0 : Int32) h
set_option maxRecDepth 100000 in
theorem F_Mod_has_ok {d : Nat} (hd : 1 ≤ d) {l0 : Int32} {l1 : Int32} {h : LH} {q : (Int32 × LH)} : F_Mod_has l0 l1 h = some q → jl_Sem jt_T jt_Ms d 199 [.int l0, .int l1] h (jo_i q) := by
 unfold F_Mod_has
 exact jr_enter (D := 0) hd jM_199_at rfl rfl rfl (fun d hd =>
  jr_iloadn 0 1 rfl rfl rfl
  (jr_iloadn 1 2 rfl rfl rfl
  (jr_ishr 2 3 rfl rfl
  (jr_iconst 3 4 (1 : Int32) rfl jc_i_1 rfl
  (jr_iand 4 5 rfl rfl
  (jr_iconst 5 6 (1 : Int32) rfl jc_i_1 rfl
  (jr_icmp_ne 6 13 9 rfl rfl rfl
  (jr_iconst 13 14 (0 : Int32) rfl jc_i_0 rfl
  ((F_Mod_has_b14_ok hd )))
  (jr_iconst 9 10 (1 : Int32) rfl jc_i_1 rfl
  (jr_goto 10 14 rfl rfl
  ((F_Mod_has_b14_ok hd )))))))))))
noncomputable def jM_198 : JMeth := (11, false, 1, jk_198, [], 7)
set_option maxRecDepth 100000 in
theorem jM_198_at : jt_Ms 198 = some jM_198 := rfl
noncomputable def F_Mod_book_b189 (l0 : Nat) (l2 : Int32) (h : LH) : Option (Int32 × LH) :=
 jf_gi h l0 11 5 fun v1 =>
 if v1 = 0 then
 jf_pi h l0 11 3 (-1 : Int32) fun h2 =>
 jf_pi h2 l0 11 39 l2 fun h3 =>
 jf_gr h3 l0 11 30 fun v4 =>
 jf_gr h3 l0 11 29 fun v5 =>
 (F_Mod_lays v4 v5 l2 h3).bind fun h6 =>
 some (l2, h6)
else
 jf_kd h l0 11
 (jf_bi (F_Mod_ends l0 h) fun v7 h8 =>
 some (v7, h8))
set_option maxRecDepth 100000 in
theorem F_Mod_book_b189_ok {d : Nat} {q : (Int32 × LH)} (hd : 3 ≤ d) {l0 : Nat} {l2 : Int32} {u1 : Value} {u3 : Value} {u4 : Value} {u5 : Value} {u6 : Value} {h : LH} : F_Mod_book_b189 l0 l2 h = some q → JR d jM_198 189 [.ref l0, u1, .int l2, u3, u4, u5, u6] [] h (jo_i q) := by
 unfold F_Mod_book_b189
 exact jr_aloadn 189 190 rfl rfl rfl
  (jr_gi 190 193 rfl jg_11_125_1 rfl (fun v1 =>
  jr_if_eq 193 201 196 rfl rfl rfl
  (jr_aloadn 201 202 rfl rfl rfl
  (jr_iconst 202 203 (-1 : Int32) rfl jc_i_m1 rfl
  (jr_pi 203 206 rfl jg_11_9_3 rfl (fun h2 =>
  jr_aloadn 206 207 rfl rfl rfl
  (jr_iloadn 207 208 rfl rfl rfl
  (jr_pi 208 211 rfl jg_11_205_3 rfl (fun h3 =>
  jr_aloadn 211 212 rfl rfl rfl
  (jr_gr 212 215 rfl jg_11_73_2 rfl (fun v4 =>
  jr_aloadn 215 216 rfl rfl rfl
  (jr_gr 216 219 rfl jg_11_70_2 rfl (fun v5 =>
  jr_iloadn 219 220 rfl rfl rfl
  (jr_cSv 220 223 [] rfl rfl rfl rfl rfl rfl rfl (as := [.ref v4, .ref v5, .int l2]) (F_Mod_lays_ok (Nat.le_trans (by decide : 1 ≤ 3) hd)) (fun h6 =>
  jr_iloadn 223 224 rfl rfl rfl
  (jr_ri 224 rfl rfl))))))))))))))
  (jr_aloadn 196 197 rfl rfl rfl
  (jr_cVi 197 200 [] rfl rfl rfl rfl rfl rfl rfl rfl (as := []) (F_Mod_ends_ok (Nat.le_trans (by decide : 1 ≤ 3) hd)) (fun v7 h8 =>
  jr_ri 200 rfl rfl)))))
noncomputable def F_Mod_book_b182 (k48 : Nat → Int32 → Int32 → LH → Option (Int32 × LH)) (l0 : Nat) (l2 : Int32) (l3 : Int32) (h : LH) : Option (Int32 × LH) :=
 jf_kd h l0 11
 ((F_Mod_blanks l0 h).bind fun h1 =>
 k48 l0 l2 l3 h1)
set_option maxRecDepth 100000 in
theorem F_Mod_book_b182_ok {d : Nat} {q : (Int32 × LH)} {k48 : Nat → Int32 → Int32 → LH → Option (Int32 × LH)} (hd : 3 ≤ d) (hk48 : ∀ (l0 : Nat) (l2 : Int32) (l3 : Int32) (u1 : Value) (u4 : Value) (u5 : Value) (u6 : Value) (h : LH), k48 l0 l2 l3 h = some q → JR d jM_198 48 [.ref l0, u1, .int l2, .int l3, u4, u5, u6] [] h (jo_i q)) {l0 : Nat} {l2 : Int32} {l3 : Int32} {u1 : Value} {u4 : Value} {u5 : Value} {u6 : Value} {h : LH} : F_Mod_book_b182 k48 l0 l2 l3 h = some q → JR d jM_198 182 [.ref l0, u1, .int l2, .int l3, u4, u5, u6] [] h (jo_i q) := by
 unfold F_Mod_book_b182
 exact jr_aloadn 182 183 rfl rfl rfl
  (jr_cVv 183 186 [] rfl rfl rfl rfl rfl rfl rfl rfl (as := []) (F_Mod_blanks_ok (Nat.le_trans (by decide : 2 ≤ 3) hd)) (fun h1 =>
  jr_goto 186 48 rfl rfl
  ((hk48 _ _ _ _ _ _ _ _))))
noncomputable def F_Mod_book_b130 (k48 : Nat → Int32 → Int32 → LH → Option (Int32 × LH)) (l0 : Nat) (l2 : Int32) (l3 : Int32) (l5 : Int32) (h : LH) : Option (Int32 × LH) :=
 jf_kd h l0 11
 (jf_bi (F_Mod_number l0 (0 : Int32) (31 : Int32) h) fun v1 h2 =>
 jf_kd h2 l0 11
 ((F_Mod_sign l0 (59 : Int32) h2).bind fun h3 =>
 jf_gi h3 l0 11 5 fun v4 =>
 if v4 = 0 then
 jf_let (l3 ||| ((1 : Int32) <<< (l5 &&& 31))) fun v5 =>
 jf_gr h3 l0 11 30 fun v6 =>
 jf_aa h3 v6 l2 fun v7 =>
 jf_is h3 v7 (0 : Int32) l5 fun h8 =>
 jf_gr h8 l0 11 30 fun v9 =>
 jf_aa h8 v9 l2 fun v10 =>
 jf_is h8 v10 (1 : Int32) v1 fun h11 =>
 F_Mod_book_b182 k48 l0 (l2 + (1 : Int32)) v5 h11
else
 F_Mod_book_b182 k48 l0 l2 l3 h3))
set_option maxRecDepth 100000 in
theorem F_Mod_book_b130_ok {d : Nat} {q : (Int32 × LH)} {k48 : Nat → Int32 → Int32 → LH → Option (Int32 × LH)} (hd : 3 ≤ d) (hk48 : ∀ (l0 : Nat) (l2 : Int32) (l3 : Int32) (u1 : Value) (u4 : Value) (u5 : Value) (u6 : Value) (h : LH), k48 l0 l2 l3 h = some q → JR d jM_198 48 [.ref l0, u1, .int l2, .int l3, u4, u5, u6] [] h (jo_i q)) {l0 : Nat} {l2 : Int32} {l3 : Int32} {l5 : Int32} {u1 : Value} {u4 : Value} {u6 : Value} {h : LH} : F_Mod_book_b130 k48 l0 l2 l3 l5 h = some q → JR d jM_198 130 [.ref l0, u1, .int l2, .int l3, u4, .int l5, u6] [] h (jo_i q) := by
 unfold F_Mod_book_b130
 exact jr_aloadn 130 131 rfl rfl rfl
  (jr_iconst 131 132 (0 : Int32) rfl jc_i_0 rfl
  (jr_bipush 132 134 (31 : Int32) rfl jc_b_31 rfl
  (jr_cVi 134 137 [] rfl rfl rfl rfl rfl rfl rfl rfl (as := [.int (0 : Int32), .int (31 : Int32)]) (F_Mod_number_ok (Nat.le_trans (by decide : 3 ≤ 3) hd)) (fun v1 h2 =>
  jr_istore 137 139 [.ref l0, u1, .int l2, .int l3, u4, .int l5, .int v1] rfl rfl rfl rfl
  (jr_aloadn 139 140 rfl rfl rfl
  (jr_bipush 140 142 (59 : Int32) rfl jc_b_59 rfl
  (jr_cVv 142 145 [] rfl rfl rfl rfl rfl rfl rfl rfl (as := [.int (59 : Int32)]) (F_Mod_sign_ok (Nat.le_trans (by decide : 3 ≤ 3) hd)) (fun h3 =>
  jr_aloadn 145 146 rfl rfl rfl
  (jr_gi 146 149 rfl jg_11_125_1 rfl (fun v4 =>
  jr_if_ne 149 182 152 rfl rfl rfl
  ((F_Mod_book_b182_ok hd hk48))
  (jr_iloadn 152 153 rfl rfl rfl
  (jr_iconst 153 154 (1 : Int32) rfl jc_i_1 rfl
  (jr_iload 154 156 rfl rfl rfl
  (jr_ishl 156 157 rfl rfl
  (jr_ior 157 158 rfl rfl
  (jr_istorenL 158 159 (fun v5 => [.ref l0, u1, .int l2, .int v5, u4, .int l5, .int v1]) rfl rfl (fun _ => rfl) rfl (fun v5 =>
  jr_aloadn 159 160 rfl rfl rfl
  (jr_gr 160 163 rfl jg_11_73_2 rfl (fun v6 =>
  jr_iloadn 163 164 rfl rfl rfl
  (jr_aa 164 165 rfl rfl (fun v7 =>
  jr_iconst 165 166 (0 : Int32) rfl jc_i_0 rfl
  (jr_iload 166 168 rfl rfl rfl
  (jr_is 168 169 rfl rfl (fun h8 =>
  jr_aloadn 169 170 rfl rfl rfl
  (jr_gr 170 173 rfl jg_11_73_2 rfl (fun v9 =>
  jr_iloadn 173 174 rfl rfl rfl
  (jr_aa 174 175 rfl rfl (fun v10 =>
  jr_iconst 175 176 (1 : Int32) rfl jc_i_1 rfl
  (jr_iload 176 178 rfl rfl rfl
  (jr_is 178 179 rfl rfl (fun h11 =>
  jr_iinc 179 182 [.ref l0, u1, .int (l2 + (1 : Int32)), .int v5, u4, .int l5, .int v1] rfl jc_i_1 rfl rfl rfl rfl
  ((F_Mod_book_b182_ok hd hk48)))))))))))))))))))))))))))))))))
noncomputable def F_Mod_book_b110 (k48 : Nat → Int32 → Int32 → LH → Option (Int32 × LH)) (l0 : Nat) (l2 : Int32) (l3 : Int32) (l4 : Int32) (l5 : Int32) (h : LH) : Option (Int32 × LH) :=
 jf_gi h l0 11 5 fun v1 =>
 if v1 = 0 then
 if l2 = (9 : Int32) then
 jf_kd h l0 11
 ((F_Mod_wrong l0 (3 : Int32) l4 h).bind fun h2 =>
 F_Mod_book_b130 k48 l0 l2 l3 l5 h2)
else
 F_Mod_book_b130 k48 l0 l2 l3 l5 h
else
 F_Mod_book_b130 k48 l0 l2 l3 l5 h
set_option maxRecDepth 100000 in
theorem F_Mod_book_b110_ok {d : Nat} {q : (Int32 × LH)} {k48 : Nat → Int32 → Int32 → LH → Option (Int32 × LH)} (hd : 3 ≤ d) (hk48 : ∀ (l0 : Nat) (l2 : Int32) (l3 : Int32) (u1 : Value) (u4 : Value) (u5 : Value) (u6 : Value) (h : LH), k48 l0 l2 l3 h = some q → JR d jM_198 48 [.ref l0, u1, .int l2, .int l3, u4, u5, u6] [] h (jo_i q)) {l0 : Nat} {l2 : Int32} {l3 : Int32} {l4 : Int32} {l5 : Int32} {u1 : Value} {u6 : Value} {h : LH} : F_Mod_book_b110 k48 l0 l2 l3 l4 l5 h = some q → JR d jM_198 110 [.ref l0, u1, .int l2, .int l3, .int l4, .int l5, u6] [] h (jo_i q) := by
 unfold F_Mod_book_b110
 exact jr_aloadn 110 111 rfl rfl rfl
  (jr_gi 111 114 rfl jg_11_125_1 rfl (fun v1 =>
  jr_if_ne 114 130 117 rfl rfl rfl
  ((F_Mod_book_b130_ok hd hk48))
  (jr_iloadn 117 118 rfl rfl rfl
  (jr_bipush 118 120 (9 : Int32) rfl jc_b_9 rfl
  (jr_icmp_ne 120 130 123 rfl rfl rfl
  ((F_Mod_book_b130_ok hd hk48))
  (jr_aloadn 123 124 rfl rfl rfl
  (jr_iconst 124 125 (3 : Int32) rfl jc_i_3 rfl
  (jr_iload 125 127 rfl rfl rfl
  (jr_cVv 127 130 [] rfl rfl rfl rfl rfl rfl rfl rfl (as := [.int (3 : Int32), .int l4]) (F_Mod_wrong_ok (Nat.le_trans (by decide : 1 ≤ 3) hd)) (fun h2 =>
  (F_Mod_book_b130_ok hd hk48)))))))))))
noncomputable def F_Mod_book_c48 (k48 : Nat → Int32 → Int32 → LH → Option (Int32 × LH)) (l0 : Nat) (l2 : Int32) (l3 : Int32) (h : LH) : Option (Int32 × LH) :=
 jf_gi h l0 11 5 fun v1 =>
 if v1 = 0 then
 jf_gi h l0 11 4 fun v2 =>
 jf_gi h l0 11 2 fun v3 =>
 if v2 < v3 then
 jf_gi h l0 11 4 fun v4 =>
 jf_gr h l0 11 12 fun v5 =>
 jf_ia h v5 (0 : Int32) fun v6 =>
 jf_kd h l0 11
 (jf_bi (F_Mod_number l0 (0 : Int32) (v6 - (1 : Int32)) h) fun v7 h8 =>
 jf_gi h8 l0 11 5 fun v9 =>
 if v9 = 0 then
 jf_bi (F_Mod_has l3 v7 h8) fun v10 h11 =>
 if v10 = 0 then
 F_Mod_book_b110 k48 l0 l2 l3 v4 v7 h11
else
 jf_kd h11 l0 11
 ((F_Mod_wrong l0 (2 : Int32) v4 h11).bind fun h12 =>
 F_Mod_book_b110 k48 l0 l2 l3 v4 v7 h12)
else
 F_Mod_book_b110 k48 l0 l2 l3 v4 v7 h8)
else
 F_Mod_book_b189  l0 l2 h
else
 F_Mod_book_b189  l0 l2 h
set_option maxRecDepth 100000 in
theorem F_Mod_book_c48_ok {d : Nat} {q : (Int32 × LH)} {k48 : Nat → Int32 → Int32 → LH → Option (Int32 × LH)} (hd : 3 ≤ d) (hk48 : ∀ (l0 : Nat) (l2 : Int32) (l3 : Int32) (u1 : Value) (u4 : Value) (u5 : Value) (u6 : Value) (h : LH), k48 l0 l2 l3 h = some q → JR d jM_198 48 [.ref l0, u1, .int l2, .int l3, u4, u5, u6] [] h (jo_i q)) {l0 : Nat} {l2 : Int32} {l3 : Int32} {u1 : Value} {u4 : Value} {u5 : Value} {u6 : Value} {h : LH} : F_Mod_book_c48 k48 l0 l2 l3 h = some q → JR d jM_198 48 [.ref l0, u1, .int l2, .int l3, u4, u5, u6] [] h (jo_i q) := by
 unfold F_Mod_book_c48
 exact jr_aloadn 48 49 rfl rfl rfl
  (jr_gi 49 52 rfl jg_11_125_1 rfl (fun v1 =>
  jr_if_ne 52 189 55 rfl rfl rfl
  ((F_Mod_book_b189_ok hd ))
  (jr_aloadn 55 56 rfl rfl rfl
  (jr_gi 56 59 rfl jg_11_118_1 rfl (fun v2 =>
  jr_aloadn 59 60 rfl rfl rfl
  (jr_gi 60 63 rfl jg_11_115_1 rfl (fun v3 =>
  jr_icmp_ge 63 189 66 rfl rfl rfl
  ((F_Mod_book_b189_ok hd ))
  (jr_aloadn 66 67 rfl rfl rfl
  (jr_gi 67 70 rfl jg_11_118_1 rfl (fun v4 =>
  jr_istore 70 72 [.ref l0, u1, .int l2, .int l3, .int v4, u5, u6] rfl rfl rfl rfl
  (jr_aloadn 72 73 rfl rfl rfl
  (jr_iconst 73 74 (0 : Int32) rfl jc_i_0 rfl
  (jr_aloadn 74 75 rfl rfl rfl
  (jr_gr 75 78 rfl jg_11_23_2 rfl (fun v5 =>
  jr_iconst 78 79 (0 : Int32) rfl jc_i_0 rfl
  (jr_ia 79 80 rfl rfl (fun v6 =>
  jr_iconst 80 81 (1 : Int32) rfl jc_i_1 rfl
  (jr_isub 81 82 rfl rfl
  (jr_cVi 82 85 [] rfl rfl rfl rfl rfl rfl rfl rfl (as := [.int (0 : Int32), .int (v6 - (1 : Int32))]) (F_Mod_number_ok (Nat.le_trans (by decide : 3 ≤ 3) hd)) (fun v7 h8 =>
  jr_istore 85 87 [.ref l0, u1, .int l2, .int l3, .int v4, .int v7, u6] rfl rfl rfl rfl
  (jr_aloadn 87 88 rfl rfl rfl
  (jr_gi 88 91 rfl jg_11_125_1 rfl (fun v9 =>
  jr_if_ne 91 110 94 rfl rfl rfl
  ((F_Mod_book_b110_ok hd hk48))
  (jr_iloadn 94 95 rfl rfl rfl
  (jr_iload 95 97 rfl rfl rfl
  (jr_cSi 97 100 [] rfl rfl rfl rfl rfl rfl rfl (as := [.int l3, .int v7]) (F_Mod_has_ok (Nat.le_trans (by decide : 1 ≤ 3) hd)) (fun v10 h11 =>
  jr_if_eq 100 110 103 rfl rfl rfl
  ((F_Mod_book_b110_ok hd hk48))
  (jr_aloadn 103 104 rfl rfl rfl
  (jr_iconst 104 105 (2 : Int32) rfl jc_i_2 rfl
  (jr_iload 105 107 rfl rfl rfl
  (jr_cVv 107 110 [] rfl rfl rfl rfl rfl rfl rfl rfl (as := [.int (2 : Int32), .int v4]) (F_Mod_wrong_ok (Nat.le_trans (by decide : 1 ≤ 3) hd)) (fun h12 =>
  (F_Mod_book_b110_ok hd hk48)))))))))))))))))))))))))))))))))
noncomputable def F_Mod_book_l48 : Nat → Nat → Int32 → Int32 → LH → Option (Int32 × LH)
 | 0, _, _, _, _ => none
 | n + 1, l0, l2, l3, h => F_Mod_book_c48 (F_Mod_book_l48 n) l0 l2 l3 h
theorem F_Mod_book_l48_ok {d : Nat} {q : (Int32 × LH)} (hd : 3 ≤ d) : ∀ (n : Nat) (l0 : Nat) (l2 : Int32) (l3 : Int32) (u1 : Value) (u4 : Value) (u5 : Value) (u6 : Value) (h : LH), F_Mod_book_l48 n l0 l2 l3 h = some q → JR d jM_198 48 [.ref l0, u1, .int l2, .int l3, u4, u5, u6] [] h (jo_i q)
 | 0 => fun _ _ _ _ _ _ _ _ hq => nomatch (show (none : Option (Int32 × LH)) = some q from hq)
 | n + 1 => fun _ _ _ _ _ _ _ _ hq => F_Mod_book_c48_ok hd (F_Mod_book_l48_ok hd n) hq
noncomputable def F_Mod_book_b29 (l0 : Nat) (l1 : Int32) (s0 : Nat) (s1 : Int32) (h : LH) : Option (Int32 × LH) :=
 jf_kd h s0 11
 (jf_bi (F_Mod_bad s0 s1 (1 : Int32) (1 : Int32) h) fun v1 h2 =>
 if v1 = 0 then
 jf_kd h2 l0 11
 ((F_Mod_starts l0 l1 h2).bind fun h3 =>
 F_Mod_book_l48  jF l0 (0 : Int32) (0 : Int32) h3)
else
 some ((0 : Int32), h2))
set_option maxRecDepth 100000 in
theorem F_Mod_book_b29_ok {d : Nat} {q : (Int32 × LH)} (hd : 3 ≤ d) {l0 : Nat} {l1 : Int32} {s0 : Nat} {s1 : Int32} {u2 : Value} {u3 : Value} {u4 : Value} {u5 : Value} {u6 : Value} {h : LH} : F_Mod_book_b29 l0 l1 s0 s1 h = some q → JR d jM_198 29 [.ref l0, .int l1, u2, u3, u4, u5, u6] [.int s1, .ref s0] h (jo_i q) := by
 unfold F_Mod_book_b29
 exact jr_iconst 29 30 (1 : Int32) rfl jc_i_1 rfl
  (jr_iconst 30 31 (1 : Int32) rfl jc_i_1 rfl
  (jr_cVi 31 34 [] rfl rfl rfl rfl rfl rfl rfl rfl (as := [.int s1, .int (1 : Int32), .int (1 : Int32)]) (F_Mod_bad_ok (Nat.le_trans (by decide : 1 ≤ 3) hd)) (fun v1 h2 =>
  jr_if_eq 34 39 37 rfl rfl rfl
  (jr_aloadn 39 40 rfl rfl rfl
  (jr_iloadn 40 41 rfl rfl rfl
  (jr_cVv 41 44 [] rfl rfl rfl rfl rfl rfl rfl rfl (as := [.int l1]) (F_Mod_starts_ok (Nat.le_trans (by decide : 3 ≤ 3) hd)) (fun h3 =>
  jr_iconst 44 45 (0 : Int32) rfl jc_i_0 rfl
  (jr_istoren 45 46 [.ref l0, .int l1, .int (0 : Int32), u3, u4, u5, u6] rfl rfl rfl rfl
  (jr_iconst 46 47 (0 : Int32) rfl jc_i_0 rfl
  (jr_istoren 47 48 [.ref l0, .int l1, .int (0 : Int32), .int (0 : Int32), u4, u5, u6] rfl rfl rfl rfl
  ((F_Mod_book_l48_ok hd  jF _ _ _ _ _ _ _ _)))))))))
  (jr_iconst 37 38 (0 : Int32) rfl jc_i_0 rfl
  (jr_ri 38 rfl rfl)))))
noncomputable def F_Mod_book_b24 (l0 : Nat) (l1 : Int32) (s0 : Nat) (h : LH) : Option (Int32 × LH) :=
 F_Mod_book_b29  l0 l1 s0 (1 : Int32) h
set_option maxRecDepth 100000 in
theorem F_Mod_book_b24_ok {d : Nat} {q : (Int32 × LH)} (hd : 3 ≤ d) {l0 : Nat} {l1 : Int32} {s0 : Nat} {u2 : Value} {u3 : Value} {u4 : Value} {u5 : Value} {u6 : Value} {h : LH} : F_Mod_book_b24 l0 l1 s0 h = some q → JR d jM_198 24 [.ref l0, .int l1, u2, u3, u4, u5, u6] [.ref s0] h (jo_i q) := by
 unfold F_Mod_book_b24
 exact jr_iconst 24 25 (1 : Int32) rfl jc_i_1 rfl
  (jr_goto 25 29 rfl rfl
  ((F_Mod_book_b29_ok hd )))
noncomputable def F_Mod_book (l0 : Nat) (l1 : Int32) (h : LH) : Option (Int32 × LH) :=
 jf_pi h l0 11 0 (0 : Int32) fun h1 =>
 jf_gi h1 l0 11 1 fun v2 =>
 jf_bi (F_Mod_in l1 (0 : Int32) v2 h1) fun v3 h4 =>
 if v3 = 0 then
 F_Mod_book_b24  l0 l1 l0 h4
else
 if (100 : Int32) < l1 then
 F_Mod_book_b24  l0 l1 l0 h4
else
 F_Mod_book_b29  l0 l1 l0 (0 : Int32) h4
set_option maxRecDepth 100000 in
theorem F_Mod_book_ok {d : Nat} (hd : 4 ≤ d) {l0 : Nat} {l1 : Int32} {h : LH} {q : (Int32 × LH)} : F_Mod_book l0 l1 h = some q → jl_Sem jt_T jt_Ms d 198 [.ref l0, .int l1] h (jo_i q) := by
 unfold F_Mod_book
 exact jr_enter (D := 3) hd jM_198_at rfl rfl rfl (fun d hd =>
  jr_aloadn 0 1 rfl rfl rfl
  (jr_iconst 1 2 (0 : Int32) rfl jc_i_0 rfl
  (jr_pi 2 5 rfl jg_11_109_3 rfl (fun h1 =>
  jr_aloadn 5 6 rfl rfl rfl
  (jr_iloadn 6 7 rfl rfl rfl
  (jr_iconst 7 8 (0 : Int32) rfl jc_i_0 rfl
  (jr_aloadn 8 9 rfl rfl rfl
  (jr_gi 9 12 rfl jg_11_112_1 rfl (fun v2 =>
  jr_cSi 12 15 [.ref l0] rfl rfl rfl rfl rfl rfl rfl (as := [.int l1, .int (0 : Int32), .int v2]) (F_Mod_in_ok (Nat.le_trans (by decide : 1 ≤ 3) hd)) (fun v3 h4 =>
  jr_if_eq 15 24 18 rfl rfl rfl
  ((F_Mod_book_b24_ok hd ))
  (jr_iloadn 18 19 rfl rfl rfl
  (jr_bipush 19 21 (100 : Int32) rfl jc_b_100 rfl
  (jr_icmp_le 21 28 24 rfl rfl rfl
  (jr_iconst 28 29 (0 : Int32) rfl jc_i_0 rfl
  ((F_Mod_book_b29_ok hd )))
  ((F_Mod_book_b24_ok hd )))))))))))))))
noncomputable def jM_200 : JMeth := (11, false, 1, jk_200, [], 1)
set_option maxRecDepth 100000 in
theorem jM_200_at : jt_Ms 200 = some jM_200 := rfl
noncomputable def F_Mod_fault (l0 : Nat) (h : LH) : Option (Int32 × LH) :=
 jf_pi h l0 11 0 (0 : Int32) fun h1 =>
 jf_gi h1 l0 11 3 fun v2 =>
 some (v2, h1)
set_option maxRecDepth 100000 in
theorem F_Mod_fault_ok {d : Nat} (hd : 1 ≤ d) {l0 : Nat} {h : LH} {q : (Int32 × LH)} : F_Mod_fault l0 h = some q → jl_Sem jt_T jt_Ms d 200 [.ref l0] h (jo_i q) := by
 unfold F_Mod_fault
 exact jr_enter (D := 0) hd jM_200_at rfl rfl rfl (fun d hd =>
  jr_aloadn 0 1 rfl rfl rfl
  (jr_iconst 1 2 (0 : Int32) rfl jc_i_0 rfl
  (jr_pi 2 5 rfl jg_11_109_3 rfl (fun h1 =>
  jr_aloadn 5 6 rfl rfl rfl
  (jr_gi 6 9 rfl jg_11_9_1 rfl (fun v2 =>
  jr_ri 9 rfl rfl))))))
noncomputable def jM_203 : JMeth := (11, false, 1, jk_203, [], 1)
set_option maxRecDepth 100000 in
theorem jM_203_at : jt_Ms 203 = some jM_203 := rfl
noncomputable def F_Mod_stepHere_b76 (s0 : Int32) (h : LH) : Option (Int32 × LH) :=
 some (s0, h)
set_option maxRecDepth 100000 in
theorem F_Mod_stepHere_b76_ok {d : Nat} {q : (Int32 × LH)} (hd : 4 ≤ d) {s0 : Int32} {u0 : Value} {h : LH} : F_Mod_stepHere_b76 s0 h = some q → JR d jM_203 76 [u0] [.int s0] h (jo_i q) := by
 unfold F_Mod_stepHere_b76
 exact jr_ri 76 rfl rfl
noncomputable def F_Mod_stepHere (l0 : Nat) (h : LH) : Option (Int32 × LH) :=
 jf_kd h l0 11
 (jf_bi (F_Mod_isWord l0 (12 : Int32) (15 : Int32) (7 : Int32) (0 : Int32) (0 : Int32) (0 : Int32) h) fun v1 h2 =>
 if v1 = 0 then
 jf_kd h2 l0 11
 (jf_bi (F_Mod_isWord l0 (4 : Int32) (15 : Int32) (21 : Int32) (19 : Int32) (5 : Int32) (0 : Int32) h2) fun v3 h4 =>
 if v3 = 0 then
 jf_kd h4 l0 11
 (jf_bi (F_Mod_isWord l0 (8 : Int32) (15 : Int32) (21 : Int32) (18 : Int32) (0 : Int32) (0 : Int32) h4) fun v5 h6 =>
 if v5 = 0 then
 jf_kd h6 l0 11
 (jf_bi (F_Mod_isWord l0 (1 : Int32) (7 : Int32) (1 : Int32) (9 : Int32) (14 : Int32) (0 : Int32) h6) fun v7 h8 =>
 if v7 = 0 then
 F_Mod_stepHere_b76  (-1 : Int32) h8
else
 F_Mod_stepHere_b76  (3 : Int32) h8)
else
 some ((2 : Int32), h6))
else
 some ((1 : Int32), h4))
else
 some ((0 : Int32), h2))
set_option maxRecDepth 100000 in
theorem F_Mod_stepHere_ok {d : Nat} (hd : 5 ≤ d) {l0 : Nat} {h : LH} {q : (Int32 × LH)} : F_Mod_stepHere l0 h = some q → jl_Sem jt_T jt_Ms d 203 [.ref l0] h (jo_i q) := by
 unfold F_Mod_stepHere
 exact jr_enter (D := 4) hd jM_203_at rfl rfl rfl (fun d hd =>
  jr_aloadn 0 1 rfl rfl rfl
  (jr_bipush 1 3 (12 : Int32) rfl jc_b_12 rfl
  (jr_bipush 3 5 (15 : Int32) rfl jc_b_15 rfl
  (jr_bipush 5 7 (7 : Int32) rfl jc_b_7 rfl
  (jr_iconst 7 8 (0 : Int32) rfl jc_i_0 rfl
  (jr_iconst 8 9 (0 : Int32) rfl jc_i_0 rfl
  (jr_iconst 9 10 (0 : Int32) rfl jc_i_0 rfl
  (jr_cVi 10 13 [] rfl rfl rfl rfl rfl rfl rfl rfl (as := [.int (12 : Int32), .int (15 : Int32), .int (7 : Int32), .int (0 : Int32), .int (0 : Int32), .int (0 : Int32)]) (F_Mod_isWord_ok (Nat.le_trans (by decide : 4 ≤ 4) hd)) (fun v1 h2 =>
  jr_if_eq 13 18 16 rfl rfl rfl
  (jr_aloadn 18 19 rfl rfl rfl
  (jr_iconst 19 20 (4 : Int32) rfl jc_i_4 rfl
  (jr_bipush 20 22 (15 : Int32) rfl jc_b_15 rfl
  (jr_bipush 22 24 (21 : Int32) rfl jc_b_21 rfl
  (jr_bipush 24 26 (19 : Int32) rfl jc_b_19 rfl
  (jr_iconst 26 27 (5 : Int32) rfl jc_i_5 rfl
  (jr_iconst 27 28 (0 : Int32) rfl jc_i_0 rfl
  (jr_cVi 28 31 [] rfl rfl rfl rfl rfl rfl rfl rfl (as := [.int (4 : Int32), .int (15 : Int32), .int (21 : Int32), .int (19 : Int32), .int (5 : Int32), .int (0 : Int32)]) (F_Mod_isWord_ok (Nat.le_trans (by decide : 4 ≤ 4) hd)) (fun v3 h4 =>
  jr_if_eq 31 36 34 rfl rfl rfl
  (jr_aloadn 36 37 rfl rfl rfl
  (jr_bipush 37 39 (8 : Int32) rfl jc_b_8 rfl
  (jr_bipush 39 41 (15 : Int32) rfl jc_b_15 rfl
  (jr_bipush 41 43 (21 : Int32) rfl jc_b_21 rfl
  (jr_bipush 43 45 (18 : Int32) rfl jc_b_18 rfl
  (jr_iconst 45 46 (0 : Int32) rfl jc_i_0 rfl
  (jr_iconst 46 47 (0 : Int32) rfl jc_i_0 rfl
  (jr_cVi 47 50 [] rfl rfl rfl rfl rfl rfl rfl rfl (as := [.int (8 : Int32), .int (15 : Int32), .int (21 : Int32), .int (18 : Int32), .int (0 : Int32), .int (0 : Int32)]) (F_Mod_isWord_ok (Nat.le_trans (by decide : 4 ≤ 4) hd)) (fun v5 h6 =>
  jr_if_eq 50 55 53 rfl rfl rfl
  (jr_aloadn 55 56 rfl rfl rfl
  (jr_iconst 56 57 (1 : Int32) rfl jc_i_1 rfl
  (jr_bipush 57 59 (7 : Int32) rfl jc_b_7 rfl
  (jr_iconst 59 60 (1 : Int32) rfl jc_i_1 rfl
  (jr_bipush 60 62 (9 : Int32) rfl jc_b_9 rfl
  (jr_bipush 62 64 (14 : Int32) rfl jc_b_14 rfl
  (jr_iconst 64 65 (0 : Int32) rfl jc_i_0 rfl
  (jr_cVi 65 68 [] rfl rfl rfl rfl rfl rfl rfl rfl (as := [.int (1 : Int32), .int (7 : Int32), .int (1 : Int32), .int (9 : Int32), .int (14 : Int32), .int (0 : Int32)]) (F_Mod_isWord_ok (Nat.le_trans (by decide : 4 ≤ 4) hd)) (fun v7 h8 =>
  jr_if_eq 68 75 71 rfl rfl rfl
  (jr_iconst 75 76 (-1 : Int32) rfl jc_i_m1 rfl
  ((F_Mod_stepHere_b76_ok hd )))
  (jr_iconst 71 72 (3 : Int32) rfl jc_i_3 rfl
  (jr_goto 72 76 rfl rfl
  ((F_Mod_stepHere_b76_ok hd )))))))))))))
  (jr_iconst 53 54 (2 : Int32) rfl jc_i_2 rfl
  (jr_ri 54 rfl rfl)))))))))))
  (jr_iconst 34 35 (1 : Int32) rfl jc_i_1 rfl
  (jr_ri 35 rfl rfl)))))))))))
  (jr_iconst 16 17 (0 : Int32) rfl jc_i_0 rfl
  (jr_ri 17 rfl rfl)))))))))))
noncomputable def jM_202 : JMeth := (11, false, 0, jk_202, [], 3)
set_option maxRecDepth 100000 in
theorem jM_202_at : jt_Ms 202 = some jM_202 := rfl
noncomputable def F_Mod_readsStep_b181 (R : Nat → LH → Option LH) (l0 : Nat) (l2 : Nat) (h : LH) : Option LH :=
 jf_gi h l0 11 34 fun v1 =>
 jf_is h l2 (3 : Int32) v1 fun h2 =>
 jf_kd h2 l0 11
 ((F_Mod_sign l0 (59 : Int32) h2).bind fun h3 =>
 some h3)
set_option maxRecDepth 100000 in
theorem F_Mod_readsStep_b181_ok {d : Nat} {rd : Nat} {R : Nat → LH → Option LH} {q : LH} (hd : 5 + rd ≤ d) (hRR : ∀ d : Nat, rd ≤ d → ∀ (r0 : Nat) (hh : LH) (qq : LH), R r0 hh = some qq → jl_Sem jt_T jt_Ms d 202 [.ref r0] hh (jo_v qq)) (hR : ∀ (r0 : Nat) (hh : LH) (qq : LH), R r0 hh = some qq → jl_Sem jt_T jt_Ms d 202 [.ref r0] hh (jo_v qq)) {l0 : Nat} {l2 : Nat} {u1 : Value} {h : LH} : F_Mod_readsStep_b181 R l0 l2 h = some q → JR d jM_202 181 [.ref l0, u1, .ref l2] [] h (jo_v q) := by
 unfold F_Mod_readsStep_b181
 exact jr_aloadn 181 182 rfl rfl rfl
  (jr_iconst 182 183 (3 : Int32) rfl jc_i_3 rfl
  (jr_aloadn 183 184 rfl rfl rfl
  (jr_gi 184 187 rfl jg_11_258_1 rfl (fun v1 =>
  jr_is 187 188 rfl rfl (fun h2 =>
  jr_aloadn 188 189 rfl rfl rfl
  (jr_bipush 189 191 (59 : Int32) rfl jc_b_59 rfl
  (jr_cVv 191 194 [] rfl rfl rfl rfl rfl rfl rfl rfl (as := [.int (59 : Int32)]) (F_Mod_sign_ok (Nat.le_trans (by decide : 3 ≤ 5) (Nat.le_trans (Nat.le_add_right _ rd) hd))) (fun h3 =>
  jr_rv 194 rfl rfl))))))))
noncomputable def F_Mod_readsStep_b165 (R : Nat → LH → Option LH) (l0 : Nat) (l2 : Nat) (h : LH) : Option LH :=
 jf_kd h l0 11
 ((F_Mod_sign l0 (93 : Int32) h).bind fun h1 =>
 jf_gi h1 l0 11 8 fun v2 =>
 jf_pi h1 l0 11 8 (v2 - (1 : Int32)) fun h3 =>
 F_Mod_readsStep_b181 R  l0 l2 h3)
set_option maxRecDepth 100000 in
theorem F_Mod_readsStep_b165_ok {d : Nat} {rd : Nat} {R : Nat → LH → Option LH} {q : LH} (hd : 5 + rd ≤ d) (hRR : ∀ d : Nat, rd ≤ d → ∀ (r0 : Nat) (hh : LH) (qq : LH), R r0 hh = some qq → jl_Sem jt_T jt_Ms d 202 [.ref r0] hh (jo_v qq)) (hR : ∀ (r0 : Nat) (hh : LH) (qq : LH), R r0 hh = some qq → jl_Sem jt_T jt_Ms d 202 [.ref r0] hh (jo_v qq)) {l0 : Nat} {l2 : Nat} {u1 : Value} {h : LH} : F_Mod_readsStep_b165 R l0 l2 h = some q → JR d jM_202 165 [.ref l0, u1, .ref l2] [] h (jo_v q) := by
 unfold F_Mod_readsStep_b165
 exact jr_aloadn 165 166 rfl rfl rfl
  (jr_bipush 166 168 (93 : Int32) rfl jc_b_93 rfl
  (jr_cVv 168 171 [] rfl rfl rfl rfl rfl rfl rfl rfl (as := [.int (93 : Int32)]) (F_Mod_sign_ok (Nat.le_trans (by decide : 3 ≤ 5) (Nat.le_trans (Nat.le_add_right _ rd) hd))) (fun h1 =>
  jr_aloadn 171 172 rfl rfl rfl
  (jr_dup 172 173 rfl rfl rfl
  (jr_gi 173 176 rfl jg_11_168_1 rfl (fun v2 =>
  jr_iconst 176 177 (1 : Int32) rfl jc_i_1 rfl
  (jr_isub 177 178 rfl rfl
  (jr_pi 178 181 rfl jg_11_168_3 rfl (fun h3 =>
  (F_Mod_readsStep_b181_ok hd hRR hR ))))))))))
noncomputable def F_Mod_readsStep_c134 (R : Nat → LH → Option LH) (k134 : Nat → Nat → LH → Option LH) (l0 : Nat) (l2 : Nat) (h : LH) : Option LH :=
 jf_gi h l0 11 5 fun v1 =>
 if v1 = 0 then
 jf_gi h l0 11 4 fun v2 =>
 jf_kd h l0 11
 (jf_bi (F_Mod_byteAt l0 v2 h) fun v3 h4 =>
 if v3 = (93 : Int32) then
 F_Mod_readsStep_b165 R  l0 l2 h4
else
 jf_kd h4 l0 11
 ((R l0 h4).bind fun h5 =>
 jf_kd h5 l0 11
 ((F_Mod_blanks l0 h5).bind fun h6 =>
 k134 l0 l2 h6)))
else
 F_Mod_readsStep_b165 R  l0 l2 h
set_option maxRecDepth 100000 in
theorem F_Mod_readsStep_c134_ok {d : Nat} {rd : Nat} {R : Nat → LH → Option LH} {q : LH} {k134 : Nat → Nat → LH → Option LH} (hd : 5 + rd ≤ d) (hRR : ∀ d : Nat, rd ≤ d → ∀ (r0 : Nat) (hh : LH) (qq : LH), R r0 hh = some qq → jl_Sem jt_T jt_Ms d 202 [.ref r0] hh (jo_v qq)) (hR : ∀ (r0 : Nat) (hh : LH) (qq : LH), R r0 hh = some qq → jl_Sem jt_T jt_Ms d 202 [.ref r0] hh (jo_v qq)) (hk134 : ∀ (l0 : Nat) (l2 : Nat) (u1 : Value) (h : LH), k134 l0 l2 h = some q → JR d jM_202 134 [.ref l0, u1, .ref l2] [] h (jo_v q)) {l0 : Nat} {l2 : Nat} {u1 : Value} {h : LH} : F_Mod_readsStep_c134 R k134 l0 l2 h = some q → JR d jM_202 134 [.ref l0, u1, .ref l2] [] h (jo_v q) := by
 unfold F_Mod_readsStep_c134
 exact jr_aloadn 134 135 rfl rfl rfl
  (jr_gi 135 138 rfl jg_11_125_1 rfl (fun v1 =>
  jr_if_ne 138 165 141 rfl rfl rfl
  ((F_Mod_readsStep_b165_ok hd hRR hR ))
  (jr_aloadn 141 142 rfl rfl rfl
  (jr_aloadn 142 143 rfl rfl rfl
  (jr_gi 143 146 rfl jg_11_118_1 rfl (fun v2 =>
  jr_cVi 146 149 [] rfl rfl rfl rfl rfl rfl rfl rfl (as := [.int v2]) (F_Mod_byteAt_ok (Nat.le_trans (by decide : 1 ≤ 5) (Nat.le_trans (Nat.le_add_right _ rd) hd))) (fun v3 h4 =>
  jr_bipush 149 151 (93 : Int32) rfl jc_b_93 rfl
  (jr_icmp_eq 151 165 154 rfl rfl rfl
  ((F_Mod_readsStep_b165_ok hd hRR hR ))
  (jr_aloadn 154 155 rfl rfl rfl
  (jr_cVv 155 158 [] rfl rfl rfl rfl rfl rfl rfl rfl (as := []) (fun hq => hR _ _ _ hq) (fun h5 =>
  jr_aloadn 158 159 rfl rfl rfl
  (jr_cVv 159 162 [] rfl rfl rfl rfl rfl rfl rfl rfl (as := []) (F_Mod_blanks_ok (Nat.le_trans (by decide : 2 ≤ 5) (Nat.le_trans (Nat.le_add_right _ rd) hd))) (fun h6 =>
  jr_goto 162 134 rfl rfl
  ((hk134 _ _ _ _)))))))))))))))
noncomputable def F_Mod_readsStep_l134 (R : Nat → LH → Option LH) : Nat → Nat → Nat → LH → Option LH
 | 0, _, _, _ => none
 | n + 1, l0, l2, h => F_Mod_readsStep_c134 R (F_Mod_readsStep_l134 R n) l0 l2 h
theorem F_Mod_readsStep_l134_ok {d : Nat} {rd : Nat} {R : Nat → LH → Option LH} {q : LH} (hd : 5 + rd ≤ d) (hRR : ∀ d : Nat, rd ≤ d → ∀ (r0 : Nat) (hh : LH) (qq : LH), R r0 hh = some qq → jl_Sem jt_T jt_Ms d 202 [.ref r0] hh (jo_v qq)) (hR : ∀ (r0 : Nat) (hh : LH) (qq : LH), R r0 hh = some qq → jl_Sem jt_T jt_Ms d 202 [.ref r0] hh (jo_v qq)) : ∀ (n : Nat) (l0 : Nat) (l2 : Nat) (u1 : Value) (h : LH), F_Mod_readsStep_l134 R n l0 l2 h = some q → JR d jM_202 134 [.ref l0, u1, .ref l2] [] h (jo_v q)
 | 0 => fun _ _ _ _ hq => nomatch (show (none : Option LH) = some q from hq)
 | n + 1 => fun _ _ _ _ hq => F_Mod_readsStep_c134_ok hd hRR hR (F_Mod_readsStep_l134_ok hd hRR hR n) hq
noncomputable def F_Mod_readsStep_b109 (R : Nat → LH → Option LH) (l0 : Nat) (l1 : Int32) (l2 : Nat) (h : LH) : Option LH :=
 if l1 = (3 : Int32) then
 jf_kd h l0 11
 (jf_bi (F_Mod_number l0 (0 : Int32) (30 : Int32) h) fun v1 h2 =>
 jf_is h2 l2 (1 : Int32) v1 fun h3 =>
 jf_kd h3 l0 11
 ((F_Mod_sign l0 (91 : Int32) h3).bind fun h4 =>
 jf_kd h4 l0 11
 ((F_Mod_blanks l0 h4).bind fun h5 =>
 F_Mod_readsStep_l134 R  jF l0 l2 h5)))
else
 F_Mod_readsStep_b181 R  l0 l2 h
set_option maxRecDepth 100000 in
theorem F_Mod_readsStep_b109_ok {d : Nat} {rd : Nat} {R : Nat → LH → Option LH} {q : LH} (hd : 5 + rd ≤ d) (hRR : ∀ d : Nat, rd ≤ d → ∀ (r0 : Nat) (hh : LH) (qq : LH), R r0 hh = some qq → jl_Sem jt_T jt_Ms d 202 [.ref r0] hh (jo_v qq)) (hR : ∀ (r0 : Nat) (hh : LH) (qq : LH), R r0 hh = some qq → jl_Sem jt_T jt_Ms d 202 [.ref r0] hh (jo_v qq)) {l0 : Nat} {l1 : Int32} {l2 : Nat} {h : LH} : F_Mod_readsStep_b109 R l0 l1 l2 h = some q → JR d jM_202 109 [.ref l0, .int l1, .ref l2] [] h (jo_v q) := by
 unfold F_Mod_readsStep_b109
 exact jr_iloadn 109 110 rfl rfl rfl
  (jr_iconst 110 111 (3 : Int32) rfl jc_i_3 rfl
  (jr_icmp_ne 111 181 114 rfl rfl rfl
  ((F_Mod_readsStep_b181_ok hd hRR hR ))
  (jr_aloadn 114 115 rfl rfl rfl
  (jr_iconst 115 116 (1 : Int32) rfl jc_i_1 rfl
  (jr_aloadn 116 117 rfl rfl rfl
  (jr_iconst 117 118 (0 : Int32) rfl jc_i_0 rfl
  (jr_bipush 118 120 (30 : Int32) rfl jc_b_30 rfl
  (jr_cVi 120 123 [.int (1 : Int32), .ref l2] rfl rfl rfl rfl rfl rfl rfl rfl (as := [.int (0 : Int32), .int (30 : Int32)]) (F_Mod_number_ok (Nat.le_trans (by decide : 3 ≤ 5) (Nat.le_trans (Nat.le_add_right _ rd) hd))) (fun v1 h2 =>
  jr_is 123 124 rfl rfl (fun h3 =>
  jr_aloadn 124 125 rfl rfl rfl
  (jr_bipush 125 127 (91 : Int32) rfl jc_b_91 rfl
  (jr_cVv 127 130 [] rfl rfl rfl rfl rfl rfl rfl rfl (as := [.int (91 : Int32)]) (F_Mod_sign_ok (Nat.le_trans (by decide : 3 ≤ 5) (Nat.le_trans (Nat.le_add_right _ rd) hd))) (fun h4 =>
  jr_aloadn 130 131 rfl rfl rfl
  (jr_cVv 131 134 [] rfl rfl rfl rfl rfl rfl rfl rfl (as := []) (F_Mod_blanks_ok (Nat.le_trans (by decide : 2 ≤ 5) (Nat.le_trans (Nat.le_add_right _ rd) hd))) (fun h5 =>
  (F_Mod_readsStep_l134_ok hd hRR hR  jF _ _ _ _))))))))))))))))
noncomputable def F_Mod_readsStep_b89 (R : Nat → LH → Option LH) (l0 : Nat) (l1 : Int32) (l2 : Nat) (h : LH) : Option LH :=
 if l1 = 0 then
 jf_gr h l0 11 12 fun v1 =>
 jf_ia h v1 (1 : Int32) fun v2 =>
 jf_kd h l0 11
 (jf_bi (F_Mod_number l0 (0 : Int32) (v2 - (1 : Int32)) h) fun v3 h4 =>
 jf_is h4 l2 (2 : Int32) v3 fun h5 =>
 F_Mod_readsStep_b109 R  l0 l1 l2 h5)
else
 F_Mod_readsStep_b109 R  l0 l1 l2 h
set_option maxRecDepth 100000 in
theorem F_Mod_readsStep_b89_ok {d : Nat} {rd : Nat} {R : Nat → LH → Option LH} {q : LH} (hd : 5 + rd ≤ d) (hRR : ∀ d : Nat, rd ≤ d → ∀ (r0 : Nat) (hh : LH) (qq : LH), R r0 hh = some qq → jl_Sem jt_T jt_Ms d 202 [.ref r0] hh (jo_v qq)) (hR : ∀ (r0 : Nat) (hh : LH) (qq : LH), R r0 hh = some qq → jl_Sem jt_T jt_Ms d 202 [.ref r0] hh (jo_v qq)) {l0 : Nat} {l1 : Int32} {l2 : Nat} {h : LH} : F_Mod_readsStep_b89 R l0 l1 l2 h = some q → JR d jM_202 89 [.ref l0, .int l1, .ref l2] [] h (jo_v q) := by
 unfold F_Mod_readsStep_b89
 exact jr_iloadn 89 90 rfl rfl rfl
  (jr_if_ne 90 109 93 rfl rfl rfl
  ((F_Mod_readsStep_b109_ok hd hRR hR ))
  (jr_aloadn 93 94 rfl rfl rfl
  (jr_iconst 94 95 (2 : Int32) rfl jc_i_2 rfl
  (jr_aloadn 95 96 rfl rfl rfl
  (jr_iconst 96 97 (0 : Int32) rfl jc_i_0 rfl
  (jr_aloadn 97 98 rfl rfl rfl
  (jr_gr 98 101 rfl jg_11_23_2 rfl (fun v1 =>
  jr_iconst 101 102 (1 : Int32) rfl jc_i_1 rfl
  (jr_ia 102 103 rfl rfl (fun v2 =>
  jr_iconst 103 104 (1 : Int32) rfl jc_i_1 rfl
  (jr_isub 104 105 rfl rfl
  (jr_cVi 105 108 [.int (2 : Int32), .ref l2] rfl rfl rfl rfl rfl rfl rfl rfl (as := [.int (0 : Int32), .int (v2 - (1 : Int32))]) (F_Mod_number_ok (Nat.le_trans (by decide : 3 ≤ 5) (Nat.le_trans (Nat.le_add_right _ rd) hd))) (fun v3 h4 =>
  jr_is 108 109 rfl rfl (fun h5 =>
  (F_Mod_readsStep_b109_ok hd hRR hR )))))))))))))))
noncomputable def F_Mod_readsStep_b32 (R : Nat → LH → Option LH) (l0 : Nat) (l1 : Int32) (h : LH) : Option LH :=
 jf_gi h l0 11 5 fun v1 =>
 if v1 = 0 then
 jf_kd h l0 11
 ((F_Mod_skipWord l0 h).bind fun h2 =>
 jf_gr h2 l0 11 33 fun v3 =>
 jf_gi h2 l0 11 34 fun v4 =>
 jf_aa h2 v3 v4 fun v5 =>
 jf_gi h2 l0 11 34 fun v6 =>
 jf_pi h2 l0 11 34 (v6 + (1 : Int32)) fun h7 =>
 jf_is h7 v5 (0 : Int32) l1 fun h8 =>
 if l1 < (2 : Int32) then
 jf_gr h8 l0 11 12 fun v9 =>
 jf_ia h8 v9 (0 : Int32) fun v10 =>
 jf_kd h8 l0 11
 (jf_bi (F_Mod_number l0 (0 : Int32) (v10 - (1 : Int32)) h8) fun v11 h12 =>
 jf_is h12 v5 (1 : Int32) v11 fun h13 =>
 F_Mod_readsStep_b89 R  l0 l1 v5 h13)
else
 F_Mod_readsStep_b89 R  l0 l1 v5 h8)
else
 some h
set_option maxRecDepth 100000 in
theorem F_Mod_readsStep_b32_ok {d : Nat} {rd : Nat} {R : Nat → LH → Option LH} {q : LH} (hd : 5 + rd ≤ d) (hRR : ∀ d : Nat, rd ≤ d → ∀ (r0 : Nat) (hh : LH) (qq : LH), R r0 hh = some qq → jl_Sem jt_T jt_Ms d 202 [.ref r0] hh (jo_v qq)) (hR : ∀ (r0 : Nat) (hh : LH) (qq : LH), R r0 hh = some qq → jl_Sem jt_T jt_Ms d 202 [.ref r0] hh (jo_v qq)) {l0 : Nat} {l1 : Int32} {u2 : Value} {h : LH} : F_Mod_readsStep_b32 R l0 l1 h = some q → JR d jM_202 32 [.ref l0, .int l1, u2] [] h (jo_v q) := by
 unfold F_Mod_readsStep_b32
 exact jr_aloadn 32 33 rfl rfl rfl
  (jr_gi 33 36 rfl jg_11_125_1 rfl (fun v1 =>
  jr_if_eq 36 40 39 rfl rfl rfl
  (jr_aloadn 40 41 rfl rfl rfl
  (jr_cVv 41 44 [] rfl rfl rfl rfl rfl rfl rfl rfl (as := []) (F_Mod_skipWord_ok (Nat.le_trans (by decide : 2 ≤ 5) (Nat.le_trans (Nat.le_add_right _ rd) hd))) (fun h2 =>
  jr_aloadn 44 45 rfl rfl rfl
  (jr_gr 45 48 rfl jg_11_82_2 rfl (fun v3 =>
  jr_aloadn 48 49 rfl rfl rfl
  (jr_gi 49 52 rfl jg_11_258_1 rfl (fun v4 =>
  jr_aa 52 53 rfl rfl (fun v5 =>
  jr_astoren 53 54 [.ref l0, .int l1, .ref v5] rfl rfl rfl rfl
  (jr_aloadn 54 55 rfl rfl rfl
  (jr_dup 55 56 rfl rfl rfl
  (jr_gi 56 59 rfl jg_11_258_1 rfl (fun v6 =>
  jr_iconst 59 60 (1 : Int32) rfl jc_i_1 rfl
  (jr_iadd 60 61 rfl rfl
  (jr_pi 61 64 rfl jg_11_258_3 rfl (fun h7 =>
  jr_aloadn 64 65 rfl rfl rfl
  (jr_iconst 65 66 (0 : Int32) rfl jc_i_0 rfl
  (jr_iloadn 66 67 rfl rfl rfl
  (jr_is 67 68 rfl rfl (fun h8 =>
  jr_iloadn 68 69 rfl rfl rfl
  (jr_iconst 69 70 (2 : Int32) rfl jc_i_2 rfl
  (jr_icmp_ge 70 89 73 rfl rfl rfl
  ((F_Mod_readsStep_b89_ok hd hRR hR ))
  (jr_aloadn 73 74 rfl rfl rfl
  (jr_iconst 74 75 (1 : Int32) rfl jc_i_1 rfl
  (jr_aloadn 75 76 rfl rfl rfl
  (jr_iconst 76 77 (0 : Int32) rfl jc_i_0 rfl
  (jr_aloadn 77 78 rfl rfl rfl
  (jr_gr 78 81 rfl jg_11_23_2 rfl (fun v9 =>
  jr_iconst 81 82 (0 : Int32) rfl jc_i_0 rfl
  (jr_ia 82 83 rfl rfl (fun v10 =>
  jr_iconst 83 84 (1 : Int32) rfl jc_i_1 rfl
  (jr_isub 84 85 rfl rfl
  (jr_cVi 85 88 [.int (1 : Int32), .ref v5] rfl rfl rfl rfl rfl rfl rfl rfl (as := [.int (0 : Int32), .int (v10 - (1 : Int32))]) (F_Mod_number_ok (Nat.le_trans (by decide : 3 ≤ 5) (Nat.le_trans (Nat.le_add_right _ rd) hd))) (fun v11 h12 =>
  jr_is 88 89 rfl rfl (fun h13 =>
  (F_Mod_readsStep_b89_ok hd hRR hR )))))))))))))))))))))))))))))))))))
  (jr_rv 39 rfl rfl)))
noncomputable def F_Mod_readsStep_b19 (R : Nat → LH → Option LH) (l0 : Nat) (l1 : Int32) (h : LH) : Option LH :=
 if l1 = (3 : Int32) then
 jf_kd h l0 11
 (jf_bi (F_Mod_opensOne l0 h) fun v1 h2 =>
 if v1 = 0 then
 some h2
else
 F_Mod_readsStep_b32 R  l0 l1 h2)
else
 F_Mod_readsStep_b32 R  l0 l1 h
set_option maxRecDepth 100000 in
theorem F_Mod_readsStep_b19_ok {d : Nat} {rd : Nat} {R : Nat → LH → Option LH} {q : LH} (hd : 5 + rd ≤ d) (hRR : ∀ d : Nat, rd ≤ d → ∀ (r0 : Nat) (hh : LH) (qq : LH), R r0 hh = some qq → jl_Sem jt_T jt_Ms d 202 [.ref r0] hh (jo_v qq)) (hR : ∀ (r0 : Nat) (hh : LH) (qq : LH), R r0 hh = some qq → jl_Sem jt_T jt_Ms d 202 [.ref r0] hh (jo_v qq)) {l0 : Nat} {l1 : Int32} {u2 : Value} {h : LH} : F_Mod_readsStep_b19 R l0 l1 h = some q → JR d jM_202 19 [.ref l0, .int l1, u2] [] h (jo_v q) := by
 unfold F_Mod_readsStep_b19
 exact jr_iloadn 19 20 rfl rfl rfl
  (jr_iconst 20 21 (3 : Int32) rfl jc_i_3 rfl
  (jr_icmp_ne 21 32 24 rfl rfl rfl
  ((F_Mod_readsStep_b32_ok hd hRR hR ))
  (jr_aloadn 24 25 rfl rfl rfl
  (jr_cVi 25 28 [] rfl rfl rfl rfl rfl rfl rfl rfl (as := []) (F_Mod_opensOne_ok (Nat.le_trans (by decide : 2 ≤ 5) (Nat.le_trans (Nat.le_add_right _ rd) hd))) (fun v1 h2 =>
  jr_if_ne 28 32 31 rfl rfl rfl
  ((F_Mod_readsStep_b32_ok hd hRR hR ))
  (jr_rv 31 rfl rfl))))))
noncomputable def E_Mod_readsStep (R : Nat → LH → Option LH) (l0 : Nat) (h : LH) : Option LH :=
 jf_kd h l0 11
 (jf_bi (F_Mod_stepHere l0 h) fun v1 h2 =>
 if v1 = (-1 : Int32) then
 jf_gi h2 l0 11 4 fun v3 =>
 jf_kd h2 l0 11
 ((F_Mod_wrong l0 (1 : Int32) v3 h2).bind fun h4 =>
 F_Mod_readsStep_b19 R  l0 v1 h4)
else
 F_Mod_readsStep_b19 R  l0 v1 h2)
set_option maxRecDepth 100000 in
theorem E_Mod_readsStep_ok {d : Nat} {rd : Nat} {R : Nat → LH → Option LH} (hd : 6 + rd ≤ d) (hRR : ∀ d : Nat, rd ≤ d → ∀ (r0 : Nat) (hh : LH) (qq : LH), R r0 hh = some qq → jl_Sem jt_T jt_Ms d 202 [.ref r0] hh (jo_v qq)) {l0 : Nat} {h : LH} {q : LH} : E_Mod_readsStep R l0 h = some q → jl_Sem jt_T jt_Ms d 202 [.ref l0] h (jo_v q) := by
 unfold E_Mod_readsStep
 exact jr_enter (D := 5 + rd) (Nat.le_trans (Nat.le_of_eq (by omega)) hd) jM_202_at rfl rfl rfl (fun d hd =>
  have hR := hRR d (Nat.le_trans (Nat.le_add_left rd _) hd)
  jr_aloadn 0 1 rfl rfl rfl
  (jr_cVi 1 4 [] rfl rfl rfl rfl rfl rfl rfl rfl (as := []) (F_Mod_stepHere_ok (Nat.le_trans (by decide : 5 ≤ 5) (Nat.le_trans (Nat.le_add_right _ rd) hd))) (fun v1 h2 =>
  jr_istoren 4 5 [.ref l0, .int v1, .retAddr 0] rfl rfl rfl rfl
  (jr_iloadn 5 6 rfl rfl rfl
  (jr_iconst 6 7 (-1 : Int32) rfl jc_i_m1 rfl
  (jr_icmp_ne 7 19 10 rfl rfl rfl
  ((F_Mod_readsStep_b19_ok hd hRR hR ))
  (jr_aloadn 10 11 rfl rfl rfl
  (jr_iconst 11 12 (1 : Int32) rfl jc_i_1 rfl
  (jr_aloadn 12 13 rfl rfl rfl
  (jr_gi 13 16 rfl jg_11_118_1 rfl (fun v3 =>
  jr_cVv 16 19 [] rfl rfl rfl rfl rfl rfl rfl rfl (as := [.int (1 : Int32), .int v3]) (F_Mod_wrong_ok (Nat.le_trans (by decide : 1 ≤ 5) (Nat.le_trans (Nat.le_add_right _ rd) hd))) (fun h4 =>
  (F_Mod_readsStep_b19_ok hd hRR hR )))))))))))))
noncomputable def F_Mod_readsStep : Nat → Nat → LH → Option LH
 | 0, _, _ => none
 | n + 1, l0, h => E_Mod_readsStep (F_Mod_readsStep n) l0 h
theorem F_Mod_readsStep_all : ∀ (n d : Nat), 6 * n ≤ d → ∀ (l0 : Nat) (h : LH) (q : LH), F_Mod_readsStep n l0 h = some q → jl_Sem jt_T jt_Ms d 202 [.ref l0] h (jo_v q)
 | 0, _, _ => fun _ _ _ hq => nomatch (show (none : Option LH) = some _ from hq)
 | n + 1, d, hd => fun _ _ _ hq => E_Mod_readsStep_ok (rd := 6 * n) (Nat.le_trans (Nat.le_of_eq (by omega)) hd) (F_Mod_readsStep_all n) hq
theorem F_Mod_readsStep_ok (n : Nat) {d : Nat} (hd : 6 * n ≤ d) {l0 : Nat} {h : LH} {q : LH} : F_Mod_readsStep n l0 h = some q → jl_Sem jt_T jt_Ms d 202 [.ref l0] h (jo_v q) := F_Mod_readsStep_all n d hd _ _ _
noncomputable def jM_204 : JMeth := (11, false, 0, jk_204, [], 3)
set_option maxRecDepth 100000 in
theorem jM_204_at : jt_Ms 204 = some jM_204 := rfl
noncomputable def F_Mod_copies_c2 (k2 : Nat → Nat → Int32 → LH → Option LH) (l0 : Nat) (l1 : Nat) (l2 : Int32) (h : LH) : Option LH :=
 if l2 < (134 : Int32) then
 jf_ia h l0 l2 fun v1 =>
 jf_is h l1 l2 v1 fun h2 =>
 k2 l0 l1 (l2 + (1 : Int32)) h2
else
 some h
set_option maxRecDepth 100000 in
theorem F_Mod_copies_c2_ok {d : Nat} {q : LH} {k2 : Nat → Nat → Int32 → LH → Option LH} (hd : 0 ≤ d) (hk2 : ∀ (l0 : Nat) (l1 : Nat) (l2 : Int32) (h : LH), k2 l0 l1 l2 h = some q → JR d jM_204 2 [.ref l0, .ref l1, .int l2] [] h (jo_v q)) {l0 : Nat} {l1 : Nat} {l2 : Int32} {h : LH} : F_Mod_copies_c2 k2 l0 l1 l2 h = some q → JR d jM_204 2 [.ref l0, .ref l1, .int l2] [] h (jo_v q) := by
 unfold F_Mod_copies_c2
 exact jr_iloadn 2 3 rfl rfl rfl
  (jr_sipush 3 6 (134 : Int32) rfl jc_s_134 rfl
  (jr_icmp_ge 6 21 9 rfl rfl rfl
  (jr_rv 21 rfl rfl)
  (jr_aloadn 9 10 rfl rfl rfl
  (jr_iloadn 10 11 rfl rfl rfl
  (jr_aloadn 11 12 rfl rfl rfl
  (jr_iloadn 12 13 rfl rfl rfl
  (jr_ia 13 14 rfl rfl (fun v1 =>
  jr_is 14 15 rfl rfl (fun h2 =>
  jr_iinc 15 18 [.ref l0, .ref l1, .int (l2 + (1 : Int32))] rfl jc_i_1 rfl rfl rfl rfl
  (jr_goto 18 2 rfl rfl
  ((hk2 _ _ _ _))))))))))))
noncomputable def F_Mod_copies_l2 : Nat → Nat → Nat → Int32 → LH → Option LH
 | 0, _, _, _, _ => none
 | n + 1, l0, l1, l2, h => F_Mod_copies_c2 (F_Mod_copies_l2 n) l0 l1 l2 h
theorem F_Mod_copies_l2_ok {d : Nat} {q : LH} (hd : 0 ≤ d) : ∀ (n : Nat) (l0 : Nat) (l1 : Nat) (l2 : Int32) (h : LH), F_Mod_copies_l2 n l0 l1 l2 h = some q → JR d jM_204 2 [.ref l0, .ref l1, .int l2] [] h (jo_v q)
 | 0 => fun _ _ _ _ hq => nomatch (show (none : Option LH) = some q from hq)
 | n + 1 => fun _ _ _ _ hq => F_Mod_copies_c2_ok hd (F_Mod_copies_l2_ok hd n) hq
noncomputable def F_Mod_copies (l0 : Nat) (l1 : Nat) (h : LH) : Option LH :=
 F_Mod_copies_l2  jF l0 l1 (0 : Int32) h
set_option maxRecDepth 100000 in
theorem F_Mod_copies_ok {d : Nat} (hd : 1 ≤ d) {l0 : Nat} {l1 : Nat} {h : LH} {q : LH} : F_Mod_copies l0 l1 h = some q → jl_Sem jt_T jt_Ms d 204 [.ref l0, .ref l1] h (jo_v q) := by
 unfold F_Mod_copies
 exact jr_enter (D := 0) hd jM_204_at rfl rfl rfl (fun d hd =>
  jr_iconst 0 1 (0 : Int32) rfl jc_i_0 rfl
  (jr_istoren 1 2 [.ref l0, .ref l1, .int (0 : Int32)] rfl rfl rfl rfl
  ((F_Mod_copies_l2_ok hd  jF _ _ _ _))))
noncomputable def jM_207 : JMeth := (11, false, 2, jk_207, [], 5)
set_option maxRecDepth 100000 in
theorem jM_207_at : jt_Ms 207 = some jM_207 := rfl
noncomputable def F_Mod_laysOn_b20 (h : LH) : Option (Int32 × LH) :=
 jf_rz (0 : Int32) (some ((0 : Int32), h))
set_option maxRecDepth 100000 in
theorem F_Mod_laysOn_b20_ok {d : Nat} {q : (Int32 × LH)} (hd : 0 ≤ d) {u0 : Value} {u1 : Value} {u2 : Value} {u3 : Value} {u4 : Value} {h : LH} : F_Mod_laysOn_b20 h = some q → JR d jM_207 20 [u0, u1, u2, u3, u4] [] h (jo_i q) := by
 unfold F_Mod_laysOn_b20
 exact jr_iconst 20 21 (0 : Int32) rfl jc_i_0 rfl
  (jr_rz 21 rfl rfl)
noncomputable def F_Mod_laysOn (l0 : Nat) (l1 : Nat) (l2 : Int32) (l3 : Int32) (h : LH) : Option (Int32 × LH) :=
 jf_ia h l1 ((117 : Int32) + l3) fun v1 =>
 if v1 = 0 then
 F_Mod_laysOn_b20  h
else
 jf_ia h l1 ((108 : Int32) + l2) fun v2 =>
 if v2 = (6 : Int32) then
 F_Mod_laysOn_b20  h
else
 jf_ia h l1 ((108 : Int32) + l2) fun v3 =>
 jf_let (((6 : Int32) * l2) + v3) fun v4 =>
 jf_is h l1 ((0 : Int32) + v4) l3 fun h5 =>
 jf_gr h5 l0 11 20 fun v6 =>
 jf_aa h5 v6 l3 fun v7 =>
 jf_ia h5 v7 (1 : Int32) fun v8 =>
 jf_is h5 l1 ((54 : Int32) + v4) v8 fun h9 =>
 jf_ia h9 l1 ((108 : Int32) + l2) fun v10 =>
 jf_is h9 l1 ((108 : Int32) + l2) (v10 + (1 : Int32)) fun h11 =>
 jf_ia h11 l1 ((117 : Int32) + l3) fun v12 =>
 jf_is h11 l1 ((117 : Int32) + l3) (v12 - (1 : Int32)) fun h13 =>
 jf_rz (1 : Int32) (some ((1 : Int32), h13))
set_option maxRecDepth 100000 in
theorem F_Mod_laysOn_ok {d : Nat} (hd : 1 ≤ d) {l0 : Nat} {l1 : Nat} {l2 : Int32} {l3 : Int32} {h : LH} {q : (Int32 × LH)} : F_Mod_laysOn l0 l1 l2 l3 h = some q → jl_Sem jt_T jt_Ms d 207 [.ref l0, .ref l1, .int l2, .int l3] h (jo_i q) := by
 unfold F_Mod_laysOn
 exact jr_enter (D := 0) hd jM_207_at rfl rfl rfl (fun d hd =>
  jr_aloadn 0 1 rfl rfl rfl
  (jr_bipush 1 3 (117 : Int32) rfl jc_b_117 rfl
  (jr_iloadn 3 4 rfl rfl rfl
  (jr_iadd 4 5 rfl rfl
  (jr_ia 5 6 rfl rfl (fun v1 =>
  jr_if_eq 6 20 9 rfl rfl rfl
  ((F_Mod_laysOn_b20_ok hd ))
  (jr_aloadn 9 10 rfl rfl rfl
  (jr_bipush 10 12 (108 : Int32) rfl jc_b_108 rfl
  (jr_iloadn 12 13 rfl rfl rfl
  (jr_iadd 13 14 rfl rfl
  (jr_ia 14 15 rfl rfl (fun v2 =>
  jr_bipush 15 17 (6 : Int32) rfl jc_b_6 rfl
  (jr_icmp_ne 17 22 20 rfl rfl rfl
  (jr_bipush 22 24 (6 : Int32) rfl jc_b_6 rfl
  (jr_iloadn 24 25 rfl rfl rfl
  (jr_imul 25 26 rfl rfl
  (jr_aloadn 26 27 rfl rfl rfl
  (jr_bipush 27 29 (108 : Int32) rfl jc_b_108 rfl
  (jr_iloadn 29 30 rfl rfl rfl
  (jr_iadd 30 31 rfl rfl
  (jr_ia 31 32 rfl rfl (fun v3 =>
  jr_iadd 32 33 rfl rfl
  (jr_istoreL 33 35 (fun v4 => [.ref l0, .ref l1, .int l2, .int l3, .int v4]) rfl rfl (fun _ => rfl) rfl (fun v4 =>
  jr_aloadn 35 36 rfl rfl rfl
  (jr_iconst 36 37 (0 : Int32) rfl jc_i_0 rfl
  (jr_iload 37 39 rfl rfl rfl
  (jr_iadd 39 40 rfl rfl
  (jr_iloadn 40 41 rfl rfl rfl
  (jr_is 41 42 rfl rfl (fun h5 =>
  jr_aloadn 42 43 rfl rfl rfl
  (jr_bipush 43 45 (54 : Int32) rfl jc_b_54 rfl
  (jr_iload 45 47 rfl rfl rfl
  (jr_iadd 47 48 rfl rfl
  (jr_aloadn 48 49 rfl rfl rfl
  (jr_gr 49 52 rfl jg_11_49_2 rfl (fun v6 =>
  jr_iloadn 52 53 rfl rfl rfl
  (jr_aa 53 54 rfl rfl (fun v7 =>
  jr_iconst 54 55 (1 : Int32) rfl jc_i_1 rfl
  (jr_ia 55 56 rfl rfl (fun v8 =>
  jr_is 56 57 rfl rfl (fun h9 =>
  jr_aloadn 57 58 rfl rfl rfl
  (jr_bipush 58 60 (108 : Int32) rfl jc_b_108 rfl
  (jr_iloadn 60 61 rfl rfl rfl
  (jr_iadd 61 62 rfl rfl
  (jr_dup2 62 63 rfl rfl rfl rfl
  (jr_ia 63 64 rfl rfl (fun v10 =>
  jr_iconst 64 65 (1 : Int32) rfl jc_i_1 rfl
  (jr_iadd 65 66 rfl rfl
  (jr_is 66 67 rfl rfl (fun h11 =>
  jr_aloadn 67 68 rfl rfl rfl
  (jr_bipush 68 70 (117 : Int32) rfl jc_b_117 rfl
  (jr_iloadn 70 71 rfl rfl rfl
  (jr_iadd 71 72 rfl rfl
  (jr_dup2 72 73 rfl rfl rfl rfl
  (jr_ia 73 74 rfl rfl (fun v12 =>
  jr_iconst 74 75 (1 : Int32) rfl jc_i_1 rfl
  (jr_isub 75 76 rfl rfl
  (jr_is 76 77 rfl rfl (fun h13 =>
  jr_iconst 77 78 (1 : Int32) rfl jc_i_1 rfl
  (jr_rz 78 rfl rfl)))))))))))))))))))))))))))))))))))))))))))))))
  ((F_Mod_laysOn_b20_ok hd )))))))))))))))
noncomputable def jM_214 : JMeth := (11, false, 1, jk_214, [], 2)
set_option maxRecDepth 100000 in
theorem jM_214_at : jt_Ms 214 = some jM_214 := rfl
noncomputable def F_Mod_windIn_b26 (s0 : Int32) (h : LH) : Option (Int32 × LH) :=
 some (s0, h)
set_option maxRecDepth 100000 in
theorem F_Mod_windIn_b26_ok {d : Nat} {q : (Int32 × LH)} (hd : 0 ≤ d) {s0 : Int32} {u0 : Value} {u1 : Value} {h : LH} : F_Mod_windIn_b26 s0 h = some q → JR d jM_214 26 [u0, u1] [.int s0] h (jo_i q) := by
 unfold F_Mod_windIn_b26
 exact jr_ri 26 rfl rfl
noncomputable def F_Mod_windIn (l0 : Nat) (l1 : Int32) (h : LH) : Option (Int32 × LH) :=
 jf_gr h l0 11 12 fun v1 =>
 jf_ia h v1 (4 : Int32) fun v2 =>
 if v2 = 0 then
 F_Mod_windIn_b26  (0 : Int32) h
else
 jf_gr h l0 11 16 fun v3 =>
 jf_gr h l0 11 12 fun v4 =>
 jf_ia h v4 (4 : Int32) fun v5 =>
 jf_dv v5 (l1 - l1 / v5 * v5) fun v6 =>
 jf_ia h v3 v6 fun v7 =>
 F_Mod_windIn_b26  v7 h
set_option maxRecDepth 100000 in
theorem F_Mod_windIn_ok {d : Nat} (hd : 1 ≤ d) {l0 : Nat} {l1 : Int32} {h : LH} {q : (Int32 × LH)} : F_Mod_windIn l0 l1 h = some q → jl_Sem jt_T jt_Ms d 214 [.ref l0, .int l1] h (jo_i q) := by
 unfold F_Mod_windIn
 exact jr_enter (D := 0) hd jM_214_at rfl rfl rfl (fun d hd =>
  jr_aloadn 0 1 rfl rfl rfl
  (jr_gr 1 4 rfl jg_11_23_2 rfl (fun v1 =>
  jr_iconst 4 5 (4 : Int32) rfl jc_i_4 rfl
  (jr_ia 5 6 rfl rfl (fun v2 =>
  jr_if_ne 6 13 9 rfl rfl rfl
  (jr_aloadn 13 14 rfl rfl rfl
  (jr_gr 14 17 rfl jg_11_35_2 rfl (fun v3 =>
  jr_iloadn 17 18 rfl rfl rfl
  (jr_aloadn 18 19 rfl rfl rfl
  (jr_gr 19 22 rfl jg_11_23_2 rfl (fun v4 =>
  jr_iconst 22 23 (4 : Int32) rfl jc_i_4 rfl
  (jr_ia 23 24 rfl rfl (fun v5 =>
  jr_irem 24 25 rfl rfl (fun v6 =>
  jr_ia 25 26 rfl rfl (fun v7 =>
  (F_Mod_windIn_b26_ok hd )))))))))))
  (jr_iconst 9 10 (0 : Int32) rfl jc_i_0 rfl
  (jr_goto 10 26 rfl rfl
  ((F_Mod_windIn_b26_ok hd )))))))))
noncomputable def jM_213 : JMeth := (11, false, 1, jk_213, [], 4)
set_option maxRecDepth 100000 in
theorem jM_213_at : jt_Ms 213 = some jM_213 := rfl
noncomputable def F_Mod_standsBy (l0 : Nat) (l1 : Nat) (l2 : Int32) (l3 : Int32) (h : LH) : Option (Int32 × LH) :=
 jf_ia h l1 (133 : Int32) fun v1 =>
 jf_kd h l0 11
 (jf_bi (F_Mod_windIn l0 v1 h) fun v2 h3 =>
 jf_gr h3 l0 11 12 fun v4 =>
 jf_ia h3 v4 (0 : Int32) fun v5 =>
 jf_dv v5 (((l2 + l3) + v2) - ((l2 + l3) + v2) / v5 * v5) fun v6 =>
 some (v6, h3))
set_option maxRecDepth 100000 in
theorem F_Mod_standsBy_ok {d : Nat} (hd : 2 ≤ d) {l0 : Nat} {l1 : Nat} {l2 : Int32} {l3 : Int32} {h : LH} {q : (Int32 × LH)} : F_Mod_standsBy l0 l1 l2 l3 h = some q → jl_Sem jt_T jt_Ms d 213 [.ref l0, .ref l1, .int l2, .int l3] h (jo_i q) := by
 unfold F_Mod_standsBy
 exact jr_enter (D := 1) hd jM_213_at rfl rfl rfl (fun d hd =>
  jr_iloadn 0 1 rfl rfl rfl
  (jr_iloadn 1 2 rfl rfl rfl
  (jr_iadd 2 3 rfl rfl
  (jr_aloadn 3 4 rfl rfl rfl
  (jr_aloadn 4 5 rfl rfl rfl
  (jr_sipush 5 8 (133 : Int32) rfl jc_s_133 rfl
  (jr_ia 8 9 rfl rfl (fun v1 =>
  jr_cVi 9 12 [.int (l2 + l3)] rfl rfl rfl rfl rfl rfl rfl rfl (as := [.int v1]) (F_Mod_windIn_ok (Nat.le_trans (by decide : 1 ≤ 1) hd)) (fun v2 h3 =>
  jr_iadd 12 13 rfl rfl
  (jr_aloadn 13 14 rfl rfl rfl
  (jr_gr 14 17 rfl jg_11_23_2 rfl (fun v4 =>
  jr_iconst 17 18 (0 : Int32) rfl jc_i_0 rfl
  (jr_ia 18 19 rfl rfl (fun v5 =>
  jr_irem 19 20 rfl rfl (fun v6 =>
  jr_ri 20 rfl rfl)))))))))))))))
noncomputable def jM_212 : JMeth := (11, false, 1, jk_212, [], 3)
set_option maxRecDepth 100000 in
theorem jM_212_at : jt_Ms 212 = some jM_212 := rfl
noncomputable def F_Mod_standsOf (l0 : Nat) (l1 : Nat) (l2 : Int32) (h : LH) : Option (Int32 × LH) :=
 jf_gr h l0 11 14 fun v1 =>
 jf_ia h v1 l2 fun v2 =>
 jf_kd h l0 11
 (jf_bi (F_Mod_standsBy l0 l1 l2 v2 h) fun v3 h4 =>
 some (v3, h4))
set_option maxRecDepth 100000 in
theorem F_Mod_standsOf_ok {d : Nat} (hd : 3 ≤ d) {l0 : Nat} {l1 : Nat} {l2 : Int32} {h : LH} {q : (Int32 × LH)} : F_Mod_standsOf l0 l1 l2 h = some q → jl_Sem jt_T jt_Ms d 212 [.ref l0, .ref l1, .int l2] h (jo_i q) := by
 unfold F_Mod_standsOf
 exact jr_enter (D := 2) hd jM_212_at rfl rfl rfl (fun d hd =>
  jr_aloadn 0 1 rfl rfl rfl
  (jr_aloadn 1 2 rfl rfl rfl
  (jr_iloadn 2 3 rfl rfl rfl
  (jr_aloadn 3 4 rfl rfl rfl
  (jr_gr 4 7 rfl jg_11_29_2 rfl (fun v1 =>
  jr_iloadn 7 8 rfl rfl rfl
  (jr_ia 8 9 rfl rfl (fun v2 =>
  jr_cVi 9 12 [] rfl rfl rfl rfl rfl rfl rfl rfl (as := [.ref l1, .int l2, .int v2]) (F_Mod_standsBy_ok (Nat.le_trans (by decide : 2 ≤ 2) hd)) (fun v3 h4 =>
  jr_ri 12 rfl rfl)))))))))
noncomputable def jM_216 : JMeth := (11, false, 2, jk_216, [], 3)
set_option maxRecDepth 100000 in
theorem jM_216_at : jt_Ms 216 = some jM_216 := rfl
noncomputable def F_Mod_isRain_c2 (k2 : Nat → Int32 → Int32 → LH → Option (Int32 × LH)) (l0 : Nat) (l1 : Int32) (l2 : Int32) (h : LH) : Option (Int32 × LH) :=
 jf_gr h l0 11 12 fun v1 =>
 jf_ia h v1 (5 : Int32) fun v2 =>
 if l2 < v2 then
 jf_gr h l0 11 24 fun v4 =>
 jf_aa h v4 l2 fun v5 =>
 jf_ia h v5 (0 : Int32) fun v6 =>
 jf_gr h l0 11 24 fun v7 =>
 jf_aa h v7 l2 fun v8 =>
 jf_ia h v8 (1 : Int32) fun v9 =>
 jf_bi (F_Mod_in l1 v6 v9 h) fun v10 h11 =>
 if v10 = 0 then
 k2 l0 l1 (l2 + (1 : Int32)) h11
else
 jf_rz (1 : Int32) (some ((1 : Int32), h11))
else
 jf_gi h l0 11 44 fun v3 =>
 jf_rz v3 (some (v3, h))
set_option maxRecDepth 100000 in
theorem F_Mod_isRain_c2_ok {d : Nat} {q : (Int32 × LH)} {k2 : Nat → Int32 → Int32 → LH → Option (Int32 × LH)} (hd : 1 ≤ d) (hk2 : ∀ (l0 : Nat) (l1 : Int32) (l2 : Int32) (h : LH), k2 l0 l1 l2 h = some q → JR d jM_216 2 [.ref l0, .int l1, .int l2] [] h (jo_i q)) {l0 : Nat} {l1 : Int32} {l2 : Int32} {h : LH} : F_Mod_isRain_c2 k2 l0 l1 l2 h = some q → JR d jM_216 2 [.ref l0, .int l1, .int l2] [] h (jo_i q) := by
 unfold F_Mod_isRain_c2
 exact jr_iloadn 2 3 rfl rfl rfl
  (jr_aloadn 3 4 rfl rfl rfl
  (jr_gr 4 7 rfl jg_11_23_2 rfl (fun v1 =>
  jr_iconst 7 8 (5 : Int32) rfl jc_i_5 rfl
  (jr_ia 8 9 rfl rfl (fun v2 =>
  jr_icmp_ge 9 43 12 rfl rfl rfl
  (jr_aloadn 43 44 rfl rfl rfl
  (jr_gi 44 47 rfl jg_11_268_1 rfl (fun v3 =>
  jr_rz 47 rfl rfl)))
  (jr_iloadn 12 13 rfl rfl rfl
  (jr_aloadn 13 14 rfl rfl rfl
  (jr_gr 14 17 rfl jg_11_61_2 rfl (fun v4 =>
  jr_iloadn 17 18 rfl rfl rfl
  (jr_aa 18 19 rfl rfl (fun v5 =>
  jr_iconst 19 20 (0 : Int32) rfl jc_i_0 rfl
  (jr_ia 20 21 rfl rfl (fun v6 =>
  jr_aloadn 21 22 rfl rfl rfl
  (jr_gr 22 25 rfl jg_11_61_2 rfl (fun v7 =>
  jr_iloadn 25 26 rfl rfl rfl
  (jr_aa 26 27 rfl rfl (fun v8 =>
  jr_iconst 27 28 (1 : Int32) rfl jc_i_1 rfl
  (jr_ia 28 29 rfl rfl (fun v9 =>
  jr_cSi 29 32 [] rfl rfl rfl rfl rfl rfl rfl (as := [.int l1, .int v6, .int v9]) (F_Mod_in_ok (Nat.le_trans (by decide : 1 ≤ 1) hd)) (fun v10 h11 =>
  jr_if_eq 32 37 35 rfl rfl rfl
  (jr_iinc 37 40 [.ref l0, .int l1, .int (l2 + (1 : Int32))] rfl jc_i_1 rfl rfl rfl rfl
  (jr_goto 40 2 rfl rfl
  ((hk2 _ _ _ _))))
  (jr_iconst 35 36 (1 : Int32) rfl jc_i_1 rfl
  (jr_rz 36 rfl rfl))))))))))))))))))))))
noncomputable def F_Mod_isRain_l2 : Nat → Nat → Int32 → Int32 → LH → Option (Int32 × LH)
 | 0, _, _, _, _ => none
 | n + 1, l0, l1, l2, h => F_Mod_isRain_c2 (F_Mod_isRain_l2 n) l0 l1 l2 h
theorem F_Mod_isRain_l2_ok {d : Nat} {q : (Int32 × LH)} (hd : 1 ≤ d) : ∀ (n : Nat) (l0 : Nat) (l1 : Int32) (l2 : Int32) (h : LH), F_Mod_isRain_l2 n l0 l1 l2 h = some q → JR d jM_216 2 [.ref l0, .int l1, .int l2] [] h (jo_i q)
 | 0 => fun _ _ _ _ hq => nomatch (show (none : Option (Int32 × LH)) = some q from hq)
 | n + 1 => fun _ _ _ _ hq => F_Mod_isRain_c2_ok hd (F_Mod_isRain_l2_ok hd n) hq
noncomputable def F_Mod_isRain (l0 : Nat) (l1 : Int32) (h : LH) : Option (Int32 × LH) :=
 F_Mod_isRain_l2  jF l0 l1 (0 : Int32) h
set_option maxRecDepth 100000 in
theorem F_Mod_isRain_ok {d : Nat} (hd : 2 ≤ d) {l0 : Nat} {l1 : Int32} {h : LH} {q : (Int32 × LH)} : F_Mod_isRain l0 l1 h = some q → jl_Sem jt_T jt_Ms d 216 [.ref l0, .int l1] h (jo_i q) := by
 unfold F_Mod_isRain
 exact jr_enter (D := 1) hd jM_216_at rfl rfl rfl (fun d hd =>
  jr_iconst 0 1 (0 : Int32) rfl jc_i_0 rfl
  (jr_istoren 1 2 [.ref l0, .int l1, .int (0 : Int32)] rfl rfl rfl rfl
  ((F_Mod_isRain_l2_ok hd  jF _ _ _ _))))
noncomputable def jM_215 : JMeth := (11, false, 1, jk_215, [], 5)
set_option maxRecDepth 100000 in
theorem jM_215_at : jt_Ms 215 = some jM_215 := rfl
noncomputable def F_Mod_smokeFrom_b52 (k5 : Nat → Nat → Int32 → Int32 → Int32 → LH → Option (Int32 × LH)) (l0 : Nat) (l1 : Nat) (l2 : Int32) (l4 : Int32) (s0 : Int32) (s1 : Int32) (s2 : Int32) (h : LH) : Option (Int32 × LH) :=
 jf_dv s2 (s1 / s2) fun v1 =>
 jf_let (s0 + v1) fun v2 =>
 k5 l0 l1 l2 v2 (l4 + (1 : Int32)) h
set_option maxRecDepth 100000 in
theorem F_Mod_smokeFrom_b52_ok {d : Nat} {q : (Int32 × LH)} {k5 : Nat → Nat → Int32 → Int32 → Int32 → LH → Option (Int32 × LH)} (hd : 2 ≤ d) (hk5 : ∀ (l0 : Nat) (l1 : Nat) (l2 : Int32) (l3 : Int32) (l4 : Int32) (h : LH), k5 l0 l1 l2 l3 l4 h = some q → JR d jM_215 5 [.ref l0, .ref l1, .int l2, .int l3, .int l4] [] h (jo_i q)) {l0 : Nat} {l1 : Nat} {l2 : Int32} {l4 : Int32} {s0 : Int32} {s1 : Int32} {s2 : Int32} {u3 : Value} {h : LH} : F_Mod_smokeFrom_b52 k5 l0 l1 l2 l4 s0 s1 s2 h = some q → JR d jM_215 52 [.ref l0, .ref l1, .int l2, u3, .int l4] [.int s2, .int s1, .int s0] h (jo_i q) := by
 unfold F_Mod_smokeFrom_b52
 exact jr_idiv 52 53 rfl rfl (fun v1 =>
  jr_iadd 53 54 rfl rfl
  (jr_istorenL 54 55 (fun v2 => [.ref l0, .ref l1, .int l2, .int v2, .int l4]) rfl rfl (fun _ => rfl) rfl (fun v2 =>
  jr_iinc 55 58 [.ref l0, .ref l1, .int l2, .int v2, .int (l4 + (1 : Int32))] rfl jc_i_1 rfl rfl rfl rfl
  (jr_goto 58 5 rfl rfl
  ((hk5 _ _ _ _ _ _))))))
noncomputable def F_Mod_smokeFrom_c5 (k5 : Nat → Nat → Int32 → Int32 → Int32 → LH → Option (Int32 × LH)) (l0 : Nat) (l1 : Nat) (l2 : Int32) (l3 : Int32) (l4 : Int32) (h : LH) : Option (Int32 × LH) :=
 jf_ia h l1 ((108 : Int32) + l2) fun v1 =>
 if l4 < v1 then
 jf_gr h l0 11 20 fun v2 =>
 jf_ia h l1 (((0 : Int32) + ((6 : Int32) * l2)) + l4) fun v3 =>
 jf_aa h v2 v3 fun v4 =>
 jf_ia h v4 (0 : Int32) fun v5 =>
 jf_ia h l1 (133 : Int32) fun v6 =>
 jf_kd h l0 11
 (jf_bi (F_Mod_isRain l0 v6 h) fun v7 h8 =>
 if v7 = 0 then
 F_Mod_smokeFrom_b52 k5 l0 l1 l2 l4 l3 v5 (1 : Int32) h8
else
 F_Mod_smokeFrom_b52 k5 l0 l1 l2 l4 l3 v5 (2 : Int32) h8)
else
 some (l3, h)
set_option maxRecDepth 100000 in
theorem F_Mod_smokeFrom_c5_ok {d : Nat} {q : (Int32 × LH)} {k5 : Nat → Nat → Int32 → Int32 → Int32 → LH → Option (Int32 × LH)} (hd : 2 ≤ d) (hk5 : ∀ (l0 : Nat) (l1 : Nat) (l2 : Int32) (l3 : Int32) (l4 : Int32) (h : LH), k5 l0 l1 l2 l3 l4 h = some q → JR d jM_215 5 [.ref l0, .ref l1, .int l2, .int l3, .int l4] [] h (jo_i q)) {l0 : Nat} {l1 : Nat} {l2 : Int32} {l3 : Int32} {l4 : Int32} {h : LH} : F_Mod_smokeFrom_c5 k5 l0 l1 l2 l3 l4 h = some q → JR d jM_215 5 [.ref l0, .ref l1, .int l2, .int l3, .int l4] [] h (jo_i q) := by
 unfold F_Mod_smokeFrom_c5
 exact jr_iload 5 7 rfl rfl rfl
  (jr_aloadn 7 8 rfl rfl rfl
  (jr_bipush 8 10 (108 : Int32) rfl jc_b_108 rfl
  (jr_iloadn 10 11 rfl rfl rfl
  (jr_iadd 11 12 rfl rfl
  (jr_ia 12 13 rfl rfl (fun v1 =>
  jr_icmp_ge 13 61 16 rfl rfl rfl
  (jr_iloadn 61 62 rfl rfl rfl
  (jr_ri 62 rfl rfl))
  (jr_iloadn 16 17 rfl rfl rfl
  (jr_aloadn 17 18 rfl rfl rfl
  (jr_gr 18 21 rfl jg_11_49_2 rfl (fun v2 =>
  jr_aloadn 21 22 rfl rfl rfl
  (jr_iconst 22 23 (0 : Int32) rfl jc_i_0 rfl
  (jr_bipush 23 25 (6 : Int32) rfl jc_b_6 rfl
  (jr_iloadn 25 26 rfl rfl rfl
  (jr_imul 26 27 rfl rfl
  (jr_iadd 27 28 rfl rfl
  (jr_iload 28 30 rfl rfl rfl
  (jr_iadd 30 31 rfl rfl
  (jr_ia 31 32 rfl rfl (fun v3 =>
  jr_aa 32 33 rfl rfl (fun v4 =>
  jr_iconst 33 34 (0 : Int32) rfl jc_i_0 rfl
  (jr_ia 34 35 rfl rfl (fun v5 =>
  jr_aloadn 35 36 rfl rfl rfl
  (jr_aloadn 36 37 rfl rfl rfl
  (jr_sipush 37 40 (133 : Int32) rfl jc_s_133 rfl
  (jr_ia 40 41 rfl rfl (fun v6 =>
  jr_cVi 41 44 [.int v5, .int l3] rfl rfl rfl rfl rfl rfl rfl rfl (as := [.int v6]) (F_Mod_isRain_ok (Nat.le_trans (by decide : 2 ≤ 2) hd)) (fun v7 h8 =>
  jr_if_eq 44 51 47 rfl rfl rfl
  (jr_iconst 51 52 (1 : Int32) rfl jc_i_1 rfl
  ((F_Mod_smokeFrom_b52_ok hd hk5)))
  (jr_iconst 47 48 (2 : Int32) rfl jc_i_2 rfl
  (jr_goto 48 52 rfl rfl
  ((F_Mod_smokeFrom_b52_ok hd hk5)))))))))))))))))))))))))))))))
noncomputable def F_Mod_smokeFrom_l5 : Nat → Nat → Nat → Int32 → Int32 → Int32 → LH → Option (Int32 × LH)
 | 0, _, _, _, _, _, _ => none
 | n + 1, l0, l1, l2, l3, l4, h => F_Mod_smokeFrom_c5 (F_Mod_smokeFrom_l5 n) l0 l1 l2 l3 l4 h
theorem F_Mod_smokeFrom_l5_ok {d : Nat} {q : (Int32 × LH)} (hd : 2 ≤ d) : ∀ (n : Nat) (l0 : Nat) (l1 : Nat) (l2 : Int32) (l3 : Int32) (l4 : Int32) (h : LH), F_Mod_smokeFrom_l5 n l0 l1 l2 l3 l4 h = some q → JR d jM_215 5 [.ref l0, .ref l1, .int l2, .int l3, .int l4] [] h (jo_i q)
 | 0 => fun _ _ _ _ _ _ hq => nomatch (show (none : Option (Int32 × LH)) = some q from hq)
 | n + 1 => fun _ _ _ _ _ _ hq => F_Mod_smokeFrom_c5_ok hd (F_Mod_smokeFrom_l5_ok hd n) hq
noncomputable def F_Mod_smokeFrom (l0 : Nat) (l1 : Nat) (l2 : Int32) (h : LH) : Option (Int32 × LH) :=
 F_Mod_smokeFrom_l5  jF l0 l1 l2 (0 : Int32) (0 : Int32) h
set_option maxRecDepth 100000 in
theorem F_Mod_smokeFrom_ok {d : Nat} (hd : 3 ≤ d) {l0 : Nat} {l1 : Nat} {l2 : Int32} {h : LH} {q : (Int32 × LH)} : F_Mod_smokeFrom l0 l1 l2 h = some q → jl_Sem jt_T jt_Ms d 215 [.ref l0, .ref l1, .int l2] h (jo_i q) := by
 unfold F_Mod_smokeFrom
 exact jr_enter (D := 2) hd jM_215_at rfl rfl rfl (fun d hd =>
  jr_iconst 0 1 (0 : Int32) rfl jc_i_0 rfl
  (jr_istoren 1 2 [.ref l0, .ref l1, .int l2, .int (0 : Int32), .retAddr 0] rfl rfl rfl rfl
  (jr_iconst 2 3 (0 : Int32) rfl jc_i_0 rfl
  (jr_istore 3 5 [.ref l0, .ref l1, .int l2, .int (0 : Int32), .int (0 : Int32)] rfl rfl rfl rfl
  ((F_Mod_smokeFrom_l5_ok hd  jF _ _ _ _ _ _))))))
noncomputable def jM_211 : JMeth := (11, false, 1, jk_211, [], 5)
set_option maxRecDepth 100000 in
theorem jM_211_at : jt_Ms 211 = some jM_211 := rfl
noncomputable def F_Mod_smokeAt_b39 (k5 : Nat → Nat → Int32 → Int32 → Int32 → LH → Option (Int32 × LH)) (l0 : Nat) (l1 : Nat) (l2 : Int32) (l4 : Int32) (s0 : Int32) (s1 : Int32) (h : LH) : Option (Int32 × LH) :=
 jf_let (s0 + s1) fun v1 =>
 k5 l0 l1 l2 v1 (l4 + (1 : Int32)) h
set_option maxRecDepth 100000 in
theorem F_Mod_smokeAt_b39_ok {d : Nat} {q : (Int32 × LH)} {k5 : Nat → Nat → Int32 → Int32 → Int32 → LH → Option (Int32 × LH)} (hd : 3 ≤ d) (hk5 : ∀ (l0 : Nat) (l1 : Nat) (l2 : Int32) (l3 : Int32) (l4 : Int32) (h : LH), k5 l0 l1 l2 l3 l4 h = some q → JR d jM_211 5 [.ref l0, .ref l1, .int l2, .int l3, .int l4] [] h (jo_i q)) {l0 : Nat} {l1 : Nat} {l2 : Int32} {l4 : Int32} {s0 : Int32} {s1 : Int32} {u3 : Value} {h : LH} : F_Mod_smokeAt_b39 k5 l0 l1 l2 l4 s0 s1 h = some q → JR d jM_211 39 [.ref l0, .ref l1, .int l2, u3, .int l4] [.int s1, .int s0] h (jo_i q) := by
 unfold F_Mod_smokeAt_b39
 exact jr_iadd 39 40 rfl rfl
  (jr_istorenL 40 41 (fun v1 => [.ref l0, .ref l1, .int l2, .int v1, .int l4]) rfl rfl (fun _ => rfl) rfl (fun v1 =>
  jr_iinc 41 44 [.ref l0, .ref l1, .int l2, .int v1, .int (l4 + (1 : Int32))] rfl jc_i_1 rfl rfl rfl rfl
  (jr_goto 44 5 rfl rfl
  ((hk5 _ _ _ _ _ _)))))
noncomputable def F_Mod_smokeAt_c5 (k5 : Nat → Nat → Int32 → Int32 → Int32 → LH → Option (Int32 × LH)) (l0 : Nat) (l1 : Nat) (l2 : Int32) (l3 : Int32) (l4 : Int32) (h : LH) : Option (Int32 × LH) :=
 jf_gr h l0 11 12 fun v1 =>
 jf_ia h v1 (0 : Int32) fun v2 =>
 if l4 < v2 then
 jf_kd h l0 11
 (jf_bi (F_Mod_standsOf l0 l1 l4 h) fun v3 h4 =>
 if v3 = l2 then
 jf_kd h4 l0 11
 (jf_bi (F_Mod_smokeFrom l0 l1 l4 h4) fun v5 h6 =>
 F_Mod_smokeAt_b39 k5 l0 l1 l2 l4 l3 v5 h6)
else
 F_Mod_smokeAt_b39 k5 l0 l1 l2 l4 l3 (0 : Int32) h4)
else
 some (l3, h)
set_option maxRecDepth 100000 in
theorem F_Mod_smokeAt_c5_ok {d : Nat} {q : (Int32 × LH)} {k5 : Nat → Nat → Int32 → Int32 → Int32 → LH → Option (Int32 × LH)} (hd : 3 ≤ d) (hk5 : ∀ (l0 : Nat) (l1 : Nat) (l2 : Int32) (l3 : Int32) (l4 : Int32) (h : LH), k5 l0 l1 l2 l3 l4 h = some q → JR d jM_211 5 [.ref l0, .ref l1, .int l2, .int l3, .int l4] [] h (jo_i q)) {l0 : Nat} {l1 : Nat} {l2 : Int32} {l3 : Int32} {l4 : Int32} {h : LH} : F_Mod_smokeAt_c5 k5 l0 l1 l2 l3 l4 h = some q → JR d jM_211 5 [.ref l0, .ref l1, .int l2, .int l3, .int l4] [] h (jo_i q) := by
 unfold F_Mod_smokeAt_c5
 exact jr_iload 5 7 rfl rfl rfl
  (jr_aloadn 7 8 rfl rfl rfl
  (jr_gr 8 11 rfl jg_11_23_2 rfl (fun v1 =>
  jr_iconst 11 12 (0 : Int32) rfl jc_i_0 rfl
  (jr_ia 12 13 rfl rfl (fun v2 =>
  jr_icmp_ge 13 47 16 rfl rfl rfl
  (jr_iloadn 47 48 rfl rfl rfl
  (jr_ri 48 rfl rfl))
  (jr_iloadn 16 17 rfl rfl rfl
  (jr_aloadn 17 18 rfl rfl rfl
  (jr_aloadn 18 19 rfl rfl rfl
  (jr_iload 19 21 rfl rfl rfl
  (jr_cVi 21 24 [.int l3] rfl rfl rfl rfl rfl rfl rfl rfl (as := [.ref l1, .int l4]) (F_Mod_standsOf_ok (Nat.le_trans (by decide : 3 ≤ 3) hd)) (fun v3 h4 =>
  jr_iloadn 24 25 rfl rfl rfl
  (jr_icmp_ne 25 38 28 rfl rfl rfl
  (jr_iconst 38 39 (0 : Int32) rfl jc_i_0 rfl
  ((F_Mod_smokeAt_b39_ok hd hk5)))
  (jr_aloadn 28 29 rfl rfl rfl
  (jr_aloadn 29 30 rfl rfl rfl
  (jr_iload 30 32 rfl rfl rfl
  (jr_cVi 32 35 [.int l3] rfl rfl rfl rfl rfl rfl rfl rfl (as := [.ref l1, .int l4]) (F_Mod_smokeFrom_ok (Nat.le_trans (by decide : 3 ≤ 3) hd)) (fun v5 h6 =>
  jr_goto 35 39 rfl rfl
  ((F_Mod_smokeAt_b39_ok hd hk5)))))))))))))))))))
noncomputable def F_Mod_smokeAt_l5 : Nat → Nat → Nat → Int32 → Int32 → Int32 → LH → Option (Int32 × LH)
 | 0, _, _, _, _, _, _ => none
 | n + 1, l0, l1, l2, l3, l4, h => F_Mod_smokeAt_c5 (F_Mod_smokeAt_l5 n) l0 l1 l2 l3 l4 h
theorem F_Mod_smokeAt_l5_ok {d : Nat} {q : (Int32 × LH)} (hd : 3 ≤ d) : ∀ (n : Nat) (l0 : Nat) (l1 : Nat) (l2 : Int32) (l3 : Int32) (l4 : Int32) (h : LH), F_Mod_smokeAt_l5 n l0 l1 l2 l3 l4 h = some q → JR d jM_211 5 [.ref l0, .ref l1, .int l2, .int l3, .int l4] [] h (jo_i q)
 | 0 => fun _ _ _ _ _ _ hq => nomatch (show (none : Option (Int32 × LH)) = some q from hq)
 | n + 1 => fun _ _ _ _ _ _ hq => F_Mod_smokeAt_c5_ok hd (F_Mod_smokeAt_l5_ok hd n) hq
noncomputable def F_Mod_smokeAt (l0 : Nat) (l1 : Nat) (l2 : Int32) (h : LH) : Option (Int32 × LH) :=
 F_Mod_smokeAt_l5  jF l0 l1 l2 (0 : Int32) (0 : Int32) h
set_option maxRecDepth 100000 in
theorem F_Mod_smokeAt_ok {d : Nat} (hd : 4 ≤ d) {l0 : Nat} {l1 : Nat} {l2 : Int32} {h : LH} {q : (Int32 × LH)} : F_Mod_smokeAt l0 l1 l2 h = some q → jl_Sem jt_T jt_Ms d 211 [.ref l0, .ref l1, .int l2] h (jo_i q) := by
 unfold F_Mod_smokeAt
 exact jr_enter (D := 3) hd jM_211_at rfl rfl rfl (fun d hd =>
  jr_iconst 0 1 (0 : Int32) rfl jc_i_0 rfl
  (jr_istoren 1 2 [.ref l0, .ref l1, .int l2, .int (0 : Int32), .retAddr 0] rfl rfl rfl rfl
  (jr_iconst 2 3 (0 : Int32) rfl jc_i_0 rfl
  (jr_istore 3 5 [.ref l0, .ref l1, .int l2, .int (0 : Int32), .int (0 : Int32)] rfl rfl rfl rfl
  ((F_Mod_smokeAt_l5_ok hd  jF _ _ _ _ _ _))))))
noncomputable def jM_218 : JMeth := (11, false, 1, jk_218, [], 6)
set_option maxRecDepth 100000 in
theorem jM_218_at : jt_Ms 218 = some jM_218 := rfl
noncomputable def F_Mod_scentAt_b66 (k5 : Nat → Nat → Int32 → Int32 → Int32 → LH → Option (Int32 × LH)) (k19 : Nat → Nat → Int32 → Int32 → Int32 → Int32 → LH → Option (Int32 × LH)) (l0 : Nat) (l1 : Nat) (l2 : Int32) (l4 : Int32) (l5 : Int32) (s0 : Int32) (s1 : Int32) (h : LH) : Option (Int32 × LH) :=
 jf_let (s0 ||| s1) fun v1 =>
 k19 l0 l1 l2 v1 l4 (l5 + (1 : Int32)) h
set_option maxRecDepth 100000 in
theorem F_Mod_scentAt_b66_ok {d : Nat} {q : (Int32 × LH)} {k5 : Nat → Nat → Int32 → Int32 → Int32 → LH → Option (Int32 × LH)} {k19 : Nat → Nat → Int32 → Int32 → Int32 → Int32 → LH → Option (Int32 × LH)} (hd : 3 ≤ d) (hk5 : ∀ (l0 : Nat) (l1 : Nat) (l2 : Int32) (l3 : Int32) (l4 : Int32) (u5 : Value) (h : LH), k5 l0 l1 l2 l3 l4 h = some q → JR d jM_218 5 [.ref l0, .ref l1, .int l2, .int l3, .int l4, u5] [] h (jo_i q)) (hk19 : ∀ (l0 : Nat) (l1 : Nat) (l2 : Int32) (l3 : Int32) (l4 : Int32) (l5 : Int32) (h : LH), k19 l0 l1 l2 l3 l4 l5 h = some q → JR d jM_218 19 [.ref l0, .ref l1, .int l2, .int l3, .int l4, .int l5] [] h (jo_i q)) {l0 : Nat} {l1 : Nat} {l2 : Int32} {l4 : Int32} {l5 : Int32} {s0 : Int32} {s1 : Int32} {u3 : Value} {h : LH} : F_Mod_scentAt_b66 k5 k19 l0 l1 l2 l4 l5 s0 s1 h = some q → JR d jM_218 66 [.ref l0, .ref l1, .int l2, u3, .int l4, .int l5] [.int s1, .int s0] h (jo_i q) := by
 unfold F_Mod_scentAt_b66
 exact jr_ior 66 67 rfl rfl
  (jr_istorenL 67 68 (fun v1 => [.ref l0, .ref l1, .int l2, .int v1, .int l4, .int l5]) rfl rfl (fun _ => rfl) rfl (fun v1 =>
  jr_iinc 68 71 [.ref l0, .ref l1, .int l2, .int v1, .int l4, .int (l5 + (1 : Int32))] rfl jc_i_1 rfl rfl rfl rfl
  (jr_goto 71 19 rfl rfl
  ((hk19 _ _ _ _ _ _ _)))))
noncomputable def F_Mod_scentAt_c19 (k5 : Nat → Nat → Int32 → Int32 → Int32 → LH → Option (Int32 × LH)) (k19 : Nat → Nat → Int32 → Int32 → Int32 → Int32 → LH → Option (Int32 × LH)) (l0 : Nat) (l1 : Nat) (l2 : Int32) (l3 : Int32) (l4 : Int32) (l5 : Int32) (h : LH) : Option (Int32 × LH) :=
 jf_ia h l1 ((108 : Int32) + l4) fun v1 =>
 if l5 < v1 then
 jf_kd h l0 11
 (jf_bi (F_Mod_standsOf l0 l1 l4 h) fun v2 h3 =>
 if v2 = l2 then
 jf_gr h3 l0 11 20 fun v4 =>
 jf_ia h3 l1 (((0 : Int32) + ((6 : Int32) * l4)) + l5) fun v5 =>
 jf_aa h3 v4 v5 fun v6 =>
 jf_ia h3 v6 (2 : Int32) fun v7 =>
 F_Mod_scentAt_b66 k5 k19 l0 l1 l2 l4 l5 l3 v7 h3
else
 F_Mod_scentAt_b66 k5 k19 l0 l1 l2 l4 l5 l3 (0 : Int32) h3)
else
 k5 l0 l1 l2 l3 (l4 + (1 : Int32)) h
set_option maxRecDepth 100000 in
theorem F_Mod_scentAt_c19_ok {d : Nat} {q : (Int32 × LH)} {k5 : Nat → Nat → Int32 → Int32 → Int32 → LH → Option (Int32 × LH)} {k19 : Nat → Nat → Int32 → Int32 → Int32 → Int32 → LH → Option (Int32 × LH)} (hd : 3 ≤ d) (hk5 : ∀ (l0 : Nat) (l1 : Nat) (l2 : Int32) (l3 : Int32) (l4 : Int32) (u5 : Value) (h : LH), k5 l0 l1 l2 l3 l4 h = some q → JR d jM_218 5 [.ref l0, .ref l1, .int l2, .int l3, .int l4, u5] [] h (jo_i q)) (hk19 : ∀ (l0 : Nat) (l1 : Nat) (l2 : Int32) (l3 : Int32) (l4 : Int32) (l5 : Int32) (h : LH), k19 l0 l1 l2 l3 l4 l5 h = some q → JR d jM_218 19 [.ref l0, .ref l1, .int l2, .int l3, .int l4, .int l5] [] h (jo_i q)) {l0 : Nat} {l1 : Nat} {l2 : Int32} {l3 : Int32} {l4 : Int32} {l5 : Int32} {h : LH} : F_Mod_scentAt_c19 k5 k19 l0 l1 l2 l3 l4 l5 h = some q → JR d jM_218 19 [.ref l0, .ref l1, .int l2, .int l3, .int l4, .int l5] [] h (jo_i q) := by
 unfold F_Mod_scentAt_c19
 exact jr_iload 19 21 rfl rfl rfl
  (jr_aloadn 21 22 rfl rfl rfl
  (jr_bipush 22 24 (108 : Int32) rfl jc_b_108 rfl
  (jr_iload 24 26 rfl rfl rfl
  (jr_iadd 26 27 rfl rfl
  (jr_ia 27 28 rfl rfl (fun v1 =>
  jr_icmp_ge 28 74 31 rfl rfl rfl
  (jr_iinc 74 77 [.ref l0, .ref l1, .int l2, .int l3, .int (l4 + (1 : Int32)), .int l5] rfl jc_i_1 rfl rfl rfl rfl
  (jr_goto 77 5 rfl rfl
  ((hk5 _ _ _ _ _ _ _))))
  (jr_iloadn 31 32 rfl rfl rfl
  (jr_aloadn 32 33 rfl rfl rfl
  (jr_aloadn 33 34 rfl rfl rfl
  (jr_iload 34 36 rfl rfl rfl
  (jr_cVi 36 39 [.int l3] rfl rfl rfl rfl rfl rfl rfl rfl (as := [.ref l1, .int l4]) (F_Mod_standsOf_ok (Nat.le_trans (by decide : 3 ≤ 3) hd)) (fun v2 h3 =>
  jr_iloadn 39 40 rfl rfl rfl
  (jr_icmp_ne 40 65 43 rfl rfl rfl
  (jr_iconst 65 66 (0 : Int32) rfl jc_i_0 rfl
  ((F_Mod_scentAt_b66_ok hd hk5 hk19)))
  (jr_aloadn 43 44 rfl rfl rfl
  (jr_gr 44 47 rfl jg_11_49_2 rfl (fun v4 =>
  jr_aloadn 47 48 rfl rfl rfl
  (jr_iconst 48 49 (0 : Int32) rfl jc_i_0 rfl
  (jr_bipush 49 51 (6 : Int32) rfl jc_b_6 rfl
  (jr_iload 51 53 rfl rfl rfl
  (jr_imul 53 54 rfl rfl
  (jr_iadd 54 55 rfl rfl
  (jr_iload 55 57 rfl rfl rfl
  (jr_iadd 57 58 rfl rfl
  (jr_ia 58 59 rfl rfl (fun v5 =>
  jr_aa 59 60 rfl rfl (fun v6 =>
  jr_iconst 60 61 (2 : Int32) rfl jc_i_2 rfl
  (jr_ia 61 62 rfl rfl (fun v7 =>
  jr_goto 62 66 rfl rfl
  ((F_Mod_scentAt_b66_ok hd hk5 hk19))))))))))))))))))))))))))))))
noncomputable def F_Mod_scentAt_l19 (k5 : Nat → Nat → Int32 → Int32 → Int32 → LH → Option (Int32 × LH)) : Nat → Nat → Nat → Int32 → Int32 → Int32 → Int32 → LH → Option (Int32 × LH)
 | 0, _, _, _, _, _, _, _ => none
 | n + 1, l0, l1, l2, l3, l4, l5, h => F_Mod_scentAt_c19 k5 (F_Mod_scentAt_l19 k5 n) l0 l1 l2 l3 l4 l5 h
theorem F_Mod_scentAt_l19_ok {d : Nat} {q : (Int32 × LH)} {k5 : Nat → Nat → Int32 → Int32 → Int32 → LH → Option (Int32 × LH)} (hd : 3 ≤ d) (hk5 : ∀ (l0 : Nat) (l1 : Nat) (l2 : Int32) (l3 : Int32) (l4 : Int32) (u5 : Value) (h : LH), k5 l0 l1 l2 l3 l4 h = some q → JR d jM_218 5 [.ref l0, .ref l1, .int l2, .int l3, .int l4, u5] [] h (jo_i q)) : ∀ (n : Nat) (l0 : Nat) (l1 : Nat) (l2 : Int32) (l3 : Int32) (l4 : Int32) (l5 : Int32) (h : LH), F_Mod_scentAt_l19 k5 n l0 l1 l2 l3 l4 l5 h = some q → JR d jM_218 19 [.ref l0, .ref l1, .int l2, .int l3, .int l4, .int l5] [] h (jo_i q)
 | 0 => fun _ _ _ _ _ _ _ hq => nomatch (show (none : Option (Int32 × LH)) = some q from hq)
 | n + 1 => fun _ _ _ _ _ _ _ hq => F_Mod_scentAt_c19_ok hd hk5 (F_Mod_scentAt_l19_ok hd hk5 n) hq
noncomputable def F_Mod_scentAt_c5 (k5 : Nat → Nat → Int32 → Int32 → Int32 → LH → Option (Int32 × LH)) (l0 : Nat) (l1 : Nat) (l2 : Int32) (l3 : Int32) (l4 : Int32) (h : LH) : Option (Int32 × LH) :=
 jf_gr h l0 11 12 fun v1 =>
 jf_ia h v1 (0 : Int32) fun v2 =>
 if l4 < v2 then
 F_Mod_scentAt_l19 k5 jF l0 l1 l2 l3 l4 (0 : Int32) h
else
 some (l3, h)
set_option maxRecDepth 100000 in
theorem F_Mod_scentAt_c5_ok {d : Nat} {q : (Int32 × LH)} {k5 : Nat → Nat → Int32 → Int32 → Int32 → LH → Option (Int32 × LH)} (hd : 3 ≤ d) (hk5 : ∀ (l0 : Nat) (l1 : Nat) (l2 : Int32) (l3 : Int32) (l4 : Int32) (u5 : Value) (h : LH), k5 l0 l1 l2 l3 l4 h = some q → JR d jM_218 5 [.ref l0, .ref l1, .int l2, .int l3, .int l4, u5] [] h (jo_i q)) {l0 : Nat} {l1 : Nat} {l2 : Int32} {l3 : Int32} {l4 : Int32} {u5 : Value} {h : LH} : F_Mod_scentAt_c5 k5 l0 l1 l2 l3 l4 h = some q → JR d jM_218 5 [.ref l0, .ref l1, .int l2, .int l3, .int l4, u5] [] h (jo_i q) := by
 unfold F_Mod_scentAt_c5
 exact jr_iload 5 7 rfl rfl rfl
  (jr_aloadn 7 8 rfl rfl rfl
  (jr_gr 8 11 rfl jg_11_23_2 rfl (fun v1 =>
  jr_iconst 11 12 (0 : Int32) rfl jc_i_0 rfl
  (jr_ia 12 13 rfl rfl (fun v2 =>
  jr_icmp_ge 13 80 16 rfl rfl rfl
  (jr_iloadn 80 81 rfl rfl rfl
  (jr_ri 81 rfl rfl))
  (jr_iconst 16 17 (0 : Int32) rfl jc_i_0 rfl
  (jr_istore 17 19 [.ref l0, .ref l1, .int l2, .int l3, .int l4, .int (0 : Int32)] rfl rfl rfl rfl
  ((F_Mod_scentAt_l19_ok hd hk5 jF _ _ _ _ _ _ _)))))))))
noncomputable def F_Mod_scentAt_l5 : Nat → Nat → Nat → Int32 → Int32 → Int32 → LH → Option (Int32 × LH)
 | 0, _, _, _, _, _, _ => none
 | n + 1, l0, l1, l2, l3, l4, h => F_Mod_scentAt_c5 (F_Mod_scentAt_l5 n) l0 l1 l2 l3 l4 h
theorem F_Mod_scentAt_l5_ok {d : Nat} {q : (Int32 × LH)} (hd : 3 ≤ d) : ∀ (n : Nat) (l0 : Nat) (l1 : Nat) (l2 : Int32) (l3 : Int32) (l4 : Int32) (u5 : Value) (h : LH), F_Mod_scentAt_l5 n l0 l1 l2 l3 l4 h = some q → JR d jM_218 5 [.ref l0, .ref l1, .int l2, .int l3, .int l4, u5] [] h (jo_i q)
 | 0 => fun _ _ _ _ _ _ _ hq => nomatch (show (none : Option (Int32 × LH)) = some q from hq)
 | n + 1 => fun _ _ _ _ _ _ _ hq => F_Mod_scentAt_c5_ok hd (F_Mod_scentAt_l5_ok hd n) hq
noncomputable def F_Mod_scentAt (l0 : Nat) (l1 : Nat) (l2 : Int32) (h : LH) : Option (Int32 × LH) :=
 F_Mod_scentAt_l5  jF l0 l1 l2 (0 : Int32) (0 : Int32) h
set_option maxRecDepth 100000 in
theorem F_Mod_scentAt_ok {d : Nat} (hd : 4 ≤ d) {l0 : Nat} {l1 : Nat} {l2 : Int32} {h : LH} {q : (Int32 × LH)} : F_Mod_scentAt l0 l1 l2 h = some q → jl_Sem jt_T jt_Ms d 218 [.ref l0, .ref l1, .int l2] h (jo_i q) := by
 unfold F_Mod_scentAt
 exact jr_enter (D := 3) hd jM_218_at rfl rfl rfl (fun d hd =>
  jr_iconst 0 1 (0 : Int32) rfl jc_i_0 rfl
  (jr_istoren 1 2 [.ref l0, .ref l1, .int l2, .int (0 : Int32), .retAddr 0, .retAddr 0] rfl rfl rfl rfl
  (jr_iconst 2 3 (0 : Int32) rfl jc_i_0 rfl
  (jr_istore 3 5 [.ref l0, .ref l1, .int l2, .int (0 : Int32), .int (0 : Int32), .retAddr 0] rfl rfl rfl rfl
  ((F_Mod_scentAt_l5_ok hd  jF _ _ _ _ _ _ _))))))
noncomputable def jM_221 : JMeth := (11, false, 1, jk_221, [], 2)
set_option maxRecDepth 100000 in
theorem jM_221_at : jt_Ms 221 = some jM_221 := rfl
noncomputable def F_Mod_less_b10 (s0 : Int32) (h : LH) : Option (Int32 × LH) :=
 some (s0, h)
set_option maxRecDepth 100000 in
theorem F_Mod_less_b10_ok {d : Nat} {q : (Int32 × LH)} (hd : 0 ≤ d) {s0 : Int32} {u0 : Value} {u1 : Value} {h : LH} : F_Mod_less_b10 s0 h = some q → JR d jM_221 10 [u0, u1] [.int s0] h (jo_i q) := by
 unfold F_Mod_less_b10
 exact jr_ri 10 rfl rfl
noncomputable def F_Mod_less (l0 : Int32) (l1 : Int32) (h : LH) : Option (Int32 × LH) :=
 if l0 < l1 then
 F_Mod_less_b10  l0 h
else
 F_Mod_less_b10  l1 h
set_option maxRecDepth 100000 in
theorem F_Mod_less_ok {d : Nat} (hd : 1 ≤ d) {l0 : Int32} {l1 : Int32} {h : LH} {q : (Int32 × LH)} : F_Mod_less l0 l1 h = some q → jl_Sem jt_T jt_Ms d 221 [.int l0, .int l1] h (jo_i q) := by
 unfold F_Mod_less
 exact jr_enter (D := 0) hd jM_221_at rfl rfl rfl (fun d hd =>
  jr_iloadn 0 1 rfl rfl rfl
  (jr_iloadn 1 2 rfl rfl rfl
  (jr_icmp_ge 2 9 5 rfl rfl rfl
  (jr_iloadn 9 10 rfl rfl rfl
  ((F_Mod_less_b10_ok hd )))
  (jr_iloadn 5 6 rfl rfl rfl
  (jr_goto 6 10 rfl rfl
  ((F_Mod_less_b10_ok hd )))))))
noncomputable def jM_222 : JMeth := (11, false, 1, jk_222, [], 2)
set_option maxRecDepth 100000 in
theorem jM_222_at : jt_Ms 222 = some jM_222 := rfl
noncomputable def F_Mod_more_b10 (s0 : Int32) (h : LH) : Option (Int32 × LH) :=
 some (s0, h)
set_option maxRecDepth 100000 in
theorem F_Mod_more_b10_ok {d : Nat} {q : (Int32 × LH)} (hd : 0 ≤ d) {s0 : Int32} {u0 : Value} {u1 : Value} {h : LH} : F_Mod_more_b10 s0 h = some q → JR d jM_222 10 [u0, u1] [.int s0] h (jo_i q) := by
 unfold F_Mod_more_b10
 exact jr_ri 10 rfl rfl
noncomputable def F_Mod_more (l0 : Int32) (l1 : Int32) (h : LH) : Option (Int32 × LH) :=
 if l1 < l0 then
 F_Mod_more_b10  l0 h
else
 F_Mod_more_b10  l1 h
set_option maxRecDepth 100000 in
theorem F_Mod_more_ok {d : Nat} (hd : 1 ≤ d) {l0 : Int32} {l1 : Int32} {h : LH} {q : (Int32 × LH)} : F_Mod_more l0 l1 h = some q → jl_Sem jt_T jt_Ms d 222 [.int l0, .int l1] h (jo_i q) := by
 unfold F_Mod_more
 exact jr_enter (D := 0) hd jM_222_at rfl rfl rfl (fun d hd =>
  jr_iloadn 0 1 rfl rfl rfl
  (jr_iloadn 1 2 rfl rfl rfl
  (jr_icmp_le 2 9 5 rfl rfl rfl
  (jr_iloadn 9 10 rfl rfl rfl
  ((F_Mod_more_b10_ok hd )))
  (jr_iloadn 5 6 rfl rfl rfl
  (jr_goto 6 10 rfl rfl
  ((F_Mod_more_b10_ok hd )))))))
noncomputable def jM_220 : JMeth := (11, false, 1, jk_220, [], 3)
set_option maxRecDepth 100000 in
theorem jM_220_at : jt_Ms 220 = some jM_220 := rfl
noncomputable def F_Mod_by_b69 (s0 : Int32) (h : LH) : Option (Int32 × LH) :=
 some (s0, h)
set_option maxRecDepth 100000 in
theorem F_Mod_by_b69_ok {d : Nat} {q : (Int32 × LH)} (hd : 1 ≤ d) {s0 : Int32} {u0 : Value} {u1 : Value} {u2 : Value} {h : LH} : F_Mod_by_b69 s0 h = some q → JR d jM_220 69 [u0, u1, u2] [.int s0] h (jo_i q) := by
 unfold F_Mod_by_b69
 exact jr_ri 69 rfl rfl
noncomputable def F_Mod_by (l0 : Int32) (l1 : Int32) (l2 : Int32) (h : LH) : Option (Int32 × LH) :=
 if l0 = (2 : Int32) then
 some ((l1 + l2), h)
else
 if l0 = (3 : Int32) then
 some ((l1 - l2), h)
else
 if l0 = (4 : Int32) then
 some ((l1 * l2), h)
else
 if l0 = (5 : Int32) then
 if l2 = 0 then
 F_Mod_by_b69  (0 : Int32) h
else
 if l2 = (-1 : Int32) then
 F_Mod_by_b69  (-l1) h
else
 jf_dv l2 (l1 / l2) fun v5 =>
 F_Mod_by_b69  v5 h
else
 if l0 = (6 : Int32) then
 jf_bi (F_Mod_less l1 l2 h) fun v3 h4 =>
 some (v3, h4)
else
 jf_bi (F_Mod_more l1 l2 h) fun v1 h2 =>
 some (v1, h2)
set_option maxRecDepth 100000 in
theorem F_Mod_by_ok {d : Nat} (hd : 2 ≤ d) {l0 : Int32} {l1 : Int32} {l2 : Int32} {h : LH} {q : (Int32 × LH)} : F_Mod_by l0 l1 l2 h = some q → jl_Sem jt_T jt_Ms d 220 [.int l0, .int l1, .int l2] h (jo_i q) := by
 unfold F_Mod_by
 exact jr_enter (D := 1) hd jM_220_at rfl rfl rfl (fun d hd =>
  jr_iloadn 0 1 rfl rfl rfl
  (jr_ite (fun hx1_0 => jr_tsI 1 36 hx1_0 rfl rfl rfl rfl
  (jr_iloadn 36 37 rfl rfl rfl
  (jr_iloadn 37 38 rfl rfl rfl
  (jr_iadd 38 39 rfl rfl
  (jr_ri 39 rfl rfl)))))
  (fun hx1_0 =>
  jr_ite (fun hx1_1 => jr_tsI 1 40 hx1_1 rfl rfl rfl rfl
  (jr_iloadn 40 41 rfl rfl rfl
  (jr_iloadn 41 42 rfl rfl rfl
  (jr_isub 42 43 rfl rfl
  (jr_ri 43 rfl rfl)))))
  (fun hx1_1 =>
  jr_ite (fun hx1_2 => jr_tsI 1 44 hx1_2 rfl rfl rfl rfl
  (jr_iloadn 44 45 rfl rfl rfl
  (jr_iloadn 45 46 rfl rfl rfl
  (jr_imul 46 47 rfl rfl
  (jr_ri 47 rfl rfl)))))
  (fun hx1_2 =>
  jr_ite (fun hx1_3 => jr_tsI 1 48 hx1_3 rfl rfl rfl rfl
  (jr_iloadn 48 49 rfl rfl rfl
  (jr_if_ne 49 56 52 rfl rfl rfl
  (jr_iloadn 56 57 rfl rfl rfl
  (jr_iconst 57 58 (-1 : Int32) rfl jc_i_m1 rfl
  (jr_icmp_ne 58 66 61 rfl rfl rfl
  (jr_iloadn 66 67 rfl rfl rfl
  (jr_iloadn 67 68 rfl rfl rfl
  (jr_idiv 68 69 rfl rfl (fun v5 =>
  (F_Mod_by_b69_ok hd )))))
  (jr_iloadn 61 62 rfl rfl rfl
  (jr_ineg 62 63 rfl rfl
  (jr_goto 63 69 rfl rfl
  ((F_Mod_by_b69_ok hd ))))))))
  (jr_iconst 52 53 (0 : Int32) rfl jc_i_0 rfl
  (jr_goto 53 69 rfl rfl
  ((F_Mod_by_b69_ok hd )))))))
  (fun hx1_3 =>
  jr_ite (fun hx1_4 => jr_tsI 1 70 hx1_4 rfl rfl rfl rfl
  (jr_iloadn 70 71 rfl rfl rfl
  (jr_iloadn 71 72 rfl rfl rfl
  (jr_cSi 72 75 [] rfl rfl rfl rfl rfl rfl rfl (as := [.int l1, .int l2]) (F_Mod_less_ok (Nat.le_trans (by decide : 1 ≤ 1) hd)) (fun v3 h4 =>
  jr_ri 75 rfl rfl)))))
  (fun hx1_4 =>
  jr_tsD 1 76 rfl (by have := jr_ne (k := 2) jc_t_2 hx1_0; have := jr_ne (k := 3) jc_t_3 hx1_1; have := jr_ne (k := 4) jc_t_4 hx1_2; have := jr_ne (k := 5) jc_t_5 hx1_3; have := jr_ne (k := 6) jc_t_6 hx1_4; omega) rfl
  (jr_iloadn 76 77 rfl rfl rfl
  (jr_iloadn 77 78 rfl rfl rfl
  (jr_cSi 78 81 [] rfl rfl rfl rfl rfl rfl rfl (as := [.int l1, .int l2]) (F_Mod_more_ok (Nat.le_trans (by decide : 1 ≤ 1) hd)) (fun v1 h2 =>
  jr_ri 81 rfl rfl)))))))))))
noncomputable def jM_219 : JMeth := (11, false, 1, jk_219, [], 3)
set_option maxRecDepth 100000 in
theorem jM_219_at : jt_Ms 219 = some jM_219 := rfl
noncomputable def F_Mod_byLaw_b124 (k21 : Nat → Int32 → Int32 → LH → Option (Int32 × LH)) (l0 : Nat) (l1 : Int32) (l2 : Int32) (h : LH) : Option (Int32 × LH) :=
 k21 l0 l1 (l2 + (1 : Int32)) h
set_option maxRecDepth 100000 in
theorem F_Mod_byLaw_b124_ok {d : Nat} {q : (Int32 × LH)} {k21 : Nat → Int32 → Int32 → LH → Option (Int32 × LH)} (hd : 2 ≤ d) (hk21 : ∀ (l0 : Nat) (l1 : Int32) (l2 : Int32) (h : LH), k21 l0 l1 l2 h = some q → JR d jM_219 21 [.ref l0, .int l1, .int l2] [] h (jo_i q)) {l0 : Nat} {l1 : Int32} {l2 : Int32} {h : LH} : F_Mod_byLaw_b124 k21 l0 l1 l2 h = some q → JR d jM_219 124 [.ref l0, .int l1, .int l2] [] h (jo_i q) := by
 unfold F_Mod_byLaw_b124
 exact jr_iinc 124 127 [.ref l0, .int l1, .int (l2 + (1 : Int32))] rfl jc_i_1 rfl rfl rfl rfl
  (jr_goto 127 21 rfl rfl
  ((hk21 _ _ _ _)))
noncomputable def F_Mod_byLaw_b81 (k21 : Nat → Int32 → Int32 → LH → Option (Int32 × LH)) (l0 : Nat) (l1 : Int32) (l2 : Int32) (s0 : Nat) (s1 : Int32) (s2 : Int32) (h : LH) : Option (Int32 × LH) :=
 jf_is h s0 s1 s2 fun h1 =>
 F_Mod_byLaw_b124 k21 l0 (l1 + (1 : Int32)) l2 h1
set_option maxRecDepth 100000 in
theorem F_Mod_byLaw_b81_ok {d : Nat} {q : (Int32 × LH)} {k21 : Nat → Int32 → Int32 → LH → Option (Int32 × LH)} (hd : 2 ≤ d) (hk21 : ∀ (l0 : Nat) (l1 : Int32) (l2 : Int32) (h : LH), k21 l0 l1 l2 h = some q → JR d jM_219 21 [.ref l0, .int l1, .int l2] [] h (jo_i q)) {l0 : Nat} {l1 : Int32} {l2 : Int32} {s0 : Nat} {s1 : Int32} {s2 : Int32} {h : LH} : F_Mod_byLaw_b81 k21 l0 l1 l2 s0 s1 s2 h = some q → JR d jM_219 81 [.ref l0, .int l1, .int l2] [.int s2, .int s1, .ref s0] h (jo_i q) := by
 unfold F_Mod_byLaw_b81
 exact jr_is 81 82 rfl rfl (fun h1 =>
  jr_iinc 82 85 [.ref l0, .int (l1 + (1 : Int32)), .int l2] rfl jc_i_1 rfl rfl rfl rfl
  (jr_goto 85 124 rfl rfl
  ((F_Mod_byLaw_b124_ok hd hk21))))
noncomputable def F_Mod_byLaw_c21 (k21 : Nat → Int32 → Int32 → LH → Option (Int32 × LH)) (l0 : Nat) (l1 : Int32) (l2 : Int32) (h : LH) : Option (Int32 × LH) :=
 jf_gi h l0 11 25 fun v1 =>
 if l2 < v1 then
 jf_gr h l0 11 27 fun v4 =>
 jf_aa h v4 l2 fun v5 =>
 jf_ia h v5 (0 : Int32) fun v6 =>
 if v6 < (2 : Int32) then
 jf_gr h l0 11 31 fun v18 =>
 jf_gr h l0 11 27 fun v19 =>
 jf_aa h v19 l2 fun v20 =>
 jf_ia h v20 (0 : Int32) fun v21 =>
 if v21 = 0 then
 jf_gr h l0 11 27 fun v27 =>
 jf_aa h v27 l2 fun v28 =>
 jf_ia h v28 (1 : Int32) fun v29 =>
 F_Mod_byLaw_b81 k21 l0 l1 l2 v18 l1 v29 h
else
 jf_gr h l0 11 32 fun v22 =>
 jf_gr h l0 11 27 fun v23 =>
 jf_aa h v23 l2 fun v24 =>
 jf_ia h v24 (1 : Int32) fun v25 =>
 jf_ia h v22 v25 fun v26 =>
 F_Mod_byLaw_b81 k21 l0 l1 l2 v18 l1 v26 h
else
 jf_gr h l0 11 31 fun v7 =>
 jf_gr h l0 11 27 fun v8 =>
 jf_aa h v8 l2 fun v9 =>
 jf_ia h v9 (0 : Int32) fun v10 =>
 jf_gr h l0 11 31 fun v11 =>
 jf_ia h v11 ((l1 + (-1 : Int32)) - (1 : Int32)) fun v12 =>
 jf_gr h l0 11 31 fun v13 =>
 jf_ia h v13 (l1 + (-1 : Int32)) fun v14 =>
 jf_bi (F_Mod_by v10 v12 v14 h) fun v15 h16 =>
 jf_is h16 v7 ((l1 + (-1 : Int32)) - (1 : Int32)) v15 fun h17 =>
 F_Mod_byLaw_b124 k21 l0 (l1 + (-1 : Int32)) l2 h17
else
 jf_gr h l0 11 31 fun v2 =>
 jf_ia h v2 (0 : Int32) fun v3 =>
 some (v3, h)
set_option maxRecDepth 100000 in
theorem F_Mod_byLaw_c21_ok {d : Nat} {q : (Int32 × LH)} {k21 : Nat → Int32 → Int32 → LH → Option (Int32 × LH)} (hd : 2 ≤ d) (hk21 : ∀ (l0 : Nat) (l1 : Int32) (l2 : Int32) (h : LH), k21 l0 l1 l2 h = some q → JR d jM_219 21 [.ref l0, .int l1, .int l2] [] h (jo_i q)) {l0 : Nat} {l1 : Int32} {l2 : Int32} {h : LH} : F_Mod_byLaw_c21 k21 l0 l1 l2 h = some q → JR d jM_219 21 [.ref l0, .int l1, .int l2] [] h (jo_i q) := by
 unfold F_Mod_byLaw_c21
 exact jr_iloadn 21 22 rfl rfl rfl
  (jr_aloadn 22 23 rfl rfl rfl
  (jr_gi 23 26 rfl jg_11_202_1 rfl (fun v1 =>
  jr_icmp_ge 26 130 29 rfl rfl rfl
  (jr_aloadn 130 131 rfl rfl rfl
  (jr_gr 131 134 rfl jg_11_76_2 rfl (fun v2 =>
  jr_iconst 134 135 (0 : Int32) rfl jc_i_0 rfl
  (jr_ia 135 136 rfl rfl (fun v3 =>
  jr_ri 136 rfl rfl)))))
  (jr_aloadn 29 30 rfl rfl rfl
  (jr_gr 30 33 rfl jg_11_64_2 rfl (fun v4 =>
  jr_iloadn 33 34 rfl rfl rfl
  (jr_aa 34 35 rfl rfl (fun v5 =>
  jr_iconst 35 36 (0 : Int32) rfl jc_i_0 rfl
  (jr_ia 36 37 rfl rfl (fun v6 =>
  jr_iconst 37 38 (2 : Int32) rfl jc_i_2 rfl
  (jr_icmp_ge 38 88 41 rfl rfl rfl
  (jr_iinc 88 91 [.ref l0, .int (l1 + (-1 : Int32)), .int l2] rfl jc_i_m1 rfl rfl rfl rfl
  (jr_aloadn 91 92 rfl rfl rfl
  (jr_gr 92 95 rfl jg_11_76_2 rfl (fun v7 =>
  jr_iloadn 95 96 rfl rfl rfl
  (jr_iconst 96 97 (1 : Int32) rfl jc_i_1 rfl
  (jr_isub 97 98 rfl rfl
  (jr_aloadn 98 99 rfl rfl rfl
  (jr_gr 99 102 rfl jg_11_64_2 rfl (fun v8 =>
  jr_iloadn 102 103 rfl rfl rfl
  (jr_aa 103 104 rfl rfl (fun v9 =>
  jr_iconst 104 105 (0 : Int32) rfl jc_i_0 rfl
  (jr_ia 105 106 rfl rfl (fun v10 =>
  jr_aloadn 106 107 rfl rfl rfl
  (jr_gr 107 110 rfl jg_11_76_2 rfl (fun v11 =>
  jr_iloadn 110 111 rfl rfl rfl
  (jr_iconst 111 112 (1 : Int32) rfl jc_i_1 rfl
  (jr_isub 112 113 rfl rfl
  (jr_ia 113 114 rfl rfl (fun v12 =>
  jr_aloadn 114 115 rfl rfl rfl
  (jr_gr 115 118 rfl jg_11_76_2 rfl (fun v13 =>
  jr_iloadn 118 119 rfl rfl rfl
  (jr_ia 119 120 rfl rfl (fun v14 =>
  jr_cSi 120 123 [.int ((l1 + (-1 : Int32)) - (1 : Int32)), .ref v7] rfl rfl rfl rfl rfl rfl rfl (as := [.int v10, .int v12, .int v14]) (F_Mod_by_ok (Nat.le_trans (by decide : 2 ≤ 2) hd)) (fun v15 h16 =>
  jr_is 123 124 rfl rfl (fun h17 =>
  (F_Mod_byLaw_b124_ok hd hk21))))))))))))))))))))))))))
  (jr_aloadn 41 42 rfl rfl rfl
  (jr_gr 42 45 rfl jg_11_76_2 rfl (fun v18 =>
  jr_iloadn 45 46 rfl rfl rfl
  (jr_aloadn 46 47 rfl rfl rfl
  (jr_gr 47 50 rfl jg_11_64_2 rfl (fun v19 =>
  jr_iloadn 50 51 rfl rfl rfl
  (jr_aa 51 52 rfl rfl (fun v20 =>
  jr_iconst 52 53 (0 : Int32) rfl jc_i_0 rfl
  (jr_ia 53 54 rfl rfl (fun v21 =>
  jr_if_ne 54 68 57 rfl rfl rfl
  (jr_aloadn 68 69 rfl rfl rfl
  (jr_gr 69 72 rfl jg_11_79_2 rfl (fun v22 =>
  jr_aloadn 72 73 rfl rfl rfl
  (jr_gr 73 76 rfl jg_11_64_2 rfl (fun v23 =>
  jr_iloadn 76 77 rfl rfl rfl
  (jr_aa 77 78 rfl rfl (fun v24 =>
  jr_iconst 78 79 (1 : Int32) rfl jc_i_1 rfl
  (jr_ia 79 80 rfl rfl (fun v25 =>
  jr_ia 80 81 rfl rfl (fun v26 =>
  (F_Mod_byLaw_b81_ok hd hk21)))))))))))
  (jr_aloadn 57 58 rfl rfl rfl
  (jr_gr 58 61 rfl jg_11_64_2 rfl (fun v27 =>
  jr_iloadn 61 62 rfl rfl rfl
  (jr_aa 62 63 rfl rfl (fun v28 =>
  jr_iconst 63 64 (1 : Int32) rfl jc_i_1 rfl
  (jr_ia 64 65 rfl rfl (fun v29 =>
  jr_goto 65 81 rfl rfl
  ((F_Mod_byLaw_b81_ok hd hk21))))))))))))))))))))))))))))))
noncomputable def F_Mod_byLaw_l21 : Nat → Nat → Int32 → Int32 → LH → Option (Int32 × LH)
 | 0, _, _, _, _ => none
 | n + 1, l0, l1, l2, h => F_Mod_byLaw_c21 (F_Mod_byLaw_l21 n) l0 l1 l2 h
theorem F_Mod_byLaw_l21_ok {d : Nat} {q : (Int32 × LH)} (hd : 2 ≤ d) : ∀ (n : Nat) (l0 : Nat) (l1 : Int32) (l2 : Int32) (h : LH), F_Mod_byLaw_l21 n l0 l1 l2 h = some q → JR d jM_219 21 [.ref l0, .int l1, .int l2] [] h (jo_i q)
 | 0 => fun _ _ _ _ hq => nomatch (show (none : Option (Int32 × LH)) = some q from hq)
 | n + 1 => fun _ _ _ _ hq => F_Mod_byLaw_c21_ok hd (F_Mod_byLaw_l21_ok hd n) hq
noncomputable def F_Mod_byLaw (l0 : Nat) (h : LH) : Option (Int32 × LH) :=
 jf_gi h l0 11 25 fun v1 =>
 if v1 = 0 then
 jf_gr h l0 11 32 fun v2 =>
 jf_ia h v2 (0 : Int32) fun v3 =>
 some ((v3 - (9 : Int32)), h)
else
 F_Mod_byLaw_l21  jF l0 (0 : Int32) (0 : Int32) h
set_option maxRecDepth 100000 in
theorem F_Mod_byLaw_ok {d : Nat} (hd : 3 ≤ d) {l0 : Nat} {h : LH} {q : (Int32 × LH)} : F_Mod_byLaw l0 h = some q → jl_Sem jt_T jt_Ms d 219 [.ref l0] h (jo_i q) := by
 unfold F_Mod_byLaw
 exact jr_enter (D := 2) hd jM_219_at rfl rfl rfl (fun d hd =>
  jr_aloadn 0 1 rfl rfl rfl
  (jr_gi 1 4 rfl jg_11_202_1 rfl (fun v1 =>
  jr_if_ne 4 17 7 rfl rfl rfl
  (jr_iconst 17 18 (0 : Int32) rfl jc_i_0 rfl
  (jr_istoren 18 19 [.ref l0, .int (0 : Int32), .retAddr 0] rfl rfl rfl rfl
  (jr_iconst 19 20 (0 : Int32) rfl jc_i_0 rfl
  (jr_istoren 20 21 [.ref l0, .int (0 : Int32), .int (0 : Int32)] rfl rfl rfl rfl
  ((F_Mod_byLaw_l21_ok hd  jF _ _ _ _))))))
  (jr_aloadn 7 8 rfl rfl rfl
  (jr_gr 8 11 rfl jg_11_79_2 rfl (fun v2 =>
  jr_iconst 11 12 (0 : Int32) rfl jc_i_0 rfl
  (jr_ia 12 13 rfl rfl (fun v3 =>
  jr_bipush 13 15 (9 : Int32) rfl jc_b_9 rfl
  (jr_isub 15 16 rfl rfl
  (jr_ri 16 rfl rfl))))))))))
noncomputable def jM_217 : JMeth := (11, false, 2, jk_217, [], 5)
set_option maxRecDepth 100000 in
theorem jM_217_at : jt_Ms 217 = some jM_217 := rfl
noncomputable def F_Mod_isShutBy_b99 (s0 : Int32) (h : LH) : Option (Int32 × LH) :=
 jf_rz s0 (some (s0, h))
set_option maxRecDepth 100000 in
theorem F_Mod_isShutBy_b99_ok {d : Nat} {q : (Int32 × LH)} (hd : 4 ≤ d) {s0 : Int32} {u0 : Value} {u1 : Value} {u2 : Value} {u3 : Value} {u4 : Value} {h : LH} : F_Mod_isShutBy_b99 s0 h = some q → JR d jM_217 99 [u0, u1, u2, u3, u4] [.int s0] h (jo_i q) := by
 unfold F_Mod_isShutBy_b99
 exact jr_rz 99 rfl rfl
noncomputable def F_Mod_isShutBy_b52 (l0 : Nat) (l1 : Nat) (l2 : Int32) (s0 : Nat) (s1 : Int32) (s2 : Int32) (h : LH) : Option (Int32 × LH) :=
 jf_is h s0 s1 s2 fun h1 =>
 jf_gr h1 l0 11 32 fun v2 =>
 jf_ia h1 l1 (133 : Int32) fun v3 =>
 jf_dv (24 : Int32) (v3 - v3 / (24 : Int32) * (24 : Int32)) fun v4 =>
 jf_is h1 v2 (4 : Int32) v4 fun h5 =>
 jf_gr h5 l0 11 32 fun v6 =>
 jf_is h5 v6 (5 : Int32) l2 fun h7 =>
 jf_gr h7 l0 11 32 fun v8 =>
 jf_kd h7 l0 11
 (jf_bi (F_Mod_scentAt l0 l1 l2 h7) fun v9 h10 =>
 jf_is h10 v8 (6 : Int32) v9 fun h11 =>
 jf_kd h11 l0 11
 (jf_bi (F_Mod_byLaw l0 h11) fun v12 h13 =>
 if 0 < v12 then
 F_Mod_isShutBy_b99  (1 : Int32) h13
else
 F_Mod_isShutBy_b99  (0 : Int32) h13))
set_option maxRecDepth 100000 in
theorem F_Mod_isShutBy_b52_ok {d : Nat} {q : (Int32 × LH)} (hd : 4 ≤ d) {l0 : Nat} {l1 : Nat} {l2 : Int32} {s0 : Nat} {s1 : Int32} {s2 : Int32} {u3 : Value} {u4 : Value} {h : LH} : F_Mod_isShutBy_b52 l0 l1 l2 s0 s1 s2 h = some q → JR d jM_217 52 [.ref l0, .ref l1, .int l2, u3, u4] [.int s2, .int s1, .ref s0] h (jo_i q) := by
 unfold F_Mod_isShutBy_b52
 exact jr_is 52 53 rfl rfl (fun h1 =>
  jr_aloadn 53 54 rfl rfl rfl
  (jr_gr 54 57 rfl jg_11_79_2 rfl (fun v2 =>
  jr_iconst 57 58 (4 : Int32) rfl jc_i_4 rfl
  (jr_aloadn 58 59 rfl rfl rfl
  (jr_sipush 59 62 (133 : Int32) rfl jc_s_133 rfl
  (jr_ia 62 63 rfl rfl (fun v3 =>
  jr_bipush 63 65 (24 : Int32) rfl jc_b_24 rfl
  (jr_irem 65 66 rfl rfl (fun v4 =>
  jr_is 66 67 rfl rfl (fun h5 =>
  jr_aloadn 67 68 rfl rfl rfl
  (jr_gr 68 71 rfl jg_11_79_2 rfl (fun v6 =>
  jr_iconst 71 72 (5 : Int32) rfl jc_i_5 rfl
  (jr_iloadn 72 73 rfl rfl rfl
  (jr_is 73 74 rfl rfl (fun h7 =>
  jr_aloadn 74 75 rfl rfl rfl
  (jr_gr 75 78 rfl jg_11_79_2 rfl (fun v8 =>
  jr_bipush 78 80 (6 : Int32) rfl jc_b_6 rfl
  (jr_aloadn 80 81 rfl rfl rfl
  (jr_aloadn 81 82 rfl rfl rfl
  (jr_iloadn 82 83 rfl rfl rfl
  (jr_cVi 83 86 [.int (6 : Int32), .ref v8] rfl rfl rfl rfl rfl rfl rfl rfl (as := [.ref l1, .int l2]) (F_Mod_scentAt_ok (Nat.le_trans (by decide : 4 ≤ 4) hd)) (fun v9 h10 =>
  jr_is 86 87 rfl rfl (fun h11 =>
  jr_aloadn 87 88 rfl rfl rfl
  (jr_cVi 88 91 [] rfl rfl rfl rfl rfl rfl rfl rfl (as := []) (F_Mod_byLaw_ok (Nat.le_trans (by decide : 3 ≤ 4) hd)) (fun v12 h13 =>
  jr_if_le 91 98 94 rfl rfl rfl
  (jr_iconst 98 99 (0 : Int32) rfl jc_i_0 rfl
  ((F_Mod_isShutBy_b99_ok hd )))
  (jr_iconst 94 95 (1 : Int32) rfl jc_i_1 rfl
  (jr_goto 95 99 rfl rfl
  ((F_Mod_isShutBy_b99_ok hd )))))))))))))))))))))))))))))
noncomputable def F_Mod_isShutBy (l0 : Nat) (l1 : Nat) (l2 : Int32) (l3 : Int32) (l4 : Int32) (h : LH) : Option (Int32 × LH) :=
 jf_gr h l0 11 32 fun v1 =>
 jf_is h v1 (0 : Int32) l3 fun h2 =>
 jf_gr h2 l0 11 32 fun v3 =>
 jf_is h2 v3 (1 : Int32) l4 fun h4 =>
 jf_gr h4 l0 11 32 fun v5 =>
 jf_ia h4 l1 (133 : Int32) fun v6 =>
 jf_kd h4 l0 11
 (jf_bi (F_Mod_windIn l0 v6 h4) fun v7 h8 =>
 jf_is h8 v5 (2 : Int32) v7 fun h9 =>
 jf_gr h9 l0 11 32 fun v10 =>
 jf_ia h9 l1 (133 : Int32) fun v11 =>
 jf_kd h9 l0 11
 (jf_bi (F_Mod_isRain l0 v11 h9) fun v12 h13 =>
 if v12 = 0 then
 F_Mod_isShutBy_b52  l0 l1 l2 v10 (3 : Int32) (0 : Int32) h13
else
 F_Mod_isShutBy_b52  l0 l1 l2 v10 (3 : Int32) (1 : Int32) h13))
set_option maxRecDepth 100000 in
theorem F_Mod_isShutBy_ok {d : Nat} (hd : 5 ≤ d) {l0 : Nat} {l1 : Nat} {l2 : Int32} {l3 : Int32} {l4 : Int32} {h : LH} {q : (Int32 × LH)} : F_Mod_isShutBy l0 l1 l2 l3 l4 h = some q → jl_Sem jt_T jt_Ms d 217 [.ref l0, .ref l1, .int l2, .int l3, .int l4] h (jo_i q) := by
 unfold F_Mod_isShutBy
 exact jr_enter (D := 4) hd jM_217_at rfl rfl rfl (fun d hd =>
  jr_aloadn 0 1 rfl rfl rfl
  (jr_gr 1 4 rfl jg_11_79_2 rfl (fun v1 =>
  jr_iconst 4 5 (0 : Int32) rfl jc_i_0 rfl
  (jr_iloadn 5 6 rfl rfl rfl
  (jr_is 6 7 rfl rfl (fun h2 =>
  jr_aloadn 7 8 rfl rfl rfl
  (jr_gr 8 11 rfl jg_11_79_2 rfl (fun v3 =>
  jr_iconst 11 12 (1 : Int32) rfl jc_i_1 rfl
  (jr_iload 12 14 rfl rfl rfl
  (jr_is 14 15 rfl rfl (fun h4 =>
  jr_aloadn 15 16 rfl rfl rfl
  (jr_gr 16 19 rfl jg_11_79_2 rfl (fun v5 =>
  jr_iconst 19 20 (2 : Int32) rfl jc_i_2 rfl
  (jr_aloadn 20 21 rfl rfl rfl
  (jr_aloadn 21 22 rfl rfl rfl
  (jr_sipush 22 25 (133 : Int32) rfl jc_s_133 rfl
  (jr_ia 25 26 rfl rfl (fun v6 =>
  jr_cVi 26 29 [.int (2 : Int32), .ref v5] rfl rfl rfl rfl rfl rfl rfl rfl (as := [.int v6]) (F_Mod_windIn_ok (Nat.le_trans (by decide : 1 ≤ 4) hd)) (fun v7 h8 =>
  jr_is 29 30 rfl rfl (fun h9 =>
  jr_aloadn 30 31 rfl rfl rfl
  (jr_gr 31 34 rfl jg_11_79_2 rfl (fun v10 =>
  jr_iconst 34 35 (3 : Int32) rfl jc_i_3 rfl
  (jr_aloadn 35 36 rfl rfl rfl
  (jr_aloadn 36 37 rfl rfl rfl
  (jr_sipush 37 40 (133 : Int32) rfl jc_s_133 rfl
  (jr_ia 40 41 rfl rfl (fun v11 =>
  jr_cVi 41 44 [.int (3 : Int32), .ref v10] rfl rfl rfl rfl rfl rfl rfl rfl (as := [.int v11]) (F_Mod_isRain_ok (Nat.le_trans (by decide : 2 ≤ 4) hd)) (fun v12 h13 =>
  jr_if_eq 44 51 47 rfl rfl rfl
  (jr_iconst 51 52 (0 : Int32) rfl jc_i_0 rfl
  ((F_Mod_isShutBy_b52_ok hd )))
  (jr_iconst 47 48 (1 : Int32) rfl jc_i_1 rfl
  (jr_goto 48 52 rfl rfl
  ((F_Mod_isShutBy_b52_ok hd ))))))))))))))))))))))))))))))))
noncomputable def jM_210 : JMeth := (11, false, 2, jk_210, [], 3)
set_option maxRecDepth 100000 in
theorem jM_210_at : jt_Ms 210 = some jM_210 := rfl
noncomputable def F_Mod_isShut (l0 : Nat) (l1 : Nat) (l2 : Int32) (h : LH) : Option (Int32 × LH) :=
 jf_kd h l0 11
 (jf_bi (F_Mod_smokeAt l0 l1 l2 h) fun v1 h2 =>
 jf_ia h2 l1 ((108 : Int32) + l2) fun v3 =>
 jf_kd h2 l0 11
 (jf_bi (F_Mod_isShutBy l0 l1 l2 v1 v3 h2) fun v4 h5 =>
 jf_rz v4 (some (v4, h5))))
set_option maxRecDepth 100000 in
theorem F_Mod_isShut_ok {d : Nat} (hd : 6 ≤ d) {l0 : Nat} {l1 : Nat} {l2 : Int32} {h : LH} {q : (Int32 × LH)} : F_Mod_isShut l0 l1 l2 h = some q → jl_Sem jt_T jt_Ms d 210 [.ref l0, .ref l1, .int l2] h (jo_i q) := by
 unfold F_Mod_isShut
 exact jr_enter (D := 5) hd jM_210_at rfl rfl rfl (fun d hd =>
  jr_aloadn 0 1 rfl rfl rfl
  (jr_aloadn 1 2 rfl rfl rfl
  (jr_iloadn 2 3 rfl rfl rfl
  (jr_aloadn 3 4 rfl rfl rfl
  (jr_aloadn 4 5 rfl rfl rfl
  (jr_iloadn 5 6 rfl rfl rfl
  (jr_cVi 6 9 [.int l2, .ref l1, .ref l0] rfl rfl rfl rfl rfl rfl rfl rfl (as := [.ref l1, .int l2]) (F_Mod_smokeAt_ok (Nat.le_trans (by decide : 4 ≤ 5) hd)) (fun v1 h2 =>
  jr_aloadn 9 10 rfl rfl rfl
  (jr_bipush 10 12 (108 : Int32) rfl jc_b_108 rfl
  (jr_iloadn 12 13 rfl rfl rfl
  (jr_iadd 13 14 rfl rfl
  (jr_ia 14 15 rfl rfl (fun v3 =>
  jr_cVi 15 18 [] rfl rfl rfl rfl rfl rfl rfl rfl (as := [.ref l1, .int l2, .int v1, .int v3]) (F_Mod_isShutBy_ok (Nat.le_trans (by decide : 5 ≤ 5) hd)) (fun v4 h5 =>
  jr_rz 18 rfl rfl))))))))))))))
noncomputable def jM_209 : JMeth := (11, false, 1, jk_209, [], 4)
set_option maxRecDepth 100000 in
theorem jM_209_at : jt_Ms 209 = some jM_209 := rfl
noncomputable def F_Mod_shutBits_b31 (k4 : Nat → Nat → Int32 → Int32 → LH → Option (Int32 × LH)) (l0 : Nat) (l1 : Nat) (l3 : Int32) (s0 : Int32) (s1 : Int32) (h : LH) : Option (Int32 × LH) :=
 jf_let (s0 ||| s1) fun v1 =>
 k4 l0 l1 v1 (l3 + (1 : Int32)) h
set_option maxRecDepth 100000 in
theorem F_Mod_shutBits_b31_ok {d : Nat} {q : (Int32 × LH)} {k4 : Nat → Nat → Int32 → Int32 → LH → Option (Int32 × LH)} (hd : 6 ≤ d) (hk4 : ∀ (l0 : Nat) (l1 : Nat) (l2 : Int32) (l3 : Int32) (h : LH), k4 l0 l1 l2 l3 h = some q → JR d jM_209 4 [.ref l0, .ref l1, .int l2, .int l3] [] h (jo_i q)) {l0 : Nat} {l1 : Nat} {l3 : Int32} {s0 : Int32} {s1 : Int32} {u2 : Value} {h : LH} : F_Mod_shutBits_b31 k4 l0 l1 l3 s0 s1 h = some q → JR d jM_209 31 [.ref l0, .ref l1, u2, .int l3] [.int s1, .int s0] h (jo_i q) := by
 unfold F_Mod_shutBits_b31
 exact jr_ior 31 32 rfl rfl
  (jr_istorenL 32 33 (fun v1 => [.ref l0, .ref l1, .int v1, .int l3]) rfl rfl (fun _ => rfl) rfl (fun v1 =>
  jr_iinc 33 36 [.ref l0, .ref l1, .int v1, .int (l3 + (1 : Int32))] rfl jc_i_1 rfl rfl rfl rfl
  (jr_goto 36 4 rfl rfl
  ((hk4 _ _ _ _ _)))))
noncomputable def F_Mod_shutBits_c4 (k4 : Nat → Nat → Int32 → Int32 → LH → Option (Int32 × LH)) (l0 : Nat) (l1 : Nat) (l2 : Int32) (l3 : Int32) (h : LH) : Option (Int32 × LH) :=
 jf_gr h l0 11 12 fun v1 =>
 jf_ia h v1 (0 : Int32) fun v2 =>
 if l3 < v2 then
 jf_kd h l0 11
 (jf_bi (F_Mod_isShut l0 l1 l3 h) fun v3 h4 =>
 if v3 = 0 then
 F_Mod_shutBits_b31 k4 l0 l1 l3 l2 (0 : Int32) h4
else
 F_Mod_shutBits_b31 k4 l0 l1 l3 l2 ((1 : Int32) <<< (l3 &&& 31)) h4)
else
 some (l2, h)
set_option maxRecDepth 100000 in
theorem F_Mod_shutBits_c4_ok {d : Nat} {q : (Int32 × LH)} {k4 : Nat → Nat → Int32 → Int32 → LH → Option (Int32 × LH)} (hd : 6 ≤ d) (hk4 : ∀ (l0 : Nat) (l1 : Nat) (l2 : Int32) (l3 : Int32) (h : LH), k4 l0 l1 l2 l3 h = some q → JR d jM_209 4 [.ref l0, .ref l1, .int l2, .int l3] [] h (jo_i q)) {l0 : Nat} {l1 : Nat} {l2 : Int32} {l3 : Int32} {h : LH} : F_Mod_shutBits_c4 k4 l0 l1 l2 l3 h = some q → JR d jM_209 4 [.ref l0, .ref l1, .int l2, .int l3] [] h (jo_i q) := by
 unfold F_Mod_shutBits_c4
 exact jr_iloadn 4 5 rfl rfl rfl
  (jr_aloadn 5 6 rfl rfl rfl
  (jr_gr 6 9 rfl jg_11_23_2 rfl (fun v1 =>
  jr_iconst 9 10 (0 : Int32) rfl jc_i_0 rfl
  (jr_ia 10 11 rfl rfl (fun v2 =>
  jr_icmp_ge 11 39 14 rfl rfl rfl
  (jr_iloadn 39 40 rfl rfl rfl
  (jr_ri 40 rfl rfl))
  (jr_iloadn 14 15 rfl rfl rfl
  (jr_aloadn 15 16 rfl rfl rfl
  (jr_aloadn 16 17 rfl rfl rfl
  (jr_iloadn 17 18 rfl rfl rfl
  (jr_cVi 18 21 [.int l2] rfl rfl rfl rfl rfl rfl rfl rfl (as := [.ref l1, .int l3]) (F_Mod_isShut_ok (Nat.le_trans (by decide : 6 ≤ 6) hd)) (fun v3 h4 =>
  jr_if_eq 21 30 24 rfl rfl rfl
  (jr_iconst 30 31 (0 : Int32) rfl jc_i_0 rfl
  ((F_Mod_shutBits_b31_ok hd hk4)))
  (jr_iconst 24 25 (1 : Int32) rfl jc_i_1 rfl
  (jr_iloadn 25 26 rfl rfl rfl
  (jr_ishl 26 27 rfl rfl
  (jr_goto 27 31 rfl rfl
  ((F_Mod_shutBits_b31_ok hd hk4)))))))))))))))))
noncomputable def F_Mod_shutBits_l4 : Nat → Nat → Nat → Int32 → Int32 → LH → Option (Int32 × LH)
 | 0, _, _, _, _, _ => none
 | n + 1, l0, l1, l2, l3, h => F_Mod_shutBits_c4 (F_Mod_shutBits_l4 n) l0 l1 l2 l3 h
theorem F_Mod_shutBits_l4_ok {d : Nat} {q : (Int32 × LH)} (hd : 6 ≤ d) : ∀ (n : Nat) (l0 : Nat) (l1 : Nat) (l2 : Int32) (l3 : Int32) (h : LH), F_Mod_shutBits_l4 n l0 l1 l2 l3 h = some q → JR d jM_209 4 [.ref l0, .ref l1, .int l2, .int l3] [] h (jo_i q)
 | 0 => fun _ _ _ _ _ hq => nomatch (show (none : Option (Int32 × LH)) = some q from hq)
 | n + 1 => fun _ _ _ _ _ hq => F_Mod_shutBits_c4_ok hd (F_Mod_shutBits_l4_ok hd n) hq
noncomputable def F_Mod_shutBits (l0 : Nat) (l1 : Nat) (h : LH) : Option (Int32 × LH) :=
 F_Mod_shutBits_l4  jF l0 l1 (0 : Int32) (0 : Int32) h
set_option maxRecDepth 100000 in
theorem F_Mod_shutBits_ok {d : Nat} (hd : 7 ≤ d) {l0 : Nat} {l1 : Nat} {h : LH} {q : (Int32 × LH)} : F_Mod_shutBits l0 l1 h = some q → jl_Sem jt_T jt_Ms d 209 [.ref l0, .ref l1] h (jo_i q) := by
 unfold F_Mod_shutBits
 exact jr_enter (D := 6) hd jM_209_at rfl rfl rfl (fun d hd =>
  jr_iconst 0 1 (0 : Int32) rfl jc_i_0 rfl
  (jr_istoren 1 2 [.ref l0, .ref l1, .int (0 : Int32), .retAddr 0] rfl rfl rfl rfl
  (jr_iconst 2 3 (0 : Int32) rfl jc_i_0 rfl
  (jr_istoren 3 4 [.ref l0, .ref l1, .int (0 : Int32), .int (0 : Int32)] rfl rfl rfl rfl
  ((F_Mod_shutBits_l4_ok hd  jF _ _ _ _ _))))))
noncomputable def jM_223 : JMeth := (11, false, 0, jk_223, [], 8)
set_option maxRecDepth 100000 in
theorem jM_223_at : jt_Ms 223 = some jM_223 := rfl
noncomputable def F_Mod_burns_c94 (k94 : Nat → Int32 → Int32 → LH → Option LH) (l1 : Nat) (l2 : Int32) (l4 : Int32) (h : LH) : Option LH :=
 if l4 < (6 : Int32) then
 jf_is h l1 (((0 : Int32) + ((6 : Int32) * l2)) + l4) (0 : Int32) fun h1 =>
 jf_is h1 l1 (((54 : Int32) + ((6 : Int32) * l2)) + l4) (0 : Int32) fun h2 =>
 k94 l1 l2 (l4 + (1 : Int32)) h2
else
 some h
set_option maxRecDepth 100000 in
theorem F_Mod_burns_c94_ok {d : Nat} {q : LH} {k94 : Nat → Int32 → Int32 → LH → Option LH} (hd : 0 ≤ d) (hk94 : ∀ (l1 : Nat) (l2 : Int32) (l4 : Int32) (u0 : Value) (u3 : Value) (u5 : Value) (u6 : Value) (u7 : Value) (h : LH), k94 l1 l2 l4 h = some q → JR d jM_223 94 [u0, .ref l1, .int l2, u3, .int l4, u5, u6, u7] [] h (jo_v q)) {l1 : Nat} {l2 : Int32} {l4 : Int32} {u0 : Value} {u3 : Value} {u5 : Value} {u6 : Value} {u7 : Value} {h : LH} : F_Mod_burns_c94 k94 l1 l2 l4 h = some q → JR d jM_223 94 [u0, .ref l1, .int l2, u3, .int l4, u5, u6, u7] [] h (jo_v q) := by
 unfold F_Mod_burns_c94
 exact jr_iload 94 96 rfl rfl rfl
  (jr_bipush 96 98 (6 : Int32) rfl jc_b_6 rfl
  (jr_icmp_ge 98 132 101 rfl rfl rfl
  (jr_rv 132 rfl rfl)
  (jr_aloadn 101 102 rfl rfl rfl
  (jr_iconst 102 103 (0 : Int32) rfl jc_i_0 rfl
  (jr_bipush 103 105 (6 : Int32) rfl jc_b_6 rfl
  (jr_iloadn 105 106 rfl rfl rfl
  (jr_imul 106 107 rfl rfl
  (jr_iadd 107 108 rfl rfl
  (jr_iload 108 110 rfl rfl rfl
  (jr_iadd 110 111 rfl rfl
  (jr_iconst 111 112 (0 : Int32) rfl jc_i_0 rfl
  (jr_is 112 113 rfl rfl (fun h1 =>
  jr_aloadn 113 114 rfl rfl rfl
  (jr_bipush 114 116 (54 : Int32) rfl jc_b_54 rfl
  (jr_bipush 116 118 (6 : Int32) rfl jc_b_6 rfl
  (jr_iloadn 118 119 rfl rfl rfl
  (jr_imul 119 120 rfl rfl
  (jr_iadd 120 121 rfl rfl
  (jr_iload 121 123 rfl rfl rfl
  (jr_iadd 123 124 rfl rfl
  (jr_iconst 124 125 (0 : Int32) rfl jc_i_0 rfl
  (jr_is 125 126 rfl rfl (fun h2 =>
  jr_iinc 126 129 [u0, .ref l1, .int l2, u3, .int (l4 + (1 : Int32)), u5, u6, u7] rfl jc_i_1 rfl rfl rfl rfl
  (jr_goto 129 94 rfl rfl
  ((hk94 _ _ _ _ _ _ _ _ _))))))))))))))))))))))))))
noncomputable def F_Mod_burns_l94 : Nat → Nat → Int32 → Int32 → LH → Option LH
 | 0, _, _, _, _ => none
 | n + 1, l1, l2, l4, h => F_Mod_burns_c94 (F_Mod_burns_l94 n) l1 l2 l4 h
theorem F_Mod_burns_l94_ok {d : Nat} {q : LH} (hd : 0 ≤ d) : ∀ (n : Nat) (l1 : Nat) (l2 : Int32) (l4 : Int32) (u0 : Value) (u3 : Value) (u5 : Value) (u6 : Value) (u7 : Value) (h : LH), F_Mod_burns_l94 n l1 l2 l4 h = some q → JR d jM_223 94 [u0, .ref l1, .int l2, u3, .int l4, u5, u6, u7] [] h (jo_v q)
 | 0 => fun _ _ _ _ _ _ _ _ _ hq => nomatch (show (none : Option LH) = some q from hq)
 | n + 1 => fun _ _ _ _ _ _ _ _ _ hq => F_Mod_burns_c94_ok hd (F_Mod_burns_l94_ok hd n) hq
noncomputable def F_Mod_burns_b76 (k5 : Nat → Int32 → Int32 → Int32 → LH → Option LH) (l1 : Nat) (l2 : Int32) (l4 : Int32) (s0 : Int32) (s1 : Int32) (h : LH) : Option LH :=
 jf_let (s0 + s1) fun v1 =>
 k5 l1 l2 v1 (l4 + (1 : Int32)) h
set_option maxRecDepth 100000 in
theorem F_Mod_burns_b76_ok {d : Nat} {q : LH} {k5 : Nat → Int32 → Int32 → Int32 → LH → Option LH} (hd : 0 ≤ d) (hk5 : ∀ (l1 : Nat) (l2 : Int32) (l3 : Int32) (l4 : Int32) (u0 : Value) (u5 : Value) (u6 : Value) (u7 : Value) (h : LH), k5 l1 l2 l3 l4 h = some q → JR d jM_223 5 [u0, .ref l1, .int l2, .int l3, .int l4, u5, u6, u7] [] h (jo_v q)) {l1 : Nat} {l2 : Int32} {l4 : Int32} {s0 : Int32} {s1 : Int32} {u0 : Value} {u3 : Value} {u5 : Value} {u6 : Value} {u7 : Value} {h : LH} : F_Mod_burns_b76 k5 l1 l2 l4 s0 s1 h = some q → JR d jM_223 76 [u0, .ref l1, .int l2, u3, .int l4, u5, u6, u7] [.int s1, .int s0] h (jo_v q) := by
 unfold F_Mod_burns_b76
 exact jr_iadd 76 77 rfl rfl
  (jr_istorenL 77 78 (fun v1 => [u0, .ref l1, .int l2, .int v1, .int l4, u5, u6, u7]) rfl rfl (fun _ => rfl) rfl (fun v1 =>
  jr_iinc 78 81 [u0, .ref l1, .int l2, .int v1, .int (l4 + (1 : Int32)), u5, u6, u7] rfl jc_i_1 rfl rfl rfl rfl
  (jr_goto 81 5 rfl rfl
  ((hk5 _ _ _ _ _ _ _ _ _)))))
noncomputable def F_Mod_burns_c5 (k5 : Nat → Int32 → Int32 → Int32 → LH → Option LH) (l1 : Nat) (l2 : Int32) (l3 : Int32) (l4 : Int32) (h : LH) : Option LH :=
 jf_ia h l1 ((108 : Int32) + l2) fun v1 =>
 if l4 < v1 then
 jf_let (((6 : Int32) * l2) + l4) fun v3 =>
 jf_let (((6 : Int32) * l2) + l3) fun v4 =>
 jf_ia h l1 ((54 : Int32) + v3) fun v5 =>
 jf_let (v5 - (1 : Int32)) fun v6 =>
 jf_ia h l1 ((0 : Int32) + v3) fun v7 =>
 jf_is h l1 ((0 : Int32) + v4) v7 fun h8 =>
 jf_is h8 l1 ((54 : Int32) + v4) v6 fun h9 =>
 if 0 < v6 then
 F_Mod_burns_b76 k5 l1 l2 l4 l3 (1 : Int32) h9
else
 F_Mod_burns_b76 k5 l1 l2 l4 l3 (0 : Int32) h9
else
 jf_is h l1 ((108 : Int32) + l2) l3 fun h2 =>
 F_Mod_burns_l94  jF l1 l2 l3 h2
set_option maxRecDepth 100000 in
theorem F_Mod_burns_c5_ok {d : Nat} {q : LH} {k5 : Nat → Int32 → Int32 → Int32 → LH → Option LH} (hd : 0 ≤ d) (hk5 : ∀ (l1 : Nat) (l2 : Int32) (l3 : Int32) (l4 : Int32) (u0 : Value) (u5 : Value) (u6 : Value) (u7 : Value) (h : LH), k5 l1 l2 l3 l4 h = some q → JR d jM_223 5 [u0, .ref l1, .int l2, .int l3, .int l4, u5, u6, u7] [] h (jo_v q)) {l1 : Nat} {l2 : Int32} {l3 : Int32} {l4 : Int32} {u0 : Value} {u5 : Value} {u6 : Value} {u7 : Value} {h : LH} : F_Mod_burns_c5 k5 l1 l2 l3 l4 h = some q → JR d jM_223 5 [u0, .ref l1, .int l2, .int l3, .int l4, u5, u6, u7] [] h (jo_v q) := by
 unfold F_Mod_burns_c5
 exact jr_iload 5 7 rfl rfl rfl
  (jr_aloadn 7 8 rfl rfl rfl
  (jr_bipush 8 10 (108 : Int32) rfl jc_b_108 rfl
  (jr_iloadn 10 11 rfl rfl rfl
  (jr_iadd 11 12 rfl rfl
  (jr_ia 12 13 rfl rfl (fun v1 =>
  jr_icmp_ge 13 84 16 rfl rfl rfl
  (jr_aloadn 84 85 rfl rfl rfl
  (jr_bipush 85 87 (108 : Int32) rfl jc_b_108 rfl
  (jr_iloadn 87 88 rfl rfl rfl
  (jr_iadd 88 89 rfl rfl
  (jr_iloadn 89 90 rfl rfl rfl
  (jr_is 90 91 rfl rfl (fun h2 =>
  jr_iloadn 91 92 rfl rfl rfl
  (jr_istore 92 94 [u0, .ref l1, .int l2, .int l3, .int l3, u5, u6, u7] rfl rfl rfl rfl
  ((F_Mod_burns_l94_ok hd  jF _ _ _ _ _ _ _ _ _))))))))))
  (jr_bipush 16 18 (6 : Int32) rfl jc_b_6 rfl
  (jr_iloadn 18 19 rfl rfl rfl
  (jr_imul 19 20 rfl rfl
  (jr_iload 20 22 rfl rfl rfl
  (jr_iadd 22 23 rfl rfl
  (jr_istoreL 23 25 (fun v3 => [u0, .ref l1, .int l2, .int l3, .int l4, .int v3, u6, u7]) rfl rfl (fun _ => rfl) rfl (fun v3 =>
  jr_bipush 25 27 (6 : Int32) rfl jc_b_6 rfl
  (jr_iloadn 27 28 rfl rfl rfl
  (jr_imul 28 29 rfl rfl
  (jr_iloadn 29 30 rfl rfl rfl
  (jr_iadd 30 31 rfl rfl
  (jr_istoreL 31 33 (fun v4 => [u0, .ref l1, .int l2, .int l3, .int l4, .int v3, .int v4, u7]) rfl rfl (fun _ => rfl) rfl (fun v4 =>
  jr_aloadn 33 34 rfl rfl rfl
  (jr_bipush 34 36 (54 : Int32) rfl jc_b_54 rfl
  (jr_iload 36 38 rfl rfl rfl
  (jr_iadd 38 39 rfl rfl
  (jr_ia 39 40 rfl rfl (fun v5 =>
  jr_iconst 40 41 (1 : Int32) rfl jc_i_1 rfl
  (jr_isub 41 42 rfl rfl
  (jr_istoreL 42 44 (fun v6 => [u0, .ref l1, .int l2, .int l3, .int l4, .int v3, .int v4, .int v6]) rfl rfl (fun _ => rfl) rfl (fun v6 =>
  jr_aloadn 44 45 rfl rfl rfl
  (jr_iconst 45 46 (0 : Int32) rfl jc_i_0 rfl
  (jr_iload 46 48 rfl rfl rfl
  (jr_iadd 48 49 rfl rfl
  (jr_aloadn 49 50 rfl rfl rfl
  (jr_iconst 50 51 (0 : Int32) rfl jc_i_0 rfl
  (jr_iload 51 53 rfl rfl rfl
  (jr_iadd 53 54 rfl rfl
  (jr_ia 54 55 rfl rfl (fun v7 =>
  jr_is 55 56 rfl rfl (fun h8 =>
  jr_aloadn 56 57 rfl rfl rfl
  (jr_bipush 57 59 (54 : Int32) rfl jc_b_54 rfl
  (jr_iload 59 61 rfl rfl rfl
  (jr_iadd 61 62 rfl rfl
  (jr_iload 62 64 rfl rfl rfl
  (jr_is 64 65 rfl rfl (fun h9 =>
  jr_iloadn 65 66 rfl rfl rfl
  (jr_iload 66 68 rfl rfl rfl
  (jr_if_le 68 75 71 rfl rfl rfl
  (jr_iconst 75 76 (0 : Int32) rfl jc_i_0 rfl
  ((F_Mod_burns_b76_ok hd hk5)))
  (jr_iconst 71 72 (1 : Int32) rfl jc_i_1 rfl
  (jr_goto 72 76 rfl rfl
  ((F_Mod_burns_b76_ok hd hk5)))))))))))))))))))))))))))))))))))))))))))))))))
noncomputable def F_Mod_burns_l5 : Nat → Nat → Int32 → Int32 → Int32 → LH → Option LH
 | 0, _, _, _, _, _ => none
 | n + 1, l1, l2, l3, l4, h => F_Mod_burns_c5 (F_Mod_burns_l5 n) l1 l2 l3 l4 h
theorem F_Mod_burns_l5_ok {d : Nat} {q : LH} (hd : 0 ≤ d) : ∀ (n : Nat) (l1 : Nat) (l2 : Int32) (l3 : Int32) (l4 : Int32) (u0 : Value) (u5 : Value) (u6 : Value) (u7 : Value) (h : LH), F_Mod_burns_l5 n l1 l2 l3 l4 h = some q → JR d jM_223 5 [u0, .ref l1, .int l2, .int l3, .int l4, u5, u6, u7] [] h (jo_v q)
 | 0 => fun _ _ _ _ _ _ _ _ _ hq => nomatch (show (none : Option LH) = some q from hq)
 | n + 1 => fun _ _ _ _ _ _ _ _ _ hq => F_Mod_burns_c5_ok hd (F_Mod_burns_l5_ok hd n) hq
noncomputable def F_Mod_burns (l0 : Nat) (l1 : Nat) (l2 : Int32) (h : LH) : Option LH :=
 F_Mod_burns_l5  jF l1 l2 (0 : Int32) (0 : Int32) h
set_option maxRecDepth 100000 in
theorem F_Mod_burns_ok {d : Nat} (hd : 1 ≤ d) {l0 : Nat} {l1 : Nat} {l2 : Int32} {h : LH} {q : LH} : F_Mod_burns l0 l1 l2 h = some q → jl_Sem jt_T jt_Ms d 223 [.ref l0, .ref l1, .int l2] h (jo_v q) := by
 unfold F_Mod_burns
 exact jr_enter (D := 0) hd jM_223_at rfl rfl rfl (fun d hd =>
  jr_iconst 0 1 (0 : Int32) rfl jc_i_0 rfl
  (jr_istoren 1 2 [.ref l0, .ref l1, .int l2, .int (0 : Int32), .retAddr 0, .retAddr 0, .retAddr 0, .retAddr 0] rfl rfl rfl rfl
  (jr_iconst 2 3 (0 : Int32) rfl jc_i_0 rfl
  (jr_istore 3 5 [.ref l0, .ref l1, .int l2, .int (0 : Int32), .int (0 : Int32), .retAddr 0, .retAddr 0, .retAddr 0] rfl rfl rfl rfl
  ((F_Mod_burns_l5_ok hd  jF _ _ _ _ _ _ _ _ _))))))
noncomputable def jM_208 : JMeth := (11, false, 0, jk_208, [], 5)
set_option maxRecDepth 100000 in
theorem jM_208_at : jt_Ms 208 = some jM_208 := rfl
noncomputable def F_Mod_hourEnds_c111 (k111 : Nat → Nat → Int32 → LH → Option LH) (l0 : Nat) (l1 : Nat) (l3 : Int32) (h : LH) : Option LH :=
 jf_gr h l0 11 12 fun v1 =>
 jf_ia h v1 (0 : Int32) fun v2 =>
 if l3 < v2 then
 jf_kd h l0 11
 ((F_Mod_burns l0 l1 l3 h).bind fun h5 =>
 k111 l0 l1 (l3 + (1 : Int32)) h5)
else
 jf_ia h l1 (133 : Int32) fun v3 =>
 jf_is h l1 (133 : Int32) (v3 + (1 : Int32)) fun h4 =>
 some h4
set_option maxRecDepth 100000 in
theorem F_Mod_hourEnds_c111_ok {d : Nat} {q : LH} {k111 : Nat → Nat → Int32 → LH → Option LH} (hd : 7 ≤ d) (hk111 : ∀ (l0 : Nat) (l1 : Nat) (l3 : Int32) (u2 : Value) (u4 : Value) (h : LH), k111 l0 l1 l3 h = some q → JR d jM_208 111 [.ref l0, .ref l1, u2, .int l3, u4] [] h (jo_v q)) {l0 : Nat} {l1 : Nat} {l3 : Int32} {u2 : Value} {u4 : Value} {h : LH} : F_Mod_hourEnds_c111 k111 l0 l1 l3 h = some q → JR d jM_208 111 [.ref l0, .ref l1, u2, .int l3, u4] [] h (jo_v q) := by
 unfold F_Mod_hourEnds_c111
 exact jr_iloadn 111 112 rfl rfl rfl
  (jr_aloadn 112 113 rfl rfl rfl
  (jr_gr 113 116 rfl jg_11_23_2 rfl (fun v1 =>
  jr_iconst 116 117 (0 : Int32) rfl jc_i_0 rfl
  (jr_ia 117 118 rfl rfl (fun v2 =>
  jr_icmp_ge 118 133 121 rfl rfl rfl
  (jr_aloadn 133 134 rfl rfl rfl
  (jr_sipush 134 137 (133 : Int32) rfl jc_s_133 rfl
  (jr_dup2 137 138 rfl rfl rfl rfl
  (jr_ia 138 139 rfl rfl (fun v3 =>
  jr_iconst 139 140 (1 : Int32) rfl jc_i_1 rfl
  (jr_iadd 140 141 rfl rfl
  (jr_is 141 142 rfl rfl (fun h4 =>
  jr_rv 142 rfl rfl))))))))
  (jr_aloadn 121 122 rfl rfl rfl
  (jr_aloadn 122 123 rfl rfl rfl
  (jr_iloadn 123 124 rfl rfl rfl
  (jr_cVv 124 127 [] rfl rfl rfl rfl rfl rfl rfl rfl (as := [.ref l1, .int l3]) (F_Mod_burns_ok (Nat.le_trans (by decide : 1 ≤ 7) hd)) (fun h5 =>
  jr_iinc 127 130 [.ref l0, .ref l1, u2, .int (l3 + (1 : Int32)), u4] rfl jc_i_1 rfl rfl rfl rfl
  (jr_goto 130 111 rfl rfl
  ((hk111 _ _ _ _ _ _)))))))))))))
noncomputable def F_Mod_hourEnds_l111 : Nat → Nat → Nat → Int32 → LH → Option LH
 | 0, _, _, _, _ => none
 | n + 1, l0, l1, l3, h => F_Mod_hourEnds_c111 (F_Mod_hourEnds_l111 n) l0 l1 l3 h
theorem F_Mod_hourEnds_l111_ok {d : Nat} {q : LH} (hd : 7 ≤ d) : ∀ (n : Nat) (l0 : Nat) (l1 : Nat) (l3 : Int32) (u2 : Value) (u4 : Value) (h : LH), F_Mod_hourEnds_l111 n l0 l1 l3 h = some q → JR d jM_208 111 [.ref l0, .ref l1, u2, .int l3, u4] [] h (jo_v q)
 | 0 => fun _ _ _ _ _ _ hq => nomatch (show (none : Option LH) = some q from hq)
 | n + 1 => fun _ _ _ _ _ _ hq => F_Mod_hourEnds_c111_ok hd (F_Mod_hourEnds_l111_ok hd n) hq
noncomputable def F_Mod_hourEnds_b103 (k8 : Nat → Nat → Int32 → Int32 → LH → Option LH) (l0 : Nat) (l1 : Nat) (l2 : Int32) (l3 : Int32) (h : LH) : Option LH :=
 k8 l0 l1 l2 (l3 + (1 : Int32)) h
set_option maxRecDepth 100000 in
theorem F_Mod_hourEnds_b103_ok {d : Nat} {q : LH} {k8 : Nat → Nat → Int32 → Int32 → LH → Option LH} (hd : 7 ≤ d) (hk8 : ∀ (l0 : Nat) (l1 : Nat) (l2 : Int32) (l3 : Int32) (u4 : Value) (h : LH), k8 l0 l1 l2 l3 h = some q → JR d jM_208 8 [.ref l0, .ref l1, .int l2, .int l3, u4] [] h (jo_v q)) {l0 : Nat} {l1 : Nat} {l2 : Int32} {l3 : Int32} {u4 : Value} {h : LH} : F_Mod_hourEnds_b103 k8 l0 l1 l2 l3 h = some q → JR d jM_208 103 [.ref l0, .ref l1, .int l2, .int l3, u4] [] h (jo_v q) := by
 unfold F_Mod_hourEnds_b103
 exact jr_iinc 103 106 [.ref l0, .ref l1, .int l2, .int (l3 + (1 : Int32)), u4] rfl jc_i_1 rfl rfl rfl rfl
  (jr_goto 106 8 rfl rfl
  ((hk8 _ _ _ _ _ _)))
noncomputable def F_Mod_hourEnds_b66 (k8 : Nat → Nat → Int32 → Int32 → LH → Option LH) (l0 : Nat) (l1 : Nat) (l2 : Int32) (l3 : Int32) (l4 : Int32) (s0 : Nat) (s1 : Int32) (s2 : Int32) (h : LH) : Option LH :=
 jf_is h s0 s1 s2 fun h1 =>
 if l4 = 0 then
 jf_gr h1 l0 11 12 fun v2 =>
 jf_ia h1 v2 (1 : Int32) fun v3 =>
 if 0 < v3 then
 jf_ia h1 l1 (117 : Int32) fun v4 =>
 jf_gr h1 l0 11 22 fun v5 =>
 jf_aa h1 v5 l3 fun v6 =>
 jf_ia h1 v6 (2 : Int32) fun v7 =>
 jf_bi (F_Mod_less (99 : Int32) (v4 + v7) h1) fun v8 h9 =>
 jf_is h9 l1 (117 : Int32) v8 fun h10 =>
 F_Mod_hourEnds_b103 k8 l0 l1 l2 l3 h10
else
 F_Mod_hourEnds_b103 k8 l0 l1 l2 l3 h1
else
 F_Mod_hourEnds_b103 k8 l0 l1 l2 l3 h1
set_option maxRecDepth 100000 in
theorem F_Mod_hourEnds_b66_ok {d : Nat} {q : LH} {k8 : Nat → Nat → Int32 → Int32 → LH → Option LH} (hd : 7 ≤ d) (hk8 : ∀ (l0 : Nat) (l1 : Nat) (l2 : Int32) (l3 : Int32) (u4 : Value) (h : LH), k8 l0 l1 l2 l3 h = some q → JR d jM_208 8 [.ref l0, .ref l1, .int l2, .int l3, u4] [] h (jo_v q)) {l0 : Nat} {l1 : Nat} {l2 : Int32} {l3 : Int32} {l4 : Int32} {s0 : Nat} {s1 : Int32} {s2 : Int32} {h : LH} : F_Mod_hourEnds_b66 k8 l0 l1 l2 l3 l4 s0 s1 s2 h = some q → JR d jM_208 66 [.ref l0, .ref l1, .int l2, .int l3, .int l4] [.int s2, .int s1, .ref s0] h (jo_v q) := by
 unfold F_Mod_hourEnds_b66
 exact jr_is 66 67 rfl rfl (fun h1 =>
  jr_iload 67 69 rfl rfl rfl
  (jr_if_ne 69 103 72 rfl rfl rfl
  ((F_Mod_hourEnds_b103_ok hd hk8))
  (jr_aloadn 72 73 rfl rfl rfl
  (jr_gr 73 76 rfl jg_11_23_2 rfl (fun v2 =>
  jr_iconst 76 77 (1 : Int32) rfl jc_i_1 rfl
  (jr_ia 77 78 rfl rfl (fun v3 =>
  jr_if_le 78 103 81 rfl rfl rfl
  ((F_Mod_hourEnds_b103_ok hd hk8))
  (jr_aloadn 81 82 rfl rfl rfl
  (jr_bipush 82 84 (117 : Int32) rfl jc_b_117 rfl
  (jr_bipush 84 86 (99 : Int32) rfl jc_b_99 rfl
  (jr_aloadn 86 87 rfl rfl rfl
  (jr_bipush 87 89 (117 : Int32) rfl jc_b_117 rfl
  (jr_ia 89 90 rfl rfl (fun v4 =>
  jr_aloadn 90 91 rfl rfl rfl
  (jr_gr 91 94 rfl jg_11_55_2 rfl (fun v5 =>
  jr_iloadn 94 95 rfl rfl rfl
  (jr_aa 95 96 rfl rfl (fun v6 =>
  jr_iconst 96 97 (2 : Int32) rfl jc_i_2 rfl
  (jr_ia 97 98 rfl rfl (fun v7 =>
  jr_iadd 98 99 rfl rfl
  (jr_cSi 99 102 [.int (117 : Int32), .ref l1] rfl rfl rfl rfl rfl rfl rfl (as := [.int (99 : Int32), .int (v4 + v7)]) (F_Mod_less_ok (Nat.le_trans (by decide : 1 ≤ 7) hd)) (fun v8 h9 =>
  jr_is 102 103 rfl rfl (fun h10 =>
  (F_Mod_hourEnds_b103_ok hd hk8))))))))))))))))))))))))
noncomputable def F_Mod_hourEnds_c8 (k8 : Nat → Nat → Int32 → Int32 → LH → Option LH) (l0 : Nat) (l1 : Nat) (l2 : Int32) (l3 : Int32) (h : LH) : Option LH :=
 jf_gr h l0 11 12 fun v1 =>
 jf_ia h v1 (2 : Int32) fun v2 =>
 if l3 < v2 then
 jf_gr h l0 11 22 fun v3 =>
 jf_aa h v3 l3 fun v4 =>
 jf_ia h v4 (1 : Int32) fun v5 =>
 jf_ia h l1 (133 : Int32) fun v6 =>
 if v5 = v6 then
 jf_gr h l0 11 22 fun v7 =>
 jf_aa h v7 l3 fun v8 =>
 jf_ia h v8 (0 : Int32) fun v9 =>
 jf_bi (F_Mod_has l2 v9 h) fun v10 h11 =>
 if v10 = 0 then
 F_Mod_hourEnds_b66 k8 l0 l1 l2 l3 v10 l1 ((123 : Int32) + l3) (1 : Int32) h11
else
 F_Mod_hourEnds_b66 k8 l0 l1 l2 l3 v10 l1 ((123 : Int32) + l3) (2 : Int32) h11
else
 F_Mod_hourEnds_b103 k8 l0 l1 l2 l3 h
else
 F_Mod_hourEnds_l111  jF l0 l1 (0 : Int32) h
set_option maxRecDepth 100000 in
theorem F_Mod_hourEnds_c8_ok {d : Nat} {q : LH} {k8 : Nat → Nat → Int32 → Int32 → LH → Option LH} (hd : 7 ≤ d) (hk8 : ∀ (l0 : Nat) (l1 : Nat) (l2 : Int32) (l3 : Int32) (u4 : Value) (h : LH), k8 l0 l1 l2 l3 h = some q → JR d jM_208 8 [.ref l0, .ref l1, .int l2, .int l3, u4] [] h (jo_v q)) {l0 : Nat} {l1 : Nat} {l2 : Int32} {l3 : Int32} {u4 : Value} {h : LH} : F_Mod_hourEnds_c8 k8 l0 l1 l2 l3 h = some q → JR d jM_208 8 [.ref l0, .ref l1, .int l2, .int l3, u4] [] h (jo_v q) := by
 unfold F_Mod_hourEnds_c8
 exact jr_iloadn 8 9 rfl rfl rfl
  (jr_aloadn 9 10 rfl rfl rfl
  (jr_gr 10 13 rfl jg_11_23_2 rfl (fun v1 =>
  jr_iconst 13 14 (2 : Int32) rfl jc_i_2 rfl
  (jr_ia 14 15 rfl rfl (fun v2 =>
  jr_icmp_ge 15 109 18 rfl rfl rfl
  (jr_iconst 109 110 (0 : Int32) rfl jc_i_0 rfl
  (jr_istoren 110 111 [.ref l0, .ref l1, .int l2, .int (0 : Int32), u4] rfl rfl rfl rfl
  ((F_Mod_hourEnds_l111_ok hd  jF _ _ _ _ _ _))))
  (jr_aloadn 18 19 rfl rfl rfl
  (jr_gr 19 22 rfl jg_11_55_2 rfl (fun v3 =>
  jr_iloadn 22 23 rfl rfl rfl
  (jr_aa 23 24 rfl rfl (fun v4 =>
  jr_iconst 24 25 (1 : Int32) rfl jc_i_1 rfl
  (jr_ia 25 26 rfl rfl (fun v5 =>
  jr_aloadn 26 27 rfl rfl rfl
  (jr_sipush 27 30 (133 : Int32) rfl jc_s_133 rfl
  (jr_ia 30 31 rfl rfl (fun v6 =>
  jr_icmp_eq 31 37 34 rfl rfl rfl
  (jr_iloadn 37 38 rfl rfl rfl
  (jr_aloadn 38 39 rfl rfl rfl
  (jr_gr 39 42 rfl jg_11_55_2 rfl (fun v7 =>
  jr_iloadn 42 43 rfl rfl rfl
  (jr_aa 43 44 rfl rfl (fun v8 =>
  jr_iconst 44 45 (0 : Int32) rfl jc_i_0 rfl
  (jr_ia 45 46 rfl rfl (fun v9 =>
  jr_cSi 46 49 [] rfl rfl rfl rfl rfl rfl rfl (as := [.int l2, .int v9]) (F_Mod_has_ok (Nat.le_trans (by decide : 1 ≤ 7) hd)) (fun v10 h11 =>
  jr_istore 49 51 [.ref l0, .ref l1, .int l2, .int l3, .int v10] rfl rfl rfl rfl
  (jr_aloadn 51 52 rfl rfl rfl
  (jr_bipush 52 54 (123 : Int32) rfl jc_b_123 rfl
  (jr_iloadn 54 55 rfl rfl rfl
  (jr_iadd 55 56 rfl rfl
  (jr_iload 56 58 rfl rfl rfl
  (jr_if_eq 58 65 61 rfl rfl rfl
  (jr_iconst 65 66 (1 : Int32) rfl jc_i_1 rfl
  ((F_Mod_hourEnds_b66_ok hd hk8)))
  (jr_iconst 61 62 (2 : Int32) rfl jc_i_2 rfl
  (jr_goto 62 66 rfl rfl
  ((F_Mod_hourEnds_b66_ok hd hk8)))))))))))))))))))
  (jr_goto 34 103 rfl rfl
  ((F_Mod_hourEnds_b103_ok hd hk8))))))))))))))))))
noncomputable def F_Mod_hourEnds_l8 : Nat → Nat → Nat → Int32 → Int32 → LH → Option LH
 | 0, _, _, _, _, _ => none
 | n + 1, l0, l1, l2, l3, h => F_Mod_hourEnds_c8 (F_Mod_hourEnds_l8 n) l0 l1 l2 l3 h
theorem F_Mod_hourEnds_l8_ok {d : Nat} {q : LH} (hd : 7 ≤ d) : ∀ (n : Nat) (l0 : Nat) (l1 : Nat) (l2 : Int32) (l3 : Int32) (u4 : Value) (h : LH), F_Mod_hourEnds_l8 n l0 l1 l2 l3 h = some q → JR d jM_208 8 [.ref l0, .ref l1, .int l2, .int l3, u4] [] h (jo_v q)
 | 0 => fun _ _ _ _ _ _ hq => nomatch (show (none : Option LH) = some q from hq)
 | n + 1 => fun _ _ _ _ _ _ hq => F_Mod_hourEnds_c8_ok hd (F_Mod_hourEnds_l8_ok hd n) hq
noncomputable def F_Mod_hourEnds (l0 : Nat) (l1 : Nat) (h : LH) : Option LH :=
 jf_kd h l0 11
 (jf_bi (F_Mod_shutBits l0 l1 h) fun v1 h2 =>
 F_Mod_hourEnds_l8  jF l0 l1 v1 (0 : Int32) h2)
set_option maxRecDepth 100000 in
theorem F_Mod_hourEnds_ok {d : Nat} (hd : 8 ≤ d) {l0 : Nat} {l1 : Nat} {h : LH} {q : LH} : F_Mod_hourEnds l0 l1 h = some q → jl_Sem jt_T jt_Ms d 208 [.ref l0, .ref l1] h (jo_v q) := by
 unfold F_Mod_hourEnds
 exact jr_enter (D := 7) hd jM_208_at rfl rfl rfl (fun d hd =>
  jr_aloadn 0 1 rfl rfl rfl
  (jr_aloadn 1 2 rfl rfl rfl
  (jr_cVi 2 5 [] rfl rfl rfl rfl rfl rfl rfl rfl (as := [.ref l1]) (F_Mod_shutBits_ok (Nat.le_trans (by decide : 7 ≤ 7) hd)) (fun v1 h2 =>
  jr_istoren 5 6 [.ref l0, .ref l1, .int v1, .retAddr 0, .retAddr 0] rfl rfl rfl rfl
  (jr_iconst 6 7 (0 : Int32) rfl jc_i_0 rfl
  (jr_istoren 7 8 [.ref l0, .ref l1, .int v1, .int (0 : Int32), .retAddr 0] rfl rfl rfl rfl
  ((F_Mod_hourEnds_l8_ok hd  jF _ _ _ _ _ _))))))))
noncomputable def jM_206 : JMeth := (11, false, 2, jk_206, [], 3)
set_option maxRecDepth 100000 in
theorem jM_206_at : jt_Ms 206 = some jM_206 := rfl
noncomputable def F_Mod_does (l0 : Nat) (l1 : Nat) (l2 : Nat) (h : LH) : Option (Int32 × LH) :=
 jf_ia h l2 (0 : Int32) fun v1 =>
 if v1 = (0 : Int32) then
 jf_ia h l2 (1 : Int32) fun v8 =>
 jf_ia h l2 (2 : Int32) fun v9 =>
 jf_kd h l0 11
 (jf_bi (F_Mod_laysOn l0 l1 v8 v9 h) fun v10 h11 =>
 jf_rz v10 (some (v10, h11)))
else
 if v1 = (1 : Int32) then
 jf_ia h l2 (1 : Int32) fun v4 =>
 jf_ia h l1 ((108 : Int32) + v4) fun v5 =>
 if v5 = 0 then
 jf_rz (0 : Int32) (some ((0 : Int32), h))
else
 jf_ia h l2 (1 : Int32) fun v6 =>
 jf_is h l1 ((108 : Int32) + v6) (0 : Int32) fun h7 =>
 jf_rz (1 : Int32) (some ((1 : Int32), h7))
else
 jf_ia h l1 (133 : Int32) fun v2 =>
 if v2 < (1000 : Int32) then
 jf_kd h l0 11
 ((F_Mod_hourEnds l0 l1 h).bind fun h3 =>
 jf_rz (1 : Int32) (some ((1 : Int32), h3)))
else
 jf_rz (0 : Int32) (some ((0 : Int32), h))
set_option maxRecDepth 100000 in
theorem F_Mod_does_ok {d : Nat} (hd : 9 ≤ d) {l0 : Nat} {l1 : Nat} {l2 : Nat} {h : LH} {q : (Int32 × LH)} : F_Mod_does l0 l1 l2 h = some q → jl_Sem jt_T jt_Ms d 206 [.ref l0, .ref l1, .ref l2] h (jo_i q) := by
 unfold F_Mod_does
 exact jr_enter (D := 8) hd jM_206_at rfl rfl rfl (fun d hd =>
  jr_aloadn 0 1 rfl rfl rfl
  (jr_iconst 1 2 (0 : Int32) rfl jc_i_0 rfl
  (jr_ia 2 3 rfl rfl (fun v1 =>
  jr_ite (fun hx3_0 => jr_lsw 3 28 (off := 25) rfl rfl (by rw [hx3_0]; rfl) rfl
  (jr_aloadn 28 29 rfl rfl rfl
  (jr_aloadn 29 30 rfl rfl rfl
  (jr_aloadn 30 31 rfl rfl rfl
  (jr_iconst 31 32 (1 : Int32) rfl jc_i_1 rfl
  (jr_ia 32 33 rfl rfl (fun v8 =>
  jr_aloadn 33 34 rfl rfl rfl
  (jr_iconst 34 35 (2 : Int32) rfl jc_i_2 rfl
  (jr_ia 35 36 rfl rfl (fun v9 =>
  jr_cVi 36 39 [] rfl rfl rfl rfl rfl rfl rfl rfl (as := [.ref l1, .int v8, .int v9]) (F_Mod_laysOn_ok (Nat.le_trans (by decide : 1 ≤ 8) hd)) (fun v10 h11 =>
  jr_rz 39 rfl rfl)))))))))))
  (fun hx3_0 =>
  jr_ite (fun hx3_1 => jr_lsw 3 40 (off := 37) rfl rfl (by rw [hx3_1]; rfl) rfl
  (jr_aloadn 40 41 rfl rfl rfl
  (jr_bipush 41 43 (108 : Int32) rfl jc_b_108 rfl
  (jr_aloadn 43 44 rfl rfl rfl
  (jr_iconst 44 45 (1 : Int32) rfl jc_i_1 rfl
  (jr_ia 45 46 rfl rfl (fun v4 =>
  jr_iadd 46 47 rfl rfl
  (jr_ia 47 48 rfl rfl (fun v5 =>
  jr_if_ne 48 53 51 rfl rfl rfl
  (jr_aloadn 53 54 rfl rfl rfl
  (jr_bipush 54 56 (108 : Int32) rfl jc_b_108 rfl
  (jr_aloadn 56 57 rfl rfl rfl
  (jr_iconst 57 58 (1 : Int32) rfl jc_i_1 rfl
  (jr_ia 58 59 rfl rfl (fun v6 =>
  jr_iadd 59 60 rfl rfl
  (jr_iconst 60 61 (0 : Int32) rfl jc_i_0 rfl
  (jr_is 61 62 rfl rfl (fun h7 =>
  jr_iconst 62 63 (1 : Int32) rfl jc_i_1 rfl
  (jr_rz 63 rfl rfl))))))))))
  (jr_iconst 51 52 (0 : Int32) rfl jc_i_0 rfl
  (jr_rz 52 rfl rfl)))))))))))
  (fun hx3_1 =>
  jr_lsw 3 64 (off := 61) rfl rfl (by simp [Op.lookupswitch.offset, Ne.symm (jr_ne (k := 0) jc_t_0 hx3_0), Ne.symm (jr_ne (k := 1) jc_t_1 hx3_1)]) rfl
  (jr_aloadn 64 65 rfl rfl rfl
  (jr_sipush 65 68 (133 : Int32) rfl jc_s_133 rfl
  (jr_ia 68 69 rfl rfl (fun v2 =>
  jr_sipush 69 72 (1000 : Int32) rfl jc_s_1000 rfl
  (jr_icmp_lt 72 77 75 rfl rfl rfl
  (jr_aloadn 77 78 rfl rfl rfl
  (jr_aloadn 78 79 rfl rfl rfl
  (jr_cVv 79 82 [] rfl rfl rfl rfl rfl rfl rfl rfl (as := [.ref l1]) (F_Mod_hourEnds_ok (Nat.le_trans (by decide : 8 ≤ 8) hd)) (fun h3 =>
  jr_iconst 82 83 (1 : Int32) rfl jc_i_1 rfl
  (jr_rz 83 rfl rfl)))))
  (jr_iconst 75 76 (0 : Int32) rfl jc_i_0 rfl
  (jr_rz 76 rfl rfl)))))))))))))
noncomputable def jM_205 : JMeth := (11, false, 0, jk_205, [], 5)
set_option maxRecDepth 100000 in
theorem jM_205_at : jt_Ms 205 = some jM_205 := rfl
noncomputable def F_Mod_goes_b155 (R : Nat → Int32 → Int32 → LH → Option LH) (h : LH) : Option LH :=
 some h
set_option maxRecDepth 100000 in
theorem F_Mod_goes_b155_ok {d : Nat} {rd : Nat} {R : Nat → Int32 → Int32 → LH → Option LH} {q : LH} (hd : 9 + rd ≤ d) (hRR : ∀ d : Nat, rd ≤ d → ∀ (r0 : Nat) (r1 : Int32) (r2 : Int32) (hh : LH) (qq : LH), R r0 r1 r2 hh = some qq → jl_Sem jt_T jt_Ms d 205 [.ref r0, .int r1, .int r2] hh (jo_v qq)) (hR : ∀ (r0 : Nat) (r1 : Int32) (r2 : Int32) (hh : LH) (qq : LH), R r0 r1 r2 hh = some qq → jl_Sem jt_T jt_Ms d 205 [.ref r0, .int r1, .int r2] hh (jo_v qq)) {u0 : Value} {u1 : Value} {u2 : Value} {u3 : Value} {u4 : Value} {h : LH} : F_Mod_goes_b155 R h = some q → JR d jM_205 155 [u0, u1, u2, u3, u4] [] h (jo_v q) := by
 unfold F_Mod_goes_b155
 exact jr_rv 155 rfl rfl
noncomputable def F_Mod_goes_b143 (R : Nat → Int32 → Int32 → LH → Option LH) (k2 : Nat → Int32 → Int32 → LH → Option LH) (l0 : Nat) (l2 : Int32) (l3 : Int32) (h : LH) : Option LH :=
 jf_gr h l0 11 33 fun v1 =>
 jf_aa h v1 l3 fun v2 =>
 jf_ia h v2 (3 : Int32) fun v3 =>
 k2 l0 l2 v3 h
set_option maxRecDepth 100000 in
theorem F_Mod_goes_b143_ok {d : Nat} {rd : Nat} {R : Nat → Int32 → Int32 → LH → Option LH} {q : LH} {k2 : Nat → Int32 → Int32 → LH → Option LH} (hd : 9 + rd ≤ d) (hRR : ∀ d : Nat, rd ≤ d → ∀ (r0 : Nat) (r1 : Int32) (r2 : Int32) (hh : LH) (qq : LH), R r0 r1 r2 hh = some qq → jl_Sem jt_T jt_Ms d 205 [.ref r0, .int r1, .int r2] hh (jo_v qq)) (hR : ∀ (r0 : Nat) (r1 : Int32) (r2 : Int32) (hh : LH) (qq : LH), R r0 r1 r2 hh = some qq → jl_Sem jt_T jt_Ms d 205 [.ref r0, .int r1, .int r2] hh (jo_v qq)) (hk2 : ∀ (l0 : Nat) (l2 : Int32) (l3 : Int32) (u1 : Value) (u4 : Value) (h : LH), k2 l0 l2 l3 h = some q → JR d jM_205 2 [.ref l0, u1, .int l2, .int l3, u4] [] h (jo_v q)) {l0 : Nat} {l2 : Int32} {l3 : Int32} {u1 : Value} {u4 : Value} {h : LH} : F_Mod_goes_b143 R k2 l0 l2 l3 h = some q → JR d jM_205 143 [.ref l0, u1, .int l2, .int l3, u4] [] h (jo_v q) := by
 unfold F_Mod_goes_b143
 exact jr_aloadn 143 144 rfl rfl rfl
  (jr_gr 144 147 rfl jg_11_82_2 rfl (fun v1 =>
  jr_iloadn 147 148 rfl rfl rfl
  (jr_aa 148 149 rfl rfl (fun v2 =>
  jr_iconst 149 150 (3 : Int32) rfl jc_i_3 rfl
  (jr_ia 150 151 rfl rfl (fun v3 =>
  jr_istoren 151 152 [.ref l0, u1, .int l2, .int v3, u4] rfl rfl rfl rfl
  (jr_goto 152 2 rfl rfl
  ((hk2 _ _ _ _ _ _)))))))))
noncomputable def F_Mod_goes_b139 (R : Nat → Int32 → Int32 → LH → Option LH) (k2 : Nat → Int32 → Int32 → LH → Option LH) (l0 : Nat) (l2 : Int32) (l3 : Int32) (s0 : Nat) (s1 : Int32) (s2 : Int32) (h : LH) : Option LH :=
 jf_pi h s0 11 41 (s1 + s2) fun h1 =>
 F_Mod_goes_b143 R k2 l0 l2 l3 h1
set_option maxRecDepth 100000 in
theorem F_Mod_goes_b139_ok {d : Nat} {rd : Nat} {R : Nat → Int32 → Int32 → LH → Option LH} {q : LH} {k2 : Nat → Int32 → Int32 → LH → Option LH} (hd : 9 + rd ≤ d) (hRR : ∀ d : Nat, rd ≤ d → ∀ (r0 : Nat) (r1 : Int32) (r2 : Int32) (hh : LH) (qq : LH), R r0 r1 r2 hh = some qq → jl_Sem jt_T jt_Ms d 205 [.ref r0, .int r1, .int r2] hh (jo_v qq)) (hR : ∀ (r0 : Nat) (r1 : Int32) (r2 : Int32) (hh : LH) (qq : LH), R r0 r1 r2 hh = some qq → jl_Sem jt_T jt_Ms d 205 [.ref r0, .int r1, .int r2] hh (jo_v qq)) (hk2 : ∀ (l0 : Nat) (l2 : Int32) (l3 : Int32) (u1 : Value) (u4 : Value) (h : LH), k2 l0 l2 l3 h = some q → JR d jM_205 2 [.ref l0, u1, .int l2, .int l3, u4] [] h (jo_v q)) {l0 : Nat} {l2 : Int32} {l3 : Int32} {s0 : Nat} {s1 : Int32} {s2 : Int32} {u1 : Value} {u4 : Value} {h : LH} : F_Mod_goes_b139 R k2 l0 l2 l3 s0 s1 s2 h = some q → JR d jM_205 139 [.ref l0, u1, .int l2, .int l3, u4] [.int s2, .int s1, .ref s0] h (jo_v q) := by
 unfold F_Mod_goes_b139
 exact jr_iadd 139 140 rfl rfl
  (jr_pi 140 143 rfl jg_11_211_3 rfl (fun h1 =>
  (F_Mod_goes_b143_ok hd hRR hR hk2)))
noncomputable def F_Mod_goes_b120 (R : Nat → Int32 → Int32 → LH → Option LH) (k2 : Nat → Int32 → Int32 → LH → Option LH) (l0 : Nat) (l2 : Int32) (l3 : Int32) (l4 : Int32) (s0 : Nat) (s1 : Int32) (s2 : Int32) (h : LH) : Option LH :=
 jf_pi h s0 11 46 (s1 + s2) fun h1 =>
 jf_gi h1 l0 11 41 fun v2 =>
 if l4 = 0 then
 F_Mod_goes_b139 R k2 l0 l2 l3 l0 v2 (1 : Int32) h1
else
 F_Mod_goes_b139 R k2 l0 l2 l3 l0 v2 (0 : Int32) h1
set_option maxRecDepth 100000 in
theorem F_Mod_goes_b120_ok {d : Nat} {rd : Nat} {R : Nat → Int32 → Int32 → LH → Option LH} {q : LH} {k2 : Nat → Int32 → Int32 → LH → Option LH} (hd : 9 + rd ≤ d) (hRR : ∀ d : Nat, rd ≤ d → ∀ (r0 : Nat) (r1 : Int32) (r2 : Int32) (hh : LH) (qq : LH), R r0 r1 r2 hh = some qq → jl_Sem jt_T jt_Ms d 205 [.ref r0, .int r1, .int r2] hh (jo_v qq)) (hR : ∀ (r0 : Nat) (r1 : Int32) (r2 : Int32) (hh : LH) (qq : LH), R r0 r1 r2 hh = some qq → jl_Sem jt_T jt_Ms d 205 [.ref r0, .int r1, .int r2] hh (jo_v qq)) (hk2 : ∀ (l0 : Nat) (l2 : Int32) (l3 : Int32) (u1 : Value) (u4 : Value) (h : LH), k2 l0 l2 l3 h = some q → JR d jM_205 2 [.ref l0, u1, .int l2, .int l3, u4] [] h (jo_v q)) {l0 : Nat} {l2 : Int32} {l3 : Int32} {l4 : Int32} {s0 : Nat} {s1 : Int32} {s2 : Int32} {u1 : Value} {h : LH} : F_Mod_goes_b120 R k2 l0 l2 l3 l4 s0 s1 s2 h = some q → JR d jM_205 120 [.ref l0, u1, .int l2, .int l3, .int l4] [.int s2, .int s1, .ref s0] h (jo_v q) := by
 unfold F_Mod_goes_b120
 exact jr_iadd 120 121 rfl rfl
  (jr_pi 121 124 rfl jg_11_332_3 rfl (fun h1 =>
  jr_aloadn 124 125 rfl rfl rfl
  (jr_dup 125 126 rfl rfl rfl
  (jr_gi 126 129 rfl jg_11_211_1 rfl (fun v2 =>
  jr_iload 129 131 rfl rfl rfl
  (jr_if_eq 131 138 134 rfl rfl rfl
  (jr_iconst 138 139 (1 : Int32) rfl jc_i_1 rfl
  ((F_Mod_goes_b139_ok hd hRR hR hk2)))
  (jr_iconst 134 135 (0 : Int32) rfl jc_i_0 rfl
  (jr_goto 135 139 rfl rfl
  ((F_Mod_goes_b139_ok hd hRR hR hk2))))))))))
noncomputable def F_Mod_goes_b86 (R : Nat → Int32 → Int32 → LH → Option LH) (k2 : Nat → Int32 → Int32 → LH → Option LH) (l0 : Nat) (l2 : Int32) (l3 : Int32) (h : LH) : Option LH :=
 F_Mod_goes_b143 R k2 l0 l2 l3 h
set_option maxRecDepth 100000 in
theorem F_Mod_goes_b86_ok {d : Nat} {rd : Nat} {R : Nat → Int32 → Int32 → LH → Option LH} {q : LH} {k2 : Nat → Int32 → Int32 → LH → Option LH} (hd : 9 + rd ≤ d) (hRR : ∀ d : Nat, rd ≤ d → ∀ (r0 : Nat) (r1 : Int32) (r2 : Int32) (hh : LH) (qq : LH), R r0 r1 r2 hh = some qq → jl_Sem jt_T jt_Ms d 205 [.ref r0, .int r1, .int r2] hh (jo_v qq)) (hR : ∀ (r0 : Nat) (r1 : Int32) (r2 : Int32) (hh : LH) (qq : LH), R r0 r1 r2 hh = some qq → jl_Sem jt_T jt_Ms d 205 [.ref r0, .int r1, .int r2] hh (jo_v qq)) (hk2 : ∀ (l0 : Nat) (l2 : Int32) (l3 : Int32) (u1 : Value) (u4 : Value) (h : LH), k2 l0 l2 l3 h = some q → JR d jM_205 2 [.ref l0, u1, .int l2, .int l3, u4] [] h (jo_v q)) {l0 : Nat} {l2 : Int32} {l3 : Int32} {u1 : Value} {u4 : Value} {h : LH} : F_Mod_goes_b86 R k2 l0 l2 l3 h = some q → JR d jM_205 86 [.ref l0, u1, .int l2, .int l3, u4] [] h (jo_v q) := by
 unfold F_Mod_goes_b86
 exact jr_goto 86 143 rfl rfl
  ((F_Mod_goes_b143_ok hd hRR hR hk2))
noncomputable def F_Mod_goes_c42 (R : Nat → Int32 → Int32 → LH → Option LH) (k2 : Nat → Int32 → Int32 → LH → Option LH) (k42 : Nat → Int32 → Int32 → Int32 → LH → Option LH) (l0 : Nat) (l2 : Int32) (l3 : Int32) (l4 : Int32) (h : LH) : Option LH :=
 jf_gr h l0 11 33 fun v1 =>
 jf_aa h v1 l3 fun v2 =>
 jf_ia h v2 (1 : Int32) fun v3 =>
 if l4 < v3 then
 jf_gi h l0 11 45 fun v4 =>
 if v4 < (200 : Int32) then
 jf_gr h l0 11 33 fun v5 =>
 jf_aa h v5 l3 fun v6 =>
 jf_ia h v6 (3 : Int32) fun v7 =>
 jf_kd h l0 11
 ((R l0 (l3 + (1 : Int32)) v7 h).bind fun h8 =>
 k42 l0 l2 l3 (l4 + (1 : Int32)) h8)
else
 F_Mod_goes_b86 R k2 l0 l2 l3 h
else
 F_Mod_goes_b86 R k2 l0 l2 l3 h
set_option maxRecDepth 100000 in
theorem F_Mod_goes_c42_ok {d : Nat} {rd : Nat} {R : Nat → Int32 → Int32 → LH → Option LH} {q : LH} {k2 : Nat → Int32 → Int32 → LH → Option LH} {k42 : Nat → Int32 → Int32 → Int32 → LH → Option LH} (hd : 9 + rd ≤ d) (hRR : ∀ d : Nat, rd ≤ d → ∀ (r0 : Nat) (r1 : Int32) (r2 : Int32) (hh : LH) (qq : LH), R r0 r1 r2 hh = some qq → jl_Sem jt_T jt_Ms d 205 [.ref r0, .int r1, .int r2] hh (jo_v qq)) (hR : ∀ (r0 : Nat) (r1 : Int32) (r2 : Int32) (hh : LH) (qq : LH), R r0 r1 r2 hh = some qq → jl_Sem jt_T jt_Ms d 205 [.ref r0, .int r1, .int r2] hh (jo_v qq)) (hk2 : ∀ (l0 : Nat) (l2 : Int32) (l3 : Int32) (u1 : Value) (u4 : Value) (h : LH), k2 l0 l2 l3 h = some q → JR d jM_205 2 [.ref l0, u1, .int l2, .int l3, u4] [] h (jo_v q)) (hk42 : ∀ (l0 : Nat) (l2 : Int32) (l3 : Int32) (l4 : Int32) (u1 : Value) (h : LH), k42 l0 l2 l3 l4 h = some q → JR d jM_205 42 [.ref l0, u1, .int l2, .int l3, .int l4] [] h (jo_v q)) {l0 : Nat} {l2 : Int32} {l3 : Int32} {l4 : Int32} {u1 : Value} {h : LH} : F_Mod_goes_c42 R k2 k42 l0 l2 l3 l4 h = some q → JR d jM_205 42 [.ref l0, u1, .int l2, .int l3, .int l4] [] h (jo_v q) := by
 unfold F_Mod_goes_c42
 exact jr_iload 42 44 rfl rfl rfl
  (jr_aloadn 44 45 rfl rfl rfl
  (jr_gr 45 48 rfl jg_11_82_2 rfl (fun v1 =>
  jr_iloadn 48 49 rfl rfl rfl
  (jr_aa 49 50 rfl rfl (fun v2 =>
  jr_iconst 50 51 (1 : Int32) rfl jc_i_1 rfl
  (jr_ia 51 52 rfl rfl (fun v3 =>
  jr_icmp_ge 52 86 55 rfl rfl rfl
  ((F_Mod_goes_b86_ok hd hRR hR hk2))
  (jr_aloadn 55 56 rfl rfl rfl
  (jr_gi 56 59 rfl jg_11_322_1 rfl (fun v4 =>
  jr_sipush 59 62 (200 : Int32) rfl jc_s_200 rfl
  (jr_icmp_ge 62 86 65 rfl rfl rfl
  ((F_Mod_goes_b86_ok hd hRR hR hk2))
  (jr_aloadn 65 66 rfl rfl rfl
  (jr_iloadn 66 67 rfl rfl rfl
  (jr_iconst 67 68 (1 : Int32) rfl jc_i_1 rfl
  (jr_iadd 68 69 rfl rfl
  (jr_aloadn 69 70 rfl rfl rfl
  (jr_gr 70 73 rfl jg_11_82_2 rfl (fun v5 =>
  jr_iloadn 73 74 rfl rfl rfl
  (jr_aa 74 75 rfl rfl (fun v6 =>
  jr_iconst 75 76 (3 : Int32) rfl jc_i_3 rfl
  (jr_ia 76 77 rfl rfl (fun v7 =>
  jr_cVv 77 80 [] rfl rfl rfl rfl rfl rfl rfl rfl (as := [.int (l3 + (1 : Int32)), .int v7]) (fun hq => hR _ _ _ _ _ hq) (fun h8 =>
  jr_iinc 80 83 [.ref l0, u1, .int l2, .int l3, .int (l4 + (1 : Int32))] rfl jc_i_1 rfl rfl rfl rfl
  (jr_goto 83 42 rfl rfl
  ((hk42 _ _ _ _ _ _))))))))))))))))))))))))))
noncomputable def F_Mod_goes_l42 (R : Nat → Int32 → Int32 → LH → Option LH) (k2 : Nat → Int32 → Int32 → LH → Option LH) : Nat → Nat → Int32 → Int32 → Int32 → LH → Option LH
 | 0, _, _, _, _, _ => none
 | n + 1, l0, l2, l3, l4, h => F_Mod_goes_c42 R k2 (F_Mod_goes_l42 R k2 n) l0 l2 l3 l4 h
theorem F_Mod_goes_l42_ok {d : Nat} {rd : Nat} {R : Nat → Int32 → Int32 → LH → Option LH} {q : LH} {k2 : Nat → Int32 → Int32 → LH → Option LH} (hd : 9 + rd ≤ d) (hRR : ∀ d : Nat, rd ≤ d → ∀ (r0 : Nat) (r1 : Int32) (r2 : Int32) (hh : LH) (qq : LH), R r0 r1 r2 hh = some qq → jl_Sem jt_T jt_Ms d 205 [.ref r0, .int r1, .int r2] hh (jo_v qq)) (hR : ∀ (r0 : Nat) (r1 : Int32) (r2 : Int32) (hh : LH) (qq : LH), R r0 r1 r2 hh = some qq → jl_Sem jt_T jt_Ms d 205 [.ref r0, .int r1, .int r2] hh (jo_v qq)) (hk2 : ∀ (l0 : Nat) (l2 : Int32) (l3 : Int32) (u1 : Value) (u4 : Value) (h : LH), k2 l0 l2 l3 h = some q → JR d jM_205 2 [.ref l0, u1, .int l2, .int l3, u4] [] h (jo_v q)) : ∀ (n : Nat) (l0 : Nat) (l2 : Int32) (l3 : Int32) (l4 : Int32) (u1 : Value) (h : LH), F_Mod_goes_l42 R k2 n l0 l2 l3 l4 h = some q → JR d jM_205 42 [.ref l0, u1, .int l2, .int l3, .int l4] [] h (jo_v q)
 | 0 => fun _ _ _ _ _ _ hq => nomatch (show (none : Option LH) = some q from hq)
 | n + 1 => fun _ _ _ _ _ _ hq => F_Mod_goes_c42_ok hd hRR hR hk2 (F_Mod_goes_l42_ok hd hRR hR hk2 n) hq
noncomputable def F_Mod_goes_c2 (R : Nat → Int32 → Int32 → LH → Option LH) (k2 : Nat → Int32 → Int32 → LH → Option LH) (l0 : Nat) (l2 : Int32) (l3 : Int32) (h : LH) : Option LH :=
 if l3 < l2 then
 jf_gi h l0 11 45 fun v1 =>
 if v1 < (200 : Int32) then
 jf_gi h l0 11 45 fun v2 =>
 jf_pi h l0 11 45 (v2 + (1 : Int32)) fun h3 =>
 jf_gr h3 l0 11 33 fun v4 =>
 jf_aa h3 v4 l3 fun v5 =>
 jf_ia h3 v5 (0 : Int32) fun v6 =>
 if v6 = (3 : Int32) then
 F_Mod_goes_l42 R k2 jF l0 l2 l3 (0 : Int32) h3
else
 jf_gr h3 l0 11 35 fun v7 =>
 jf_gr h3 l0 11 33 fun v8 =>
 jf_aa h3 v8 l3 fun v9 =>
 jf_kd h3 l0 11
 (jf_bi (F_Mod_does l0 v7 v9 h3) fun v10 h11 =>
 jf_gi h11 l0 11 46 fun v12 =>
 if v10 = 0 then
 F_Mod_goes_b120 R k2 l0 l2 l3 v10 l0 v12 (0 : Int32) h11
else
 F_Mod_goes_b120 R k2 l0 l2 l3 v10 l0 v12 (1 : Int32) h11)
else
 F_Mod_goes_b155 R  h
else
 F_Mod_goes_b155 R  h
set_option maxRecDepth 100000 in
theorem F_Mod_goes_c2_ok {d : Nat} {rd : Nat} {R : Nat → Int32 → Int32 → LH → Option LH} {q : LH} {k2 : Nat → Int32 → Int32 → LH → Option LH} (hd : 9 + rd ≤ d) (hRR : ∀ d : Nat, rd ≤ d → ∀ (r0 : Nat) (r1 : Int32) (r2 : Int32) (hh : LH) (qq : LH), R r0 r1 r2 hh = some qq → jl_Sem jt_T jt_Ms d 205 [.ref r0, .int r1, .int r2] hh (jo_v qq)) (hR : ∀ (r0 : Nat) (r1 : Int32) (r2 : Int32) (hh : LH) (qq : LH), R r0 r1 r2 hh = some qq → jl_Sem jt_T jt_Ms d 205 [.ref r0, .int r1, .int r2] hh (jo_v qq)) (hk2 : ∀ (l0 : Nat) (l2 : Int32) (l3 : Int32) (u1 : Value) (u4 : Value) (h : LH), k2 l0 l2 l3 h = some q → JR d jM_205 2 [.ref l0, u1, .int l2, .int l3, u4] [] h (jo_v q)) {l0 : Nat} {l2 : Int32} {l3 : Int32} {u1 : Value} {u4 : Value} {h : LH} : F_Mod_goes_c2 R k2 l0 l2 l3 h = some q → JR d jM_205 2 [.ref l0, u1, .int l2, .int l3, u4] [] h (jo_v q) := by
 unfold F_Mod_goes_c2
 exact jr_iloadn 2 3 rfl rfl rfl
  (jr_iloadn 3 4 rfl rfl rfl
  (jr_icmp_ge 4 155 7 rfl rfl rfl
  ((F_Mod_goes_b155_ok hd hRR hR ))
  (jr_aloadn 7 8 rfl rfl rfl
  (jr_gi 8 11 rfl jg_11_322_1 rfl (fun v1 =>
  jr_sipush 11 14 (200 : Int32) rfl jc_s_200 rfl
  (jr_icmp_ge 14 155 17 rfl rfl rfl
  ((F_Mod_goes_b155_ok hd hRR hR ))
  (jr_aloadn 17 18 rfl rfl rfl
  (jr_dup 18 19 rfl rfl rfl
  (jr_gi 19 22 rfl jg_11_322_1 rfl (fun v2 =>
  jr_iconst 22 23 (1 : Int32) rfl jc_i_1 rfl
  (jr_iadd 23 24 rfl rfl
  (jr_pi 24 27 rfl jg_11_322_3 rfl (fun h3 =>
  jr_aloadn 27 28 rfl rfl rfl
  (jr_gr 28 31 rfl jg_11_82_2 rfl (fun v4 =>
  jr_iloadn 31 32 rfl rfl rfl
  (jr_aa 32 33 rfl rfl (fun v5 =>
  jr_iconst 33 34 (0 : Int32) rfl jc_i_0 rfl
  (jr_ia 34 35 rfl rfl (fun v6 =>
  jr_iconst 35 36 (3 : Int32) rfl jc_i_3 rfl
  (jr_icmp_ne 36 89 39 rfl rfl rfl
  (jr_aloadn 89 90 rfl rfl rfl
  (jr_aloadn 90 91 rfl rfl rfl
  (jr_gr 91 94 rfl jg_11_85_2 rfl (fun v7 =>
  jr_aloadn 94 95 rfl rfl rfl
  (jr_gr 95 98 rfl jg_11_82_2 rfl (fun v8 =>
  jr_iloadn 98 99 rfl rfl rfl
  (jr_aa 99 100 rfl rfl (fun v9 =>
  jr_cVi 100 103 [] rfl rfl rfl rfl rfl rfl rfl rfl (as := [.ref v7, .ref v9]) (F_Mod_does_ok (Nat.le_trans (by decide : 9 ≤ 9) (Nat.le_trans (Nat.le_add_right _ rd) hd))) (fun v10 h11 =>
  jr_istore 103 105 [.ref l0, u1, .int l2, .int l3, .int v10] rfl rfl rfl rfl
  (jr_aloadn 105 106 rfl rfl rfl
  (jr_dup 106 107 rfl rfl rfl
  (jr_gi 107 110 rfl jg_11_332_1 rfl (fun v12 =>
  jr_iload 110 112 rfl rfl rfl
  (jr_if_eq 112 119 115 rfl rfl rfl
  (jr_iconst 119 120 (0 : Int32) rfl jc_i_0 rfl
  ((F_Mod_goes_b120_ok hd hRR hR hk2)))
  (jr_iconst 115 116 (1 : Int32) rfl jc_i_1 rfl
  (jr_goto 116 120 rfl rfl
  ((F_Mod_goes_b120_ok hd hRR hR hk2))))))))))))))))))
  (jr_iconst 39 40 (0 : Int32) rfl jc_i_0 rfl
  (jr_istore 40 42 [.ref l0, u1, .int l2, .int l3, .int (0 : Int32)] rfl rfl rfl rfl
  ((F_Mod_goes_l42_ok hd hRR hR hk2 jF _ _ _ _ _ _))))))))))))))))))))))))
noncomputable def F_Mod_goes_l2 (R : Nat → Int32 → Int32 → LH → Option LH) : Nat → Nat → Int32 → Int32 → LH → Option LH
 | 0, _, _, _, _ => none
 | n + 1, l0, l2, l3, h => F_Mod_goes_c2 R (F_Mod_goes_l2 R n) l0 l2 l3 h
theorem F_Mod_goes_l2_ok {d : Nat} {rd : Nat} {R : Nat → Int32 → Int32 → LH → Option LH} {q : LH} (hd : 9 + rd ≤ d) (hRR : ∀ d : Nat, rd ≤ d → ∀ (r0 : Nat) (r1 : Int32) (r2 : Int32) (hh : LH) (qq : LH), R r0 r1 r2 hh = some qq → jl_Sem jt_T jt_Ms d 205 [.ref r0, .int r1, .int r2] hh (jo_v qq)) (hR : ∀ (r0 : Nat) (r1 : Int32) (r2 : Int32) (hh : LH) (qq : LH), R r0 r1 r2 hh = some qq → jl_Sem jt_T jt_Ms d 205 [.ref r0, .int r1, .int r2] hh (jo_v qq)) : ∀ (n : Nat) (l0 : Nat) (l2 : Int32) (l3 : Int32) (u1 : Value) (u4 : Value) (h : LH), F_Mod_goes_l2 R n l0 l2 l3 h = some q → JR d jM_205 2 [.ref l0, u1, .int l2, .int l3, u4] [] h (jo_v q)
 | 0 => fun _ _ _ _ _ _ hq => nomatch (show (none : Option LH) = some q from hq)
 | n + 1 => fun _ _ _ _ _ _ hq => F_Mod_goes_c2_ok hd hRR hR (F_Mod_goes_l2_ok hd hRR hR n) hq
noncomputable def E_Mod_goes (R : Nat → Int32 → Int32 → LH → Option LH) (l0 : Nat) (l1 : Int32) (l2 : Int32) (h : LH) : Option LH :=
 F_Mod_goes_l2 R  jF l0 l2 l1 h
set_option maxRecDepth 100000 in
theorem E_Mod_goes_ok {d : Nat} {rd : Nat} {R : Nat → Int32 → Int32 → LH → Option LH} (hd : 10 + rd ≤ d) (hRR : ∀ d : Nat, rd ≤ d → ∀ (r0 : Nat) (r1 : Int32) (r2 : Int32) (hh : LH) (qq : LH), R r0 r1 r2 hh = some qq → jl_Sem jt_T jt_Ms d 205 [.ref r0, .int r1, .int r2] hh (jo_v qq)) {l0 : Nat} {l1 : Int32} {l2 : Int32} {h : LH} {q : LH} : E_Mod_goes R l0 l1 l2 h = some q → jl_Sem jt_T jt_Ms d 205 [.ref l0, .int l1, .int l2] h (jo_v q) := by
 unfold E_Mod_goes
 exact jr_enter (D := 9 + rd) (Nat.le_trans (Nat.le_of_eq (by omega)) hd) jM_205_at rfl rfl rfl (fun d hd =>
  have hR := hRR d (Nat.le_trans (Nat.le_add_left rd _) hd)
  jr_iloadn 0 1 rfl rfl rfl
  (jr_istoren 1 2 [.ref l0, .int l1, .int l2, .int l1, .retAddr 0] rfl rfl rfl rfl
  ((F_Mod_goes_l2_ok hd hRR hR  jF _ _ _ _ _ _))))
noncomputable def F_Mod_goes : Nat → Nat → Int32 → Int32 → LH → Option LH
 | 0, _, _, _, _ => none
 | n + 1, l0, l1, l2, h => E_Mod_goes (F_Mod_goes n) l0 l1 l2 h
theorem F_Mod_goes_all : ∀ (n d : Nat), 10 * n ≤ d → ∀ (l0 : Nat) (l1 : Int32) (l2 : Int32) (h : LH) (q : LH), F_Mod_goes n l0 l1 l2 h = some q → jl_Sem jt_T jt_Ms d 205 [.ref l0, .int l1, .int l2] h (jo_v q)
 | 0, _, _ => fun _ _ _ _ _ hq => nomatch (show (none : Option LH) = some _ from hq)
 | n + 1, d, hd => fun _ _ _ _ _ hq => E_Mod_goes_ok (rd := 10 * n) (Nat.le_trans (Nat.le_of_eq (by omega)) hd) (F_Mod_goes_all n) hq
theorem F_Mod_goes_ok (n : Nat) {d : Nat} (hd : 10 * n ≤ d) {l0 : Nat} {l1 : Int32} {l2 : Int32} {h : LH} {q : LH} : F_Mod_goes n l0 l1 l2 h = some q → jl_Sem jt_T jt_Ms d 205 [.ref l0, .int l1, .int l2] h (jo_v q) := F_Mod_goes_all n d hd _ _ _ _ _
noncomputable def jM_201 : JMeth := (11, false, 1, jk_201, [], 2)
set_option maxRecDepth 100000 in
theorem jM_201_at : jt_Ms 201 = some jM_201 := rfl
noncomputable def F_Mod_work_b101 (l0 : Nat) (h : LH) : Option (Int32 × LH) :=
 jf_gi h l0 11 5 fun v1 =>
 if v1 = 0 then
 jf_pi h l0 11 3 (-1 : Int32) fun h2 =>
 jf_gr h2 l0 11 35 fun v3 =>
 jf_gr h2 l0 11 37 fun v4 =>
 jf_gi h2 l0 11 40 fun v5 =>
 jf_aa h2 v4 v5 fun v6 =>
 (F_Mod_copies v3 v6 h2).bind fun h7 =>
 jf_gi h7 l0 11 40 fun v8 =>
 jf_pi h7 l0 11 40 (v8 + (1 : Int32)) fun h9 =>
 jf_pi h9 l0 11 45 (0 : Int32) fun h10 =>
 jf_pi h10 l0 11 46 (0 : Int32) fun h11 =>
 jf_pi h11 l0 11 41 (0 : Int32) fun h12 =>
 jf_gi h12 l0 11 34 fun v13 =>
 jf_kd h12 l0 11
 ((F_Mod_goes jE l0 (0 : Int32) v13 h12).bind fun h14 =>
 jf_gi h14 l0 11 46 fun v15 =>
 some (v15, h14))
else
 jf_kd h l0 11
 (jf_bi (F_Mod_ends l0 h) fun v16 h17 =>
 some (v16, h17))
set_option maxRecDepth 100000 in
theorem F_Mod_work_b101_ok {d : Nat} {q : (Int32 × LH)} (hd : 200 ≤ d) {l0 : Nat} {u1 : Value} {h : LH} : F_Mod_work_b101 l0 h = some q → JR d jM_201 101 [.ref l0, u1] [] h (jo_i q) := by
 unfold F_Mod_work_b101
 exact jr_aloadn 101 102 rfl rfl rfl
  (jr_gi 102 105 rfl jg_11_125_1 rfl (fun v1 =>
  jr_if_eq 105 113 108 rfl rfl rfl
  (jr_aloadn 113 114 rfl rfl rfl
  (jr_iconst 114 115 (-1 : Int32) rfl jc_i_m1 rfl
  (jr_pi 115 118 rfl jg_11_9_3 rfl (fun h2 =>
  jr_aloadn 118 119 rfl rfl rfl
  (jr_gr 119 122 rfl jg_11_85_2 rfl (fun v3 =>
  jr_aloadn 122 123 rfl rfl rfl
  (jr_gr 123 126 rfl jg_11_91_2 rfl (fun v4 =>
  jr_aloadn 126 127 rfl rfl rfl
  (jr_gi 127 130 rfl jg_11_208_1 rfl (fun v5 =>
  jr_aa 130 131 rfl rfl (fun v6 =>
  jr_cSv 131 134 [] rfl rfl rfl rfl rfl rfl rfl (as := [.ref v3, .ref v6]) (F_Mod_copies_ok (Nat.le_trans (by decide : 1 ≤ 200) hd)) (fun h7 =>
  jr_aloadn 134 135 rfl rfl rfl
  (jr_dup 135 136 rfl rfl rfl
  (jr_gi 136 139 rfl jg_11_208_1 rfl (fun v8 =>
  jr_iconst 139 140 (1 : Int32) rfl jc_i_1 rfl
  (jr_iadd 140 141 rfl rfl
  (jr_pi 141 144 rfl jg_11_208_3 rfl (fun h9 =>
  jr_aloadn 144 145 rfl rfl rfl
  (jr_iconst 145 146 (0 : Int32) rfl jc_i_0 rfl
  (jr_pi 146 149 rfl jg_11_322_3 rfl (fun h10 =>
  jr_aloadn 149 150 rfl rfl rfl
  (jr_iconst 150 151 (0 : Int32) rfl jc_i_0 rfl
  (jr_pi 151 154 rfl jg_11_332_3 rfl (fun h11 =>
  jr_aloadn 154 155 rfl rfl rfl
  (jr_iconst 155 156 (0 : Int32) rfl jc_i_0 rfl
  (jr_pi 156 159 rfl jg_11_211_3 rfl (fun h12 =>
  jr_aloadn 159 160 rfl rfl rfl
  (jr_iconst 160 161 (0 : Int32) rfl jc_i_0 rfl
  (jr_aloadn 161 162 rfl rfl rfl
  (jr_gi 162 165 rfl jg_11_258_1 rfl (fun v13 =>
  jr_cVv 165 168 [] rfl rfl rfl rfl rfl rfl rfl rfl (as := [.int (0 : Int32), .int v13]) (F_Mod_goes_ok jE (Nat.le_trans (by decide : 10 * jE ≤ 200) hd)) (fun h14 =>
  jr_aloadn 168 169 rfl rfl rfl
  (jr_gi 169 172 rfl jg_11_332_1 rfl (fun v15 =>
  jr_ri 172 rfl rfl))))))))))))))))))))))))))))))))))
  (jr_aloadn 108 109 rfl rfl rfl
  (jr_cVi 109 112 [] rfl rfl rfl rfl rfl rfl rfl rfl (as := []) (F_Mod_ends_ok (Nat.le_trans (by decide : 1 ≤ 200) hd)) (fun v16 h17 =>
  jr_ri 112 rfl rfl)))))
noncomputable def F_Mod_work_c72 (k72 : Nat → LH → Option (Int32 × LH)) (l0 : Nat) (h : LH) : Option (Int32 × LH) :=
 jf_gi h l0 11 5 fun v1 =>
 if v1 = 0 then
 jf_gi h l0 11 4 fun v2 =>
 jf_gi h l0 11 2 fun v3 =>
 if v2 < v3 then
 jf_kd h l0 11
 ((F_Mod_readsStep jE l0 h).bind fun h4 =>
 jf_kd h4 l0 11
 ((F_Mod_blanks l0 h4).bind fun h5 =>
 k72 l0 h5))
else
 F_Mod_work_b101  l0 h
else
 F_Mod_work_b101  l0 h
set_option maxRecDepth 100000 in
theorem F_Mod_work_c72_ok {d : Nat} {q : (Int32 × LH)} {k72 : Nat → LH → Option (Int32 × LH)} (hd : 200 ≤ d) (hk72 : ∀ (l0 : Nat) (u1 : Value) (h : LH), k72 l0 h = some q → JR d jM_201 72 [.ref l0, u1] [] h (jo_i q)) {l0 : Nat} {u1 : Value} {h : LH} : F_Mod_work_c72 k72 l0 h = some q → JR d jM_201 72 [.ref l0, u1] [] h (jo_i q) := by
 unfold F_Mod_work_c72
 exact jr_aloadn 72 73 rfl rfl rfl
  (jr_gi 73 76 rfl jg_11_125_1 rfl (fun v1 =>
  jr_if_ne 76 101 79 rfl rfl rfl
  ((F_Mod_work_b101_ok hd ))
  (jr_aloadn 79 80 rfl rfl rfl
  (jr_gi 80 83 rfl jg_11_118_1 rfl (fun v2 =>
  jr_aloadn 83 84 rfl rfl rfl
  (jr_gi 84 87 rfl jg_11_115_1 rfl (fun v3 =>
  jr_icmp_ge 87 101 90 rfl rfl rfl
  ((F_Mod_work_b101_ok hd ))
  (jr_aloadn 90 91 rfl rfl rfl
  (jr_cVv 91 94 [] rfl rfl rfl rfl rfl rfl rfl rfl (as := []) (F_Mod_readsStep_ok jE (Nat.le_trans (by decide : 6 * jE ≤ 200) hd)) (fun h4 =>
  jr_aloadn 94 95 rfl rfl rfl
  (jr_cVv 95 98 [] rfl rfl rfl rfl rfl rfl rfl rfl (as := []) (F_Mod_blanks_ok (Nat.le_trans (by decide : 2 ≤ 200) hd)) (fun h5 =>
  jr_goto 98 72 rfl rfl
  ((hk72 _ _ _))))))))))))))
noncomputable def F_Mod_work_l72 : Nat → Nat → LH → Option (Int32 × LH)
 | 0, _, _ => none
 | n + 1, l0, h => F_Mod_work_c72 (F_Mod_work_l72 n) l0 h
theorem F_Mod_work_l72_ok {d : Nat} {q : (Int32 × LH)} (hd : 200 ≤ d) : ∀ (n : Nat) (l0 : Nat) (u1 : Value) (h : LH), F_Mod_work_l72 n l0 h = some q → JR d jM_201 72 [.ref l0, u1] [] h (jo_i q)
 | 0 => fun _ _ _ hq => nomatch (show (none : Option (Int32 × LH)) = some q from hq)
 | n + 1 => fun _ _ _ hq => F_Mod_work_c72_ok hd (F_Mod_work_l72_ok hd n) hq
noncomputable def F_Mod_work_b30 (l0 : Nat) (l1 : Int32) (s0 : Nat) (s1 : Int32) (h : LH) : Option (Int32 × LH) :=
 jf_kd h s0 11
 (jf_bi (F_Mod_bad s0 s1 (1 : Int32) (1 : Int32) h) fun v1 h2 =>
 if v1 = 0 then
 jf_gi h2 l0 11 40 fun v3 =>
 if v3 = (16 : Int32) then
 jf_pi h2 l0 11 1 (0 : Int32) fun h6 =>
 jf_pi h6 l0 11 3 (-1 : Int32) fun h7 =>
 some ((-20 : Int32), h7)
else
 jf_kd h2 l0 11
 ((F_Mod_starts l0 l1 h2).bind fun h4 =>
 jf_pi h4 l0 11 34 (0 : Int32) fun h5 =>
 F_Mod_work_l72  jF l0 h5)
else
 some ((0 : Int32), h2))
set_option maxRecDepth 100000 in
theorem F_Mod_work_b30_ok {d : Nat} {q : (Int32 × LH)} (hd : 200 ≤ d) {l0 : Nat} {l1 : Int32} {s0 : Nat} {s1 : Int32} {h : LH} : F_Mod_work_b30 l0 l1 s0 s1 h = some q → JR d jM_201 30 [.ref l0, .int l1] [.int s1, .ref s0] h (jo_i q) := by
 unfold F_Mod_work_b30
 exact jr_iconst 30 31 (1 : Int32) rfl jc_i_1 rfl
  (jr_iconst 31 32 (1 : Int32) rfl jc_i_1 rfl
  (jr_cVi 32 35 [] rfl rfl rfl rfl rfl rfl rfl rfl (as := [.int s1, .int (1 : Int32), .int (1 : Int32)]) (F_Mod_bad_ok (Nat.le_trans (by decide : 1 ≤ 200) hd)) (fun v1 h2 =>
  jr_if_eq 35 40 38 rfl rfl rfl
  (jr_aloadn 40 41 rfl rfl rfl
  (jr_gi 41 44 rfl jg_11_208_1 rfl (fun v3 =>
  jr_bipush 44 46 (16 : Int32) rfl jc_b_16 rfl
  (jr_icmp_ne 46 62 49 rfl rfl rfl
  (jr_aloadn 62 63 rfl rfl rfl
  (jr_iloadn 63 64 rfl rfl rfl
  (jr_cVv 64 67 [] rfl rfl rfl rfl rfl rfl rfl rfl (as := [.int l1]) (F_Mod_starts_ok (Nat.le_trans (by decide : 3 ≤ 200) hd)) (fun h4 =>
  jr_aloadn 67 68 rfl rfl rfl
  (jr_iconst 68 69 (0 : Int32) rfl jc_i_0 rfl
  (jr_pi 69 72 rfl jg_11_258_3 rfl (fun h5 =>
  (F_Mod_work_l72_ok hd  jF _ _ _))))))))
  (jr_aloadn 49 50 rfl rfl rfl
  (jr_iconst 50 51 (0 : Int32) rfl jc_i_0 rfl
  (jr_pi 51 54 rfl jg_11_112_3 rfl (fun h6 =>
  jr_aloadn 54 55 rfl rfl rfl
  (jr_iconst 55 56 (-1 : Int32) rfl jc_i_m1 rfl
  (jr_pi 56 59 rfl jg_11_9_3 rfl (fun h7 =>
  jr_bipush 59 61 (-20 : Int32) rfl jc_b_m20 rfl
  (jr_ri 61 rfl rfl))))))))))))
  (jr_iconst 38 39 (0 : Int32) rfl jc_i_0 rfl
  (jr_ri 39 rfl rfl)))))
noncomputable def F_Mod_work_b25 (l0 : Nat) (l1 : Int32) (s0 : Nat) (h : LH) : Option (Int32 × LH) :=
 F_Mod_work_b30  l0 l1 s0 (1 : Int32) h
set_option maxRecDepth 100000 in
theorem F_Mod_work_b25_ok {d : Nat} {q : (Int32 × LH)} (hd : 200 ≤ d) {l0 : Nat} {l1 : Int32} {s0 : Nat} {h : LH} : F_Mod_work_b25 l0 l1 s0 h = some q → JR d jM_201 25 [.ref l0, .int l1] [.ref s0] h (jo_i q) := by
 unfold F_Mod_work_b25
 exact jr_iconst 25 26 (1 : Int32) rfl jc_i_1 rfl
  (jr_goto 26 30 rfl rfl
  ((F_Mod_work_b30_ok hd )))
noncomputable def F_Mod_work (l0 : Nat) (l1 : Int32) (h : LH) : Option (Int32 × LH) :=
 jf_pi h l0 11 0 (0 : Int32) fun h1 =>
 jf_gi h1 l0 11 1 fun v2 =>
 jf_bi (F_Mod_in l1 (0 : Int32) v2 h1) fun v3 h4 =>
 if v3 = 0 then
 F_Mod_work_b25  l0 l1 l0 h4
else
 if (150 : Int32) < l1 then
 F_Mod_work_b25  l0 l1 l0 h4
else
 F_Mod_work_b30  l0 l1 l0 (0 : Int32) h4
set_option maxRecDepth 100000 in
theorem F_Mod_work_ok {d : Nat} (hd : 201 ≤ d) {l0 : Nat} {l1 : Int32} {h : LH} {q : (Int32 × LH)} : F_Mod_work l0 l1 h = some q → jl_Sem jt_T jt_Ms d 201 [.ref l0, .int l1] h (jo_i q) := by
 unfold F_Mod_work
 exact jr_enter (D := 200) hd jM_201_at rfl rfl rfl (fun d hd =>
  jr_aloadn 0 1 rfl rfl rfl
  (jr_iconst 1 2 (0 : Int32) rfl jc_i_0 rfl
  (jr_pi 2 5 rfl jg_11_109_3 rfl (fun h1 =>
  jr_aloadn 5 6 rfl rfl rfl
  (jr_iloadn 6 7 rfl rfl rfl
  (jr_iconst 7 8 (0 : Int32) rfl jc_i_0 rfl
  (jr_aloadn 8 9 rfl rfl rfl
  (jr_gi 9 12 rfl jg_11_112_1 rfl (fun v2 =>
  jr_cSi 12 15 [.ref l0] rfl rfl rfl rfl rfl rfl rfl (as := [.int l1, .int (0 : Int32), .int v2]) (F_Mod_in_ok (Nat.le_trans (by decide : 1 ≤ 200) hd)) (fun v3 h4 =>
  jr_if_eq 15 25 18 rfl rfl rfl
  ((F_Mod_work_b25_ok hd ))
  (jr_iloadn 18 19 rfl rfl rfl
  (jr_sipush 19 22 (150 : Int32) rfl jc_s_150 rfl
  (jr_icmp_le 22 29 25 rfl rfl rfl
  (jr_iconst 29 30 (0 : Int32) rfl jc_i_0 rfl
  ((F_Mod_work_b30_ok hd )))
  ((F_Mod_work_b25_ok hd )))))))))))))))
noncomputable def jM_224 : JMeth := (11, false, 1, jk_224, [], 1)
set_option maxRecDepth 100000 in
theorem jM_224_at : jt_Ms 224 = some jM_224 := rfl
noncomputable def F_Mod_undo (l0 : Nat) (h : LH) : Option (Int32 × LH) :=
 jf_pi h l0 11 0 (0 : Int32) fun h1 =>
 jf_gi h1 l0 11 40 fun v2 =>
 if v2 = 0 then
 some ((-1 : Int32), h1)
else
 jf_gi h1 l0 11 40 fun v3 =>
 jf_pi h1 l0 11 40 (v3 - (1 : Int32)) fun h4 =>
 jf_gr h4 l0 11 37 fun v5 =>
 jf_gi h4 l0 11 40 fun v6 =>
 jf_aa h4 v5 v6 fun v7 =>
 jf_gr h4 l0 11 35 fun v8 =>
 (F_Mod_copies v7 v8 h4).bind fun h9 =>
 jf_pi h9 l0 11 41 (0 : Int32) fun h10 =>
 jf_gi h10 l0 11 40 fun v11 =>
 some (v11, h10)
set_option maxRecDepth 100000 in
theorem F_Mod_undo_ok {d : Nat} (hd : 2 ≤ d) {l0 : Nat} {h : LH} {q : (Int32 × LH)} : F_Mod_undo l0 h = some q → jl_Sem jt_T jt_Ms d 224 [.ref l0] h (jo_i q) := by
 unfold F_Mod_undo
 exact jr_enter (D := 1) hd jM_224_at rfl rfl rfl (fun d hd =>
  jr_aloadn 0 1 rfl rfl rfl
  (jr_iconst 1 2 (0 : Int32) rfl jc_i_0 rfl
  (jr_pi 2 5 rfl jg_11_109_3 rfl (fun h1 =>
  jr_aloadn 5 6 rfl rfl rfl
  (jr_gi 6 9 rfl jg_11_208_1 rfl (fun v2 =>
  jr_if_ne 9 14 12 rfl rfl rfl
  (jr_aloadn 14 15 rfl rfl rfl
  (jr_dup 15 16 rfl rfl rfl
  (jr_gi 16 19 rfl jg_11_208_1 rfl (fun v3 =>
  jr_iconst 19 20 (1 : Int32) rfl jc_i_1 rfl
  (jr_isub 20 21 rfl rfl
  (jr_pi 21 24 rfl jg_11_208_3 rfl (fun h4 =>
  jr_aloadn 24 25 rfl rfl rfl
  (jr_gr 25 28 rfl jg_11_91_2 rfl (fun v5 =>
  jr_aloadn 28 29 rfl rfl rfl
  (jr_gi 29 32 rfl jg_11_208_1 rfl (fun v6 =>
  jr_aa 32 33 rfl rfl (fun v7 =>
  jr_aloadn 33 34 rfl rfl rfl
  (jr_gr 34 37 rfl jg_11_85_2 rfl (fun v8 =>
  jr_cSv 37 40 [] rfl rfl rfl rfl rfl rfl rfl (as := [.ref v7, .ref v8]) (F_Mod_copies_ok (Nat.le_trans (by decide : 1 ≤ 1) hd)) (fun h9 =>
  jr_aloadn 40 41 rfl rfl rfl
  (jr_iconst 41 42 (0 : Int32) rfl jc_i_0 rfl
  (jr_pi 42 45 rfl jg_11_211_3 rfl (fun h10 =>
  jr_aloadn 45 46 rfl rfl rfl
  (jr_gi 46 49 rfl jg_11_208_1 rfl (fun v11 =>
  jr_ri 49 rfl rfl))))))))))))))))))))
  (jr_iconst 12 13 (-1 : Int32) rfl jc_i_m1 rfl
  (jr_ri 13 rfl rfl))))))))
noncomputable def jM_226 : JMeth := (11, false, 1, jk_226, [], 4)
set_option maxRecDepth 100000 in
theorem jM_226_at : jt_Ms 226 = some jM_226 := rfl
noncomputable def F_Mod_logsIn_c4 (k4 : Nat → Nat → Int32 → Int32 → LH → Option (Int32 × LH)) (l0 : Nat) (l1 : Nat) (l2 : Int32) (l3 : Int32) (h : LH) : Option (Int32 × LH) :=
 jf_gr h l0 11 12 fun v1 =>
 jf_ia h v1 (0 : Int32) fun v2 =>
 if l3 < v2 then
 jf_ia h l1 ((108 : Int32) + l3) fun v3 =>
 jf_let (l2 + v3) fun v4 =>
 k4 l0 l1 v4 (l3 + (1 : Int32)) h
else
 some (l2, h)
set_option maxRecDepth 100000 in
theorem F_Mod_logsIn_c4_ok {d : Nat} {q : (Int32 × LH)} {k4 : Nat → Nat → Int32 → Int32 → LH → Option (Int32 × LH)} (hd : 0 ≤ d) (hk4 : ∀ (l0 : Nat) (l1 : Nat) (l2 : Int32) (l3 : Int32) (h : LH), k4 l0 l1 l2 l3 h = some q → JR d jM_226 4 [.ref l0, .ref l1, .int l2, .int l3] [] h (jo_i q)) {l0 : Nat} {l1 : Nat} {l2 : Int32} {l3 : Int32} {h : LH} : F_Mod_logsIn_c4 k4 l0 l1 l2 l3 h = some q → JR d jM_226 4 [.ref l0, .ref l1, .int l2, .int l3] [] h (jo_i q) := by
 unfold F_Mod_logsIn_c4
 exact jr_iloadn 4 5 rfl rfl rfl
  (jr_aloadn 5 6 rfl rfl rfl
  (jr_gr 6 9 rfl jg_11_23_2 rfl (fun v1 =>
  jr_iconst 9 10 (0 : Int32) rfl jc_i_0 rfl
  (jr_ia 10 11 rfl rfl (fun v2 =>
  jr_icmp_ge 11 29 14 rfl rfl rfl
  (jr_iloadn 29 30 rfl rfl rfl
  (jr_ri 30 rfl rfl))
  (jr_iloadn 14 15 rfl rfl rfl
  (jr_aloadn 15 16 rfl rfl rfl
  (jr_bipush 16 18 (108 : Int32) rfl jc_b_108 rfl
  (jr_iloadn 18 19 rfl rfl rfl
  (jr_iadd 19 20 rfl rfl
  (jr_ia 20 21 rfl rfl (fun v3 =>
  jr_iadd 21 22 rfl rfl
  (jr_istorenL 22 23 (fun v4 => [.ref l0, .ref l1, .int v4, .int l3]) rfl rfl (fun _ => rfl) rfl (fun v4 =>
  jr_iinc 23 26 [.ref l0, .ref l1, .int v4, .int (l3 + (1 : Int32))] rfl jc_i_1 rfl rfl rfl rfl
  (jr_goto 26 4 rfl rfl
  ((hk4 _ _ _ _ _)))))))))))))))))
noncomputable def F_Mod_logsIn_l4 : Nat → Nat → Nat → Int32 → Int32 → LH → Option (Int32 × LH)
 | 0, _, _, _, _, _ => none
 | n + 1, l0, l1, l2, l3, h => F_Mod_logsIn_c4 (F_Mod_logsIn_l4 n) l0 l1 l2 l3 h
theorem F_Mod_logsIn_l4_ok {d : Nat} {q : (Int32 × LH)} (hd : 0 ≤ d) : ∀ (n : Nat) (l0 : Nat) (l1 : Nat) (l2 : Int32) (l3 : Int32) (h : LH), F_Mod_logsIn_l4 n l0 l1 l2 l3 h = some q → JR d jM_226 4 [.ref l0, .ref l1, .int l2, .int l3] [] h (jo_i q)
 | 0 => fun _ _ _ _ _ hq => nomatch (show (none : Option (Int32 × LH)) = some q from hq)
 | n + 1 => fun _ _ _ _ _ hq => F_Mod_logsIn_c4_ok hd (F_Mod_logsIn_l4_ok hd n) hq
noncomputable def F_Mod_logsIn (l0 : Nat) (l1 : Nat) (h : LH) : Option (Int32 × LH) :=
 F_Mod_logsIn_l4  jF l0 l1 (0 : Int32) (0 : Int32) h
set_option maxRecDepth 100000 in
theorem F_Mod_logsIn_ok {d : Nat} (hd : 1 ≤ d) {l0 : Nat} {l1 : Nat} {h : LH} {q : (Int32 × LH)} : F_Mod_logsIn l0 l1 h = some q → jl_Sem jt_T jt_Ms d 226 [.ref l0, .ref l1] h (jo_i q) := by
 unfold F_Mod_logsIn
 exact jr_enter (D := 0) hd jM_226_at rfl rfl rfl (fun d hd =>
  jr_iconst 0 1 (0 : Int32) rfl jc_i_0 rfl
  (jr_istoren 1 2 [.ref l0, .ref l1, .int (0 : Int32), .retAddr 0] rfl rfl rfl rfl
  (jr_iconst 2 3 (0 : Int32) rfl jc_i_0 rfl
  (jr_istoren 3 4 [.ref l0, .ref l1, .int (0 : Int32), .int (0 : Int32)] rfl rfl rfl rfl
  ((F_Mod_logsIn_l4_ok hd  jF _ _ _ _ _))))))
noncomputable def jM_227 : JMeth := (11, false, 1, jk_227, [], 3)
set_option maxRecDepth 100000 in
theorem jM_227_at : jt_Ms 227 = some jM_227 := rfl
noncomputable def F_Mod_ones_c4 (k4 : Int32 → Int32 → Int32 → LH → Option (Int32 × LH)) (l0 : Int32) (l1 : Int32) (l2 : Int32) (h : LH) : Option (Int32 × LH) :=
 if l2 < (10 : Int32) then
 jf_let (l1 + ((l0 >>> (l2 &&& 31)) &&& (1 : Int32))) fun v1 =>
 k4 l0 v1 (l2 + (1 : Int32)) h
else
 some (l1, h)
set_option maxRecDepth 100000 in
theorem F_Mod_ones_c4_ok {d : Nat} {q : (Int32 × LH)} {k4 : Int32 → Int32 → Int32 → LH → Option (Int32 × LH)} (hd : 0 ≤ d) (hk4 : ∀ (l0 : Int32) (l1 : Int32) (l2 : Int32) (h : LH), k4 l0 l1 l2 h = some q → JR d jM_227 4 [.int l0, .int l1, .int l2] [] h (jo_i q)) {l0 : Int32} {l1 : Int32} {l2 : Int32} {h : LH} : F_Mod_ones_c4 k4 l0 l1 l2 h = some q → JR d jM_227 4 [.int l0, .int l1, .int l2] [] h (jo_i q) := by
 unfold F_Mod_ones_c4
 exact jr_iloadn 4 5 rfl rfl rfl
  (jr_bipush 5 7 (10 : Int32) rfl jc_b_10 rfl
  (jr_icmp_ge 7 24 10 rfl rfl rfl
  (jr_iloadn 24 25 rfl rfl rfl
  (jr_ri 25 rfl rfl))
  (jr_iloadn 10 11 rfl rfl rfl
  (jr_iloadn 11 12 rfl rfl rfl
  (jr_iloadn 12 13 rfl rfl rfl
  (jr_ishr 13 14 rfl rfl
  (jr_iconst 14 15 (1 : Int32) rfl jc_i_1 rfl
  (jr_iand 15 16 rfl rfl
  (jr_iadd 16 17 rfl rfl
  (jr_istorenL 17 18 (fun v1 => [.int l0, .int v1, .int l2]) rfl rfl (fun _ => rfl) rfl (fun v1 =>
  jr_iinc 18 21 [.int l0, .int v1, .int (l2 + (1 : Int32))] rfl jc_i_1 rfl rfl rfl rfl
  (jr_goto 21 4 rfl rfl
  ((hk4 _ _ _ _))))))))))))))
noncomputable def F_Mod_ones_l4 : Nat → Int32 → Int32 → Int32 → LH → Option (Int32 × LH)
 | 0, _, _, _, _ => none
 | n + 1, l0, l1, l2, h => F_Mod_ones_c4 (F_Mod_ones_l4 n) l0 l1 l2 h
theorem F_Mod_ones_l4_ok {d : Nat} {q : (Int32 × LH)} (hd : 0 ≤ d) : ∀ (n : Nat) (l0 : Int32) (l1 : Int32) (l2 : Int32) (h : LH), F_Mod_ones_l4 n l0 l1 l2 h = some q → JR d jM_227 4 [.int l0, .int l1, .int l2] [] h (jo_i q)
 | 0 => fun _ _ _ _ hq => nomatch (show (none : Option (Int32 × LH)) = some q from hq)
 | n + 1 => fun _ _ _ _ hq => F_Mod_ones_c4_ok hd (F_Mod_ones_l4_ok hd n) hq
noncomputable def F_Mod_ones (l0 : Int32) (h : LH) : Option (Int32 × LH) :=
 F_Mod_ones_l4  jF l0 (0 : Int32) (0 : Int32) h
set_option maxRecDepth 100000 in
theorem F_Mod_ones_ok {d : Nat} (hd : 1 ≤ d) {l0 : Int32} {h : LH} {q : (Int32 × LH)} : F_Mod_ones l0 h = some q → jl_Sem jt_T jt_Ms d 227 [.int l0] h (jo_i q) := by
 unfold F_Mod_ones
 exact jr_enter (D := 0) hd jM_227_at rfl rfl rfl (fun d hd =>
  jr_iconst 0 1 (0 : Int32) rfl jc_i_0 rfl
  (jr_istoren 1 2 [.int l0, .int (0 : Int32), .retAddr 0] rfl rfl rfl rfl
  (jr_iconst 2 3 (0 : Int32) rfl jc_i_0 rfl
  (jr_istoren 3 4 [.int l0, .int (0 : Int32), .int (0 : Int32)] rfl rfl rfl rfl
  ((F_Mod_ones_l4_ok hd  jF _ _ _ _))))))
noncomputable def jM_225 : JMeth := (11, false, 1, jk_225, [], 2)
set_option maxRecDepth 100000 in
theorem jM_225_at : jt_Ms 225 = some jM_225 := rfl
noncomputable def F_Mod_told_b88 (l0 : Nat) (l1 : Int32) (h : LH) : Option (Int32 × LH) :=
 jf_gr h l0 11 12 fun v1 =>
 jf_ia h v1 l1 fun v2 =>
 some (v2, h)
set_option maxRecDepth 100000 in
theorem F_Mod_told_b88_ok {d : Nat} {q : (Int32 × LH)} (hd : 7 ≤ d) {l0 : Nat} {l1 : Int32} {h : LH} : F_Mod_told_b88 l0 l1 h = some q → JR d jM_225 88 [.ref l0, .int l1] [] h (jo_i q) := by
 unfold F_Mod_told_b88
 exact jr_aloadn 88 89 rfl rfl rfl
  (jr_gr 89 92 rfl jg_11_23_2 rfl (fun v1 =>
  jr_iloadn 92 93 rfl rfl rfl
  (jr_ia 93 94 rfl rfl (fun v2 =>
  jr_ri 94 rfl rfl))))
noncomputable def F_Mod_told_b137 (s0 : Int32) (h : LH) : Option (Int32 × LH) :=
 some (s0, h)
set_option maxRecDepth 100000 in
theorem F_Mod_told_b137_ok {d : Nat} {q : (Int32 × LH)} (hd : 7 ≤ d) {s0 : Int32} {u0 : Value} {u1 : Value} {h : LH} : F_Mod_told_b137 s0 h = some q → JR d jM_225 137 [u0, u1] [.int s0] h (jo_i q) := by
 unfold F_Mod_told_b137
 exact jr_ri 137 rfl rfl
noncomputable def F_Mod_told_b21 (l0 : Nat) (l1 : Int32) (s0 : Nat) (s1 : Int32) (h : LH) : Option (Int32 × LH) :=
 jf_kd h s0 11
 (jf_bi (F_Mod_bad s0 s1 (1 : Int32) (1 : Int32) h) fun v1 h2 =>
 if v1 = 0 then
 if l1 = (0 : Int32) then
 F_Mod_told_b88  l0 l1 h2
else
 if l1 = (1 : Int32) then
 F_Mod_told_b88  l0 l1 h2
else
 if l1 = (2 : Int32) then
 F_Mod_told_b88  l0 l1 h2
else
 if l1 = (3 : Int32) then
 F_Mod_told_b88  l0 l1 h2
else
 if l1 = (4 : Int32) then
 jf_gr h2 l0 11 35 fun v21 =>
 jf_ia h2 v21 (133 : Int32) fun v22 =>
 some (v22, h2)
else
 if l1 = (5 : Int32) then
 jf_gr h2 l0 11 35 fun v17 =>
 jf_ia h2 v17 (133 : Int32) fun v18 =>
 jf_kd h2 l0 11
 (jf_bi (F_Mod_windIn l0 v18 h2) fun v19 h20 =>
 some (v19, h20))
else
 if l1 = (6 : Int32) then
 jf_gr h2 l0 11 35 fun v13 =>
 jf_ia h2 v13 (133 : Int32) fun v14 =>
 jf_kd h2 l0 11
 (jf_bi (F_Mod_isRain l0 v14 h2) fun v15 h16 =>
 if v15 = 0 then
 F_Mod_told_b137  (0 : Int32) h16
else
 F_Mod_told_b137  (1 : Int32) h16)
else
 if l1 = (7 : Int32) then
 jf_gr h2 l0 11 35 fun v10 =>
 jf_kd h2 l0 11
 (jf_bi (F_Mod_logsIn l0 v10 h2) fun v11 h12 =>
 some (v11, h12))
else
 if l1 = (8 : Int32) then
 jf_gr h2 l0 11 35 fun v5 =>
 jf_kd h2 l0 11
 (jf_bi (F_Mod_shutBits l0 v5 h2) fun v6 h7 =>
 jf_bi (F_Mod_ones v6 h7) fun v8 h9 =>
 some (v8, h9))
else
 if l1 = (9 : Int32) then
 jf_gi h2 l0 11 39 fun v4 =>
 some (v4, h2)
else
 jf_gi h2 l0 11 41 fun v3 =>
 some (v3, h2)
else
 some ((0 : Int32), h2))
set_option maxRecDepth 100000 in
theorem F_Mod_told_b21_ok {d : Nat} {q : (Int32 × LH)} (hd : 7 ≤ d) {l0 : Nat} {l1 : Int32} {s0 : Nat} {s1 : Int32} {h : LH} : F_Mod_told_b21 l0 l1 s0 s1 h = some q → JR d jM_225 21 [.ref l0, .int l1] [.int s1, .ref s0] h (jo_i q) := by
 unfold F_Mod_told_b21
 exact jr_iconst 21 22 (1 : Int32) rfl jc_i_1 rfl
  (jr_iconst 22 23 (1 : Int32) rfl jc_i_1 rfl
  (jr_cVi 23 26 [] rfl rfl rfl rfl rfl rfl rfl rfl (as := [.int s1, .int (1 : Int32), .int (1 : Int32)]) (F_Mod_bad_ok (Nat.le_trans (by decide : 1 ≤ 7) hd)) (fun v1 h2 =>
  jr_if_eq 26 31 29 rfl rfl rfl
  (jr_iloadn 31 32 rfl rfl rfl
  (jr_ite (fun hx32_0 => jr_tsI 32 88 hx32_0 rfl rfl rfl rfl
  ((F_Mod_told_b88_ok hd )))
  (fun hx32_0 =>
  jr_ite (fun hx32_1 => jr_tsI 32 88 hx32_1 rfl rfl rfl rfl
  ((F_Mod_told_b88_ok hd )))
  (fun hx32_1 =>
  jr_ite (fun hx32_2 => jr_tsI 32 88 hx32_2 rfl rfl rfl rfl
  ((F_Mod_told_b88_ok hd )))
  (fun hx32_2 =>
  jr_ite (fun hx32_3 => jr_tsI 32 88 hx32_3 rfl rfl rfl rfl
  ((F_Mod_told_b88_ok hd )))
  (fun hx32_3 =>
  jr_ite (fun hx32_4 => jr_tsI 32 95 hx32_4 rfl rfl rfl rfl
  (jr_aloadn 95 96 rfl rfl rfl
  (jr_gr 96 99 rfl jg_11_85_2 rfl (fun v21 =>
  jr_sipush 99 102 (133 : Int32) rfl jc_s_133 rfl
  (jr_ia 102 103 rfl rfl (fun v22 =>
  jr_ri 103 rfl rfl))))))
  (fun hx32_4 =>
  jr_ite (fun hx32_5 => jr_tsI 32 104 hx32_5 rfl rfl rfl rfl
  (jr_aloadn 104 105 rfl rfl rfl
  (jr_aloadn 105 106 rfl rfl rfl
  (jr_gr 106 109 rfl jg_11_85_2 rfl (fun v17 =>
  jr_sipush 109 112 (133 : Int32) rfl jc_s_133 rfl
  (jr_ia 112 113 rfl rfl (fun v18 =>
  jr_cVi 113 116 [] rfl rfl rfl rfl rfl rfl rfl rfl (as := [.int v18]) (F_Mod_windIn_ok (Nat.le_trans (by decide : 1 ≤ 7) hd)) (fun v19 h20 =>
  jr_ri 116 rfl rfl))))))))
  (fun hx32_5 =>
  jr_ite (fun hx32_6 => jr_tsI 32 117 hx32_6 rfl rfl rfl rfl
  (jr_aloadn 117 118 rfl rfl rfl
  (jr_aloadn 118 119 rfl rfl rfl
  (jr_gr 119 122 rfl jg_11_85_2 rfl (fun v13 =>
  jr_sipush 122 125 (133 : Int32) rfl jc_s_133 rfl
  (jr_ia 125 126 rfl rfl (fun v14 =>
  jr_cVi 126 129 [] rfl rfl rfl rfl rfl rfl rfl rfl (as := [.int v14]) (F_Mod_isRain_ok (Nat.le_trans (by decide : 2 ≤ 7) hd)) (fun v15 h16 =>
  jr_if_eq 129 136 132 rfl rfl rfl
  (jr_iconst 136 137 (0 : Int32) rfl jc_i_0 rfl
  ((F_Mod_told_b137_ok hd )))
  (jr_iconst 132 133 (1 : Int32) rfl jc_i_1 rfl
  (jr_goto 133 137 rfl rfl
  ((F_Mod_told_b137_ok hd ))))))))))))
  (fun hx32_6 =>
  jr_ite (fun hx32_7 => jr_tsI 32 138 hx32_7 rfl rfl rfl rfl
  (jr_aloadn 138 139 rfl rfl rfl
  (jr_aloadn 139 140 rfl rfl rfl
  (jr_gr 140 143 rfl jg_11_85_2 rfl (fun v10 =>
  jr_cVi 143 146 [] rfl rfl rfl rfl rfl rfl rfl rfl (as := [.ref v10]) (F_Mod_logsIn_ok (Nat.le_trans (by decide : 1 ≤ 7) hd)) (fun v11 h12 =>
  jr_ri 146 rfl rfl))))))
  (fun hx32_7 =>
  jr_ite (fun hx32_8 => jr_tsI 32 147 hx32_8 rfl rfl rfl rfl
  (jr_aloadn 147 148 rfl rfl rfl
  (jr_aloadn 148 149 rfl rfl rfl
  (jr_gr 149 152 rfl jg_11_85_2 rfl (fun v5 =>
  jr_cVi 152 155 [] rfl rfl rfl rfl rfl rfl rfl rfl (as := [.ref v5]) (F_Mod_shutBits_ok (Nat.le_trans (by decide : 7 ≤ 7) hd)) (fun v6 h7 =>
  jr_cSi 155 158 [] rfl rfl rfl rfl rfl rfl rfl (as := [.int v6]) (F_Mod_ones_ok (Nat.le_trans (by decide : 1 ≤ 7) hd)) (fun v8 h9 =>
  jr_ri 158 rfl rfl)))))))
  (fun hx32_8 =>
  jr_ite (fun hx32_9 => jr_tsI 32 159 hx32_9 rfl rfl rfl rfl
  (jr_aloadn 159 160 rfl rfl rfl
  (jr_gi 160 163 rfl jg_11_205_1 rfl (fun v4 =>
  jr_ri 163 rfl rfl))))
  (fun hx32_9 =>
  jr_tsD 32 164 rfl (by have := jr_ne (k := 0) jc_t_0 hx32_0; have := jr_ne (k := 1) jc_t_1 hx32_1; have := jr_ne (k := 2) jc_t_2 hx32_2; have := jr_ne (k := 3) jc_t_3 hx32_3; have := jr_ne (k := 4) jc_t_4 hx32_4; have := jr_ne (k := 5) jc_t_5 hx32_5; have := jr_ne (k := 6) jc_t_6 hx32_6; have := jr_ne (k := 7) jc_t_7 hx32_7; have := jr_ne (k := 8) jc_t_8 hx32_8; have := jr_ne (k := 9) jc_t_9 hx32_9; omega) rfl
  (jr_aloadn 164 165 rfl rfl rfl
  (jr_gi 165 168 rfl jg_11_211_1 rfl (fun v3 =>
  jr_ri 168 rfl rfl)))))))))))))))
  (jr_iconst 29 30 (0 : Int32) rfl jc_i_0 rfl
  (jr_ri 30 rfl rfl)))))
noncomputable def F_Mod_told (l0 : Nat) (l1 : Int32) (h : LH) : Option (Int32 × LH) :=
 jf_pi h l0 11 0 (0 : Int32) fun h1 =>
 jf_bi (F_Mod_in l1 (0 : Int32) (10 : Int32) h1) fun v2 h3 =>
 if v2 = 0 then
 F_Mod_told_b21  l0 l1 l0 (1 : Int32) h3
else
 F_Mod_told_b21  l0 l1 l0 (0 : Int32) h3
set_option maxRecDepth 100000 in
theorem F_Mod_told_ok {d : Nat} (hd : 8 ≤ d) {l0 : Nat} {l1 : Int32} {h : LH} {q : (Int32 × LH)} : F_Mod_told l0 l1 h = some q → jl_Sem jt_T jt_Ms d 225 [.ref l0, .int l1] h (jo_i q) := by
 unfold F_Mod_told
 exact jr_enter (D := 7) hd jM_225_at rfl rfl rfl (fun d hd =>
  jr_aloadn 0 1 rfl rfl rfl
  (jr_iconst 1 2 (0 : Int32) rfl jc_i_0 rfl
  (jr_pi 2 5 rfl jg_11_109_3 rfl (fun h1 =>
  jr_aloadn 5 6 rfl rfl rfl
  (jr_iloadn 6 7 rfl rfl rfl
  (jr_iconst 7 8 (0 : Int32) rfl jc_i_0 rfl
  (jr_bipush 8 10 (10 : Int32) rfl jc_b_10 rfl
  (jr_cSi 10 13 [.ref l0] rfl rfl rfl rfl rfl rfl rfl (as := [.int l1, .int (0 : Int32), .int (10 : Int32)]) (F_Mod_in_ok (Nat.le_trans (by decide : 1 ≤ 7) hd)) (fun v2 h3 =>
  jr_if_ne 13 20 16 rfl rfl rfl
  (jr_iconst 20 21 (0 : Int32) rfl jc_i_0 rfl
  ((F_Mod_told_b21_ok hd )))
  (jr_iconst 16 17 (1 : Int32) rfl jc_i_1 rfl
  (jr_goto 17 21 rfl rfl
  ((F_Mod_told_b21_ok hd )))))))))))))

/-! FUNCTIONS FOR METHODS, by wip/whole/funs.py: F_Text_init, F_Text_append, F_Text_open, F_Text_close, F_Town_init, F_Int_bitCount, F_Town_nearestSignal, F_Town_readGate, F_Town_readWood, F_Town_readWind, F_Town_readRain, F_Town_readComer, F_Town_readSignal, F_Town_readClause, F_Town_readFrom, F_Watch_init, F_Watch_seeOpenGates, F_Watch_thiefHas, F_Watch_mostOfThief, F_Watch_leastOfThief, F_Watch_findRests, F_Watch_play, F_SG_init, F_SG_feed, F_SG_fault, F_SG_undo, F_SG_closest, F_SG_seems, F_SG_burnsOut, F_SG_image, F_SG_restore, F_SG_status, F_SG_count, F_SG_needArgument, F_SG_openText, F_SG_town, F_SG_law, F_SG_work, F_SG_book, F_SG_told, F_SG_needElement, F_SG_needGate, F_SG_gate, F_SG_needWood, F_SG_wood, F_SG_comer, F_SG_log, F_SG_would, F_SG_startTrial, F_SG_when, F_SG_shut, F_SG_keeps, F_SG_openGateWithin, F_SG_thief, F_SG_guard, F_SG_areGates, F_SG_lean, F_SG_burnt, F_SG_fits, F_SG_nose, F_SG_siege, F_SG_distance, F_SG_read, F_SG_givenBy, F_SG_share, F_SG_crowd, F_SG_passTrial, F_SG_turned, F_SG_thickest, F_SG_ahead, F_SG_days, F_SG_span, F_Mod_lays, F_Mod_beginsAnew -/
noncomputable def jM_81 : JMeth := (7, true, 0, jk_81, [], 1)
set_option maxRecDepth 100000 in
theorem jM_81_at : jt_Ms 81 = some jM_81 := rfl
noncomputable def F_Text_init (l0 : Nat) (h : LH) : Option LH :=
 jf_na h 21 (600 : Int32) fun v1 h2 =>
 jf_pr h2 l0 7 0 v1 fun h3 =>
 jf_pi h3 l0 7 3 (-1 : Int32) fun h4 =>
 some h4
set_option maxRecDepth 100000 in
theorem F_Text_init_ok {d : Nat} (hd : 1 ≤ d) {l0 : Nat} {h : LH} {q : LH} : F_Text_init l0 h = some q → jl_Sem jt_T jt_Ms d 81 [.ref l0] h (jo_v q) := by
 unfold F_Text_init
 exact jr_enter (D := 0) hd jM_81_at rfl rfl rfl (fun d hd =>
  jr_aloadn 0 1 rfl rfl rfl
  (jr_oi 1 4 rfl rfl rfl rfl
  (jr_aloadn 4 5 rfl rfl rfl
  (jr_sipush 5 8 (600 : Int32) rfl jc_s_600 rfl
  (jr_na 8 10 rfl rfl rfl rfl (fun v1 h2 =>
  jr_prF 10 13 rfl rfl jg_7_9_6 rfl (fun h3 =>
  jr_aloadn 13 14 rfl rfl rfl
  (jr_iconst 14 15 (-1 : Int32) rfl jc_i_m1 rfl
  (jr_pi 15 18 rfl jg_7_15_3 rfl (fun h4 =>
  jr_rv 18 rfl rfl))))))))))
noncomputable def jM_82 : JMeth := (7, false, 0, jk_82, [], 3)
set_option maxRecDepth 100000 in
theorem jM_82_at : jt_Ms 82 = some jM_82 := rfl
noncomputable def F_Text_append_b46 (h : LH) : Option LH :=
 some h
set_option maxRecDepth 100000 in
theorem F_Text_append_b46_ok {d : Nat} {q : LH} (hd : 0 ≤ d) {u0 : Value} {u1 : Value} {u2 : Value} {h : LH} : F_Text_append_b46 h = some q → JR d jM_82 46 [u0, u1, u2] [] h (jo_v q) := by
 unfold F_Text_append_b46
 exact jr_rv 46 rfl rfl
noncomputable def F_Text_append_c3 (k3 : Nat → Int32 → Int32 → LH → Option LH) (l0 : Nat) (l1 : Int32) (l2 : Int32) (h : LH) : Option LH :=
 if l2 < 0 then
 F_Text_append_b46  h
else
 jf_gi h l0 7 1 fun v1 =>
 if v1 < (600 : Int32) then
 jf_gr h l0 7 0 fun v2 =>
 jf_gi h l0 7 1 fun v3 =>
 jf_bs h v2 v3 (((l1 >>> (l2 &&& 31))).toInt8.toInt32) fun h4 =>
 jf_gi h4 l0 7 1 fun v5 =>
 jf_pi h4 l0 7 1 (v5 + (1 : Int32)) fun h6 =>
 k3 l0 l1 (l2 + (-8 : Int32)) h6
else
 F_Text_append_b46  h
set_option maxRecDepth 100000 in
theorem F_Text_append_c3_ok {d : Nat} {q : LH} {k3 : Nat → Int32 → Int32 → LH → Option LH} (hd : 0 ≤ d) (hk3 : ∀ (l0 : Nat) (l1 : Int32) (l2 : Int32) (h : LH), k3 l0 l1 l2 h = some q → JR d jM_82 3 [.ref l0, .int l1, .int l2] [] h (jo_v q)) {l0 : Nat} {l1 : Int32} {l2 : Int32} {h : LH} : F_Text_append_c3 k3 l0 l1 l2 h = some q → JR d jM_82 3 [.ref l0, .int l1, .int l2] [] h (jo_v q) := by
 unfold F_Text_append_c3
 exact jr_iloadn 3 4 rfl rfl rfl
  (jr_if_lt 4 46 7 rfl rfl rfl
  ((F_Text_append_b46_ok hd ))
  (jr_aloadn 7 8 rfl rfl rfl
  (jr_gi 8 11 rfl jg_7_19_1 rfl (fun v1 =>
  jr_sipush 11 14 (600 : Int32) rfl jc_s_600 rfl
  (jr_icmp_ge 14 46 17 rfl rfl rfl
  ((F_Text_append_b46_ok hd ))
  (jr_aloadn 17 18 rfl rfl rfl
  (jr_gr 18 21 rfl jg_7_9_2 rfl (fun v2 =>
  jr_aloadn 21 22 rfl rfl rfl
  (jr_gi 22 25 rfl jg_7_19_1 rfl (fun v3 =>
  jr_iloadn 25 26 rfl rfl rfl
  (jr_iloadn 26 27 rfl rfl rfl
  (jr_ishr 27 28 rfl rfl
  (jr_i2b 28 29 rfl rfl
  (jr_bs 29 30 rfl rfl (fun h4 =>
  jr_aloadn 30 31 rfl rfl rfl
  (jr_dup 31 32 rfl rfl rfl
  (jr_gi 32 35 rfl jg_7_19_1 rfl (fun v5 =>
  jr_iconst 35 36 (1 : Int32) rfl jc_i_1 rfl
  (jr_iadd 36 37 rfl rfl
  (jr_pi 37 40 rfl jg_7_19_3 rfl (fun h6 =>
  jr_iinc 40 43 [.ref l0, .int l1, .int (l2 + (-8 : Int32))] rfl jc_i_m8 rfl rfl rfl rfl
  (jr_goto 43 3 rfl rfl
  ((hk3 _ _ _ _))))))))))))))))))))))))
noncomputable def F_Text_append_l3 : Nat → Nat → Int32 → Int32 → LH → Option LH
 | 0, _, _, _, _ => none
 | n + 1, l0, l1, l2, h => F_Text_append_c3 (F_Text_append_l3 n) l0 l1 l2 h
theorem F_Text_append_l3_ok {d : Nat} {q : LH} (hd : 0 ≤ d) : ∀ (n : Nat) (l0 : Nat) (l1 : Int32) (l2 : Int32) (h : LH), F_Text_append_l3 n l0 l1 l2 h = some q → JR d jM_82 3 [.ref l0, .int l1, .int l2] [] h (jo_v q)
 | 0 => fun _ _ _ _ hq => nomatch (show (none : Option LH) = some q from hq)
 | n + 1 => fun _ _ _ _ hq => F_Text_append_c3_ok hd (F_Text_append_l3_ok hd n) hq
noncomputable def F_Text_append (l0 : Nat) (l1 : Int32) (h : LH) : Option LH :=
 F_Text_append_l3  jF l0 l1 (24 : Int32) h
set_option maxRecDepth 100000 in
theorem F_Text_append_ok {d : Nat} (hd : 1 ≤ d) {l0 : Nat} {l1 : Int32} {h : LH} {q : LH} : F_Text_append l0 l1 h = some q → jl_Sem jt_T jt_Ms d 82 [.ref l0, .int l1] h (jo_v q) := by
 unfold F_Text_append
 exact jr_enter (D := 0) hd jM_82_at rfl rfl rfl (fun d hd =>
  jr_bipush 0 2 (24 : Int32) rfl jc_b_24 rfl
  (jr_istoren 2 3 [.ref l0, .int l1, .int (24 : Int32)] rfl rfl rfl rfl
  ((F_Text_append_l3_ok hd  jF _ _ _ _))))
noncomputable def jM_83 : JMeth := (7, false, 0, jk_83, [], 2)
set_option maxRecDepth 100000 in
theorem jM_83_at : jt_Ms 83 = some jM_83 := rfl
noncomputable def F_Text_open (l0 : Nat) (l1 : Int32) (h : LH) : Option LH :=
 jf_pi h l0 7 4 (if (600 : Int32) < l1 then (600 : Int32) else l1) fun h1 =>
 jf_pi h1 l0 7 5 (0 : Int32) fun h2 =>
 jf_pi h2 l0 7 6 (0 : Int32) fun h3 =>
 jf_pi h3 l0 7 2 (0 : Int32) fun h4 =>
 jf_pi h4 l0 7 3 (-1 : Int32) fun h5 =>
 some h5
set_option maxRecDepth 100000 in
theorem F_Text_open_ok {d : Nat} (hd : 1 ≤ d) {l0 : Nat} {l1 : Int32} {h : LH} {q : LH} : F_Text_open l0 l1 h = some q → jl_Sem jt_T jt_Ms d 83 [.ref l0, .int l1] h (jo_v q) := by
 unfold F_Text_open
 exact jr_enter (D := 0) hd jM_83_at rfl rfl rfl (fun d hd =>
  jr_aloadn 0 1 rfl rfl rfl
  (jr_iloadn 1 2 rfl rfl rfl
  (jr_sipush 2 5 (600 : Int32) rfl jc_s_600 rfl
  (jr_min 5 8 rfl rfl rfl rfl
  (jr_pi 8 11 rfl jg_7_28_3 rfl (fun h1 =>
  jr_aloadn 11 12 rfl rfl rfl
  (jr_iconst 12 13 (0 : Int32) rfl jc_i_0 rfl
  (jr_pi 13 16 rfl jg_7_31_3 rfl (fun h2 =>
  jr_aloadn 16 17 rfl rfl rfl
  (jr_iconst 17 18 (0 : Int32) rfl jc_i_0 rfl
  (jr_pi 18 21 rfl jg_7_34_3 rfl (fun h3 =>
  jr_aloadn 21 22 rfl rfl rfl
  (jr_iconst 22 23 (0 : Int32) rfl jc_i_0 rfl
  (jr_pi 23 26 rfl jg_7_37_3 rfl (fun h4 =>
  jr_aloadn 26 27 rfl rfl rfl
  (jr_iconst 27 28 (-1 : Int32) rfl jc_i_m1 rfl
  (jr_pi 28 31 rfl jg_7_15_3 rfl (fun h5 =>
  jr_rv 31 rfl rfl))))))))))))))))))
noncomputable def jM_91 : JMeth := (7, false, 0, jk_91, [], 1)
set_option maxRecDepth 100000 in
theorem jM_91_at : jt_Ms 91 = some jM_91 := rfl
noncomputable def F_Text_close (l0 : Nat) (h : LH) : Option LH :=
 jf_pi h l0 7 1 (0 : Int32) fun h1 =>
 some h1
set_option maxRecDepth 100000 in
theorem F_Text_close_ok {d : Nat} (hd : 1 ≤ d) {l0 : Nat} {h : LH} {q : LH} : F_Text_close l0 h = some q → jl_Sem jt_T jt_Ms d 91 [.ref l0] h (jo_v q) := by
 unfold F_Text_close
 exact jr_enter (D := 0) hd jM_91_at rfl rfl rfl (fun d hd =>
  jr_aloadn 0 1 rfl rfl rfl
  (jr_iconst 1 2 (0 : Int32) rfl jc_i_0 rfl
  (jr_pi 2 5 rfl jg_7_19_3 rfl (fun h1 =>
  jr_rv 5 rfl rfl))))
noncomputable def jM_95 : JMeth := (8, true, 0, jk_95, [], 1)
set_option maxRecDepth 100000 in
theorem jM_95_at : jt_Ms 95 = some jM_95 := rfl
noncomputable def F_Town_init (l0 : Nat) (h : LH) : Option LH :=
 jf_na h 20 (9 : Int32) fun v1 h2 =>
 jf_pr h2 l0 8 6 v1 fun h3 =>
 jf_na h3 20 (6 : Int32) fun v4 h5 =>
 jf_pr h5 l0 8 7 v4 fun h6 =>
 jf_na h6 20 (6 : Int32) fun v7 h8 =>
 jf_pr h8 l0 8 8 v7 fun h9 =>
 jf_na h9 20 (6 : Int32) fun v10 h11 =>
 jf_pr h11 l0 8 9 v10 fun h12 =>
 jf_na h12 20 (6 : Int32) fun v13 h14 =>
 jf_pr h14 l0 8 10 v13 fun h15 =>
 jf_na h15 20 (24 : Int32) fun v16 h17 =>
 jf_pr h17 l0 8 11 v16 fun h18 =>
 jf_na h18 20 (6 : Int32) fun v19 h20 =>
 jf_pr h20 l0 8 12 v19 fun h21 =>
 jf_na h21 20 (6 : Int32) fun v22 h23 =>
 jf_pr h23 l0 8 13 v22 fun h24 =>
 jf_na h24 20 (10 : Int32) fun v25 h26 =>
 jf_pr h26 l0 8 14 v25 fun h27 =>
 jf_na h27 20 (10 : Int32) fun v28 h29 =>
 jf_pr h29 l0 8 15 v28 fun h30 =>
 jf_na h30 20 (10 : Int32) fun v31 h32 =>
 jf_pr h32 l0 8 16 v31 fun h33 =>
 jf_na h33 20 (8 : Int32) fun v34 h35 =>
 jf_pr h35 l0 8 17 v34 fun h36 =>
 some h36
set_option maxRecDepth 100000 in
theorem F_Town_init_ok {d : Nat} (hd : 1 ≤ d) {l0 : Nat} {h : LH} {q : LH} : F_Town_init l0 h = some q → jl_Sem jt_T jt_Ms d 95 [.ref l0] h (jo_v q) := by
 unfold F_Town_init
 exact jr_enter (D := 0) hd jM_95_at rfl rfl rfl (fun d hd =>
  jr_aloadn 0 1 rfl rfl rfl
  (jr_oi 1 4 rfl rfl rfl rfl
  (jr_aloadn 4 5 rfl rfl rfl
  (jr_bipush 5 7 (9 : Int32) rfl jc_b_9 rfl
  (jr_na 7 9 rfl rfl rfl rfl (fun v1 h2 =>
  jr_prF 9 12 rfl rfl jg_8_9_6 rfl (fun h3 =>
  jr_aloadn 12 13 rfl rfl rfl
  (jr_bipush 13 15 (6 : Int32) rfl jc_b_6 rfl
  (jr_na 15 17 rfl rfl rfl rfl (fun v4 h5 =>
  jr_prF 17 20 rfl rfl jg_8_15_6 rfl (fun h6 =>
  jr_aloadn 20 21 rfl rfl rfl
  (jr_bipush 21 23 (6 : Int32) rfl jc_b_6 rfl
  (jr_na 23 25 rfl rfl rfl rfl (fun v7 h8 =>
  jr_prF 25 28 rfl rfl jg_8_18_6 rfl (fun h9 =>
  jr_aloadn 28 29 rfl rfl rfl
  (jr_bipush 29 31 (6 : Int32) rfl jc_b_6 rfl
  (jr_na 31 33 rfl rfl rfl rfl (fun v10 h11 =>
  jr_prF 33 36 rfl rfl jg_8_21_6 rfl (fun h12 =>
  jr_aloadn 36 37 rfl rfl rfl
  (jr_bipush 37 39 (6 : Int32) rfl jc_b_6 rfl
  (jr_na 39 41 rfl rfl rfl rfl (fun v13 h14 =>
  jr_prF 41 44 rfl rfl jg_8_24_6 rfl (fun h15 =>
  jr_aloadn 44 45 rfl rfl rfl
  (jr_bipush 45 47 (24 : Int32) rfl jc_b_24 rfl
  (jr_na 47 49 rfl rfl rfl rfl (fun v16 h17 =>
  jr_prF 49 52 rfl rfl jg_8_27_6 rfl (fun h18 =>
  jr_aloadn 52 53 rfl rfl rfl
  (jr_bipush 53 55 (6 : Int32) rfl jc_b_6 rfl
  (jr_na 55 57 rfl rfl rfl rfl (fun v19 h20 =>
  jr_prF 57 60 rfl rfl jg_8_30_6 rfl (fun h21 =>
  jr_aloadn 60 61 rfl rfl rfl
  (jr_bipush 61 63 (6 : Int32) rfl jc_b_6 rfl
  (jr_na 63 65 rfl rfl rfl rfl (fun v22 h23 =>
  jr_prF 65 68 rfl rfl jg_8_33_6 rfl (fun h24 =>
  jr_aloadn 68 69 rfl rfl rfl
  (jr_bipush 69 71 (10 : Int32) rfl jc_b_10 rfl
  (jr_na 71 73 rfl rfl rfl rfl (fun v25 h26 =>
  jr_prF 73 76 rfl rfl jg_8_36_6 rfl (fun h27 =>
  jr_aloadn 76 77 rfl rfl rfl
  (jr_bipush 77 79 (10 : Int32) rfl jc_b_10 rfl
  (jr_na 79 81 rfl rfl rfl rfl (fun v28 h29 =>
  jr_prF 81 84 rfl rfl jg_8_39_6 rfl (fun h30 =>
  jr_aloadn 84 85 rfl rfl rfl
  (jr_bipush 85 87 (10 : Int32) rfl jc_b_10 rfl
  (jr_na 87 89 rfl rfl rfl rfl (fun v31 h32 =>
  jr_prF 89 92 rfl rfl jg_8_42_6 rfl (fun h33 =>
  jr_aloadn 92 93 rfl rfl rfl
  (jr_bipush 93 95 (8 : Int32) rfl jc_b_8 rfl
  (jr_na 95 97 rfl rfl rfl rfl (fun v34 h35 =>
  jr_prF 97 100 rfl rfl jg_8_45_6 rfl (fun h36 =>
  jr_rv 100 rfl rfl)))))))))))))))))))))))))))))))))))))))))))))))))))
noncomputable def jM_318 : JMeth := (15, false, 1, jk_318, [], 1)
set_option maxRecDepth 100000 in
theorem jM_318_at : jt_Ms 318 = some jM_318 := rfl
noncomputable def F_Int_bitCount (l0 : Int32) (h : LH) : Option (Int32 × LH) :=
 jf_let (l0 - ((ji_ushr l0 (1 : Int32)) &&& (1431655765 : Int32))) fun v1 =>
 jf_let ((v1 &&& (858993459 : Int32)) + ((ji_ushr v1 (2 : Int32)) &&& (858993459 : Int32))) fun v2 =>
 jf_let ((v2 + (ji_ushr v2 (4 : Int32))) &&& (252645135 : Int32)) fun v3 =>
 jf_let (v3 + (ji_ushr v3 (8 : Int32))) fun v4 =>
 jf_let (v4 + (ji_ushr v4 (16 : Int32))) fun v5 =>
 some ((v5 &&& (63 : Int32)), h)
set_option maxRecDepth 100000 in
theorem F_Int_bitCount_ok {d : Nat} (hd : 1 ≤ d) {l0 : Int32} {h : LH} {q : (Int32 × LH)} : F_Int_bitCount l0 h = some q → jl_Sem jt_T jt_Ms d 318 [.int l0] h (jo_i q) := by
 unfold F_Int_bitCount
 exact jr_enter (D := 0) hd jM_318_at rfl rfl rfl (fun d hd =>
  jr_iloadn 0 1 rfl rfl rfl
  (jr_iloadn 1 2 rfl rfl rfl
  (jr_iconst 2 3 (1 : Int32) rfl jc_i_1 rfl
  (jr_iushr 3 4 rfl rfl
  (jr_ldcwi 4 7 rfl rfl rfl rfl
  (jr_iand 7 8 rfl rfl
  (jr_isub 8 9 rfl rfl
  (jr_istorenL 9 10 (fun v1 => [.int v1]) rfl rfl (fun _ => rfl) rfl (fun v1 =>
  jr_iloadn 10 11 rfl rfl rfl
  (jr_ldcwi 11 14 rfl rfl rfl rfl
  (jr_iand 14 15 rfl rfl
  (jr_iloadn 15 16 rfl rfl rfl
  (jr_iconst 16 17 (2 : Int32) rfl jc_i_2 rfl
  (jr_iushr 17 18 rfl rfl
  (jr_ldcwi 18 21 rfl rfl rfl rfl
  (jr_iand 21 22 rfl rfl
  (jr_iadd 22 23 rfl rfl
  (jr_istorenL 23 24 (fun v2 => [.int v2]) rfl rfl (fun _ => rfl) rfl (fun v2 =>
  jr_iloadn 24 25 rfl rfl rfl
  (jr_iloadn 25 26 rfl rfl rfl
  (jr_iconst 26 27 (4 : Int32) rfl jc_i_4 rfl
  (jr_iushr 27 28 rfl rfl
  (jr_iadd 28 29 rfl rfl
  (jr_ldcwi 29 32 rfl rfl rfl rfl
  (jr_iand 32 33 rfl rfl
  (jr_istorenL 33 34 (fun v3 => [.int v3]) rfl rfl (fun _ => rfl) rfl (fun v3 =>
  jr_iloadn 34 35 rfl rfl rfl
  (jr_iloadn 35 36 rfl rfl rfl
  (jr_bipush 36 38 (8 : Int32) rfl jc_b_8 rfl
  (jr_iushr 38 39 rfl rfl
  (jr_iadd 39 40 rfl rfl
  (jr_istorenL 40 41 (fun v4 => [.int v4]) rfl rfl (fun _ => rfl) rfl (fun v4 =>
  jr_iloadn 41 42 rfl rfl rfl
  (jr_iloadn 42 43 rfl rfl rfl
  (jr_bipush 43 45 (16 : Int32) rfl jc_b_16 rfl
  (jr_iushr 45 46 rfl rfl
  (jr_iadd 46 47 rfl rfl
  (jr_istorenL 47 48 (fun v5 => [.int v5]) rfl rfl (fun _ => rfl) rfl (fun v5 =>
  jr_iloadn 48 49 rfl rfl rfl
  (jr_bipush 49 51 (63 : Int32) rfl jc_b_63 rfl
  (jr_iand 51 52 rfl rfl
  (jr_ri 52 rfl rfl))))))))))))))))))))))))))))))))))))))))))
noncomputable def jM_96 : JMeth := (8, false, 1, jk_96, [], 6)
set_option maxRecDepth 100000 in
theorem jM_96_at : jt_Ms 96 = some jM_96 := rfl
noncomputable def F_Town_nearestSignal_b43 (k8 : Nat → Int32 → Int32 → Int32 → Int32 → LH → Option (Int32 × LH)) (l0 : Nat) (l1 : Int32) (l2 : Int32) (l3 : Int32) (l4 : Int32) (h : LH) : Option (Int32 × LH) :=
 k8 l0 l1 l2 l3 (l4 + (1 : Int32)) h
set_option maxRecDepth 100000 in
theorem F_Town_nearestSignal_b43_ok {d : Nat} {q : (Int32 × LH)} {k8 : Nat → Int32 → Int32 → Int32 → Int32 → LH → Option (Int32 × LH)} (hd : 1 ≤ d) (hk8 : ∀ (l0 : Nat) (l1 : Int32) (l2 : Int32) (l3 : Int32) (l4 : Int32) (u5 : Value) (h : LH), k8 l0 l1 l2 l3 l4 h = some q → JR d jM_96 8 [.ref l0, .int l1, .int l2, .int l3, .int l4, u5] [] h (jo_i q)) {l0 : Nat} {l1 : Int32} {l2 : Int32} {l3 : Int32} {l4 : Int32} {u5 : Value} {h : LH} : F_Town_nearestSignal_b43 k8 l0 l1 l2 l3 l4 h = some q → JR d jM_96 43 [.ref l0, .int l1, .int l2, .int l3, .int l4, u5] [] h (jo_i q) := by
 unfold F_Town_nearestSignal_b43
 exact jr_iinc 43 46 [.ref l0, .int l1, .int l2, .int l3, .int (l4 + (1 : Int32)), u5] rfl jc_i_1 rfl rfl rfl rfl
  (jr_goto 46 8 rfl rfl
  ((hk8 _ _ _ _ _ _ _)))
noncomputable def F_Town_nearestSignal_c8 (k8 : Nat → Int32 → Int32 → Int32 → Int32 → LH → Option (Int32 × LH)) (l0 : Nat) (l1 : Int32) (l2 : Int32) (l3 : Int32) (l4 : Int32) (h : LH) : Option (Int32 × LH) :=
 jf_gi h l0 8 5 fun v1 =>
 if l4 < v1 then
 jf_gr h l0 8 17 fun v2 =>
 jf_ia h v2 l4 fun v3 =>
 jf_bi (F_Int_bitCount (v3 ^^^ l1) h) fun v4 h5 =>
 if v4 < l3 then
 F_Town_nearestSignal_b43 k8 l0 l1 l4 v4 l4 h5
else
 F_Town_nearestSignal_b43 k8 l0 l1 l2 l3 l4 h5
else
 some (l2, h)
set_option maxRecDepth 100000 in
theorem F_Town_nearestSignal_c8_ok {d : Nat} {q : (Int32 × LH)} {k8 : Nat → Int32 → Int32 → Int32 → Int32 → LH → Option (Int32 × LH)} (hd : 1 ≤ d) (hk8 : ∀ (l0 : Nat) (l1 : Int32) (l2 : Int32) (l3 : Int32) (l4 : Int32) (u5 : Value) (h : LH), k8 l0 l1 l2 l3 l4 h = some q → JR d jM_96 8 [.ref l0, .int l1, .int l2, .int l3, .int l4, u5] [] h (jo_i q)) {l0 : Nat} {l1 : Int32} {l2 : Int32} {l3 : Int32} {l4 : Int32} {u5 : Value} {h : LH} : F_Town_nearestSignal_c8 k8 l0 l1 l2 l3 l4 h = some q → JR d jM_96 8 [.ref l0, .int l1, .int l2, .int l3, .int l4, u5] [] h (jo_i q) := by
 unfold F_Town_nearestSignal_c8
 exact jr_iload 8 10 rfl rfl rfl
  (jr_aloadn 10 11 rfl rfl rfl
  (jr_gi 11 14 rfl jg_8_64_1 rfl (fun v1 =>
  jr_icmp_ge 14 49 17 rfl rfl rfl
  (jr_iloadn 49 50 rfl rfl rfl
  (jr_ri 50 rfl rfl))
  (jr_aloadn 17 18 rfl rfl rfl
  (jr_gr 18 21 rfl jg_8_45_2 rfl (fun v2 =>
  jr_iload 21 23 rfl rfl rfl
  (jr_ia 23 24 rfl rfl (fun v3 =>
  jr_iloadn 24 25 rfl rfl rfl
  (jr_ixor 25 26 rfl rfl
  (jr_cSi 26 29 [] rfl rfl rfl rfl rfl rfl rfl (as := [.int (v3 ^^^ l1)]) (F_Int_bitCount_ok (Nat.le_trans (by decide : 1 ≤ 1) hd)) (fun v4 h5 =>
  jr_istore 29 31 [.ref l0, .int l1, .int l2, .int l3, .int l4, .int v4] rfl rfl rfl rfl
  (jr_iload 31 33 rfl rfl rfl
  (jr_iloadn 33 34 rfl rfl rfl
  (jr_icmp_ge 34 43 37 rfl rfl rfl
  ((F_Town_nearestSignal_b43_ok hd hk8))
  (jr_iload 37 39 rfl rfl rfl
  (jr_istoren 39 40 [.ref l0, .int l1, .int l2, .int v4, .int l4, .int v4] rfl rfl rfl rfl
  (jr_iload 40 42 rfl rfl rfl
  (jr_istoren 42 43 [.ref l0, .int l1, .int l4, .int v4, .int l4, .int v4] rfl rfl rfl rfl
  ((F_Town_nearestSignal_b43_ok hd hk8))))))))))))))))))))
noncomputable def F_Town_nearestSignal_l8 : Nat → Nat → Int32 → Int32 → Int32 → Int32 → LH → Option (Int32 × LH)
 | 0, _, _, _, _, _, _ => none
 | n + 1, l0, l1, l2, l3, l4, h => F_Town_nearestSignal_c8 (F_Town_nearestSignal_l8 n) l0 l1 l2 l3 l4 h
theorem F_Town_nearestSignal_l8_ok {d : Nat} {q : (Int32 × LH)} (hd : 1 ≤ d) : ∀ (n : Nat) (l0 : Nat) (l1 : Int32) (l2 : Int32) (l3 : Int32) (l4 : Int32) (u5 : Value) (h : LH), F_Town_nearestSignal_l8 n l0 l1 l2 l3 l4 h = some q → JR d jM_96 8 [.ref l0, .int l1, .int l2, .int l3, .int l4, u5] [] h (jo_i q)
 | 0 => fun _ _ _ _ _ _ _ hq => nomatch (show (none : Option (Int32 × LH)) = some q from hq)
 | n + 1 => fun _ _ _ _ _ _ _ hq => F_Town_nearestSignal_c8_ok hd (F_Town_nearestSignal_l8_ok hd n) hq
noncomputable def F_Town_nearestSignal (l0 : Nat) (l1 : Int32) (h : LH) : Option (Int32 × LH) :=
 F_Town_nearestSignal_l8  jF l0 l1 (-1 : Int32) (10 : Int32) (0 : Int32) h
set_option maxRecDepth 100000 in
theorem F_Town_nearestSignal_ok {d : Nat} (hd : 2 ≤ d) {l0 : Nat} {l1 : Int32} {h : LH} {q : (Int32 × LH)} : F_Town_nearestSignal l0 l1 h = some q → jl_Sem jt_T jt_Ms d 96 [.ref l0, .int l1] h (jo_i q) := by
 unfold F_Town_nearestSignal
 exact jr_enter (D := 1) hd jM_96_at rfl rfl rfl (fun d hd =>
  jr_iconst 0 1 (-1 : Int32) rfl jc_i_m1 rfl
  (jr_istoren 1 2 [.ref l0, .int l1, .int (-1 : Int32), .retAddr 0, .retAddr 0, .retAddr 0] rfl rfl rfl rfl
  (jr_bipush 2 4 (10 : Int32) rfl jc_b_10 rfl
  (jr_istoren 4 5 [.ref l0, .int l1, .int (-1 : Int32), .int (10 : Int32), .retAddr 0, .retAddr 0] rfl rfl rfl rfl
  (jr_iconst 5 6 (0 : Int32) rfl jc_i_0 rfl
  (jr_istore 6 8 [.ref l0, .int l1, .int (-1 : Int32), .int (10 : Int32), .int (0 : Int32), .retAddr 0] rfl rfl rfl rfl
  ((F_Town_nearestSignal_l8_ok hd  jF _ _ _ _ _ _ _))))))))
noncomputable def jM_99 : JMeth := (8, false, 0, jk_99, [], 3)
set_option maxRecDepth 100000 in
theorem jM_99_at : jt_Ms 99 = some jM_99 := rfl
noncomputable def F_Town_readGate (l0 : Nat) (l1 : Nat) (l2 : Int32) (h : LH) : Option LH :=
 if l2 = 0 then
 jf_gr h l0 8 6 fun v1 =>
 jf_gi h l0 8 0 fun v2 =>
 jf_kd h l1 7
 (jf_bi (F_Text_number l1 (0 : Int32) (3 : Int32) h) fun v3 h4 =>
 jf_is h4 v1 v2 v3 fun h5 =>
 jf_gi h5 l0 8 0 fun v6 =>
 jf_pi h5 l0 8 0 (v6 + (1 : Int32)) fun h7 =>
 some h7)
else
 jf_kd h l1 7
 ((F_Text_fail l1 (3 : Int32) h).bind fun h8 =>
 some h8)
set_option maxRecDepth 100000 in
theorem F_Town_readGate_ok {d : Nat} (hd : 4 ≤ d) {l0 : Nat} {l1 : Nat} {l2 : Int32} {h : LH} {q : LH} : F_Town_readGate l0 l1 l2 h = some q → jl_Sem jt_T jt_Ms d 99 [.ref l0, .ref l1, .int l2] h (jo_v q) := by
 unfold F_Town_readGate
 exact jr_enter (D := 3) hd jM_99_at rfl rfl rfl (fun d hd =>
  jr_iloadn 0 1 rfl rfl rfl
  (jr_if_eq 1 10 4 rfl rfl rfl
  (jr_aloadn 10 11 rfl rfl rfl
  (jr_gr 11 14 rfl jg_8_9_2 rfl (fun v1 =>
  jr_aloadn 14 15 rfl rfl rfl
  (jr_gi 15 18 rfl jg_8_48_1 rfl (fun v2 =>
  jr_aloadn 18 19 rfl rfl rfl
  (jr_iconst 19 20 (0 : Int32) rfl jc_i_0 rfl
  (jr_iconst 20 21 (3 : Int32) rfl jc_i_3 rfl
  (jr_cVi 21 24 [.int v2, .ref v1] rfl rfl rfl rfl rfl rfl rfl rfl (as := [.int (0 : Int32), .int (3 : Int32)]) (F_Text_number_ok (Nat.le_trans (by decide : 3 ≤ 3) hd)) (fun v3 h4 =>
  jr_is 24 25 rfl rfl (fun h5 =>
  jr_aloadn 25 26 rfl rfl rfl
  (jr_dup 26 27 rfl rfl rfl
  (jr_gi 27 30 rfl jg_8_48_1 rfl (fun v6 =>
  jr_iconst 30 31 (1 : Int32) rfl jc_i_1 rfl
  (jr_iadd 31 32 rfl rfl
  (jr_pi 32 35 rfl jg_8_48_3 rfl (fun h7 =>
  jr_rv 35 rfl rfl))))))))))))))))
  (jr_aloadn 4 5 rfl rfl rfl
  (jr_iconst 5 6 (3 : Int32) rfl jc_i_3 rfl
  (jr_cVv 6 9 [] rfl rfl rfl rfl rfl rfl rfl rfl (as := [.int (3 : Int32)]) (F_Text_fail_ok (Nat.le_trans (by decide : 2 ≤ 3) hd)) (fun h8 =>
  jr_rv 9 rfl rfl))))))
noncomputable def jM_100 : JMeth := (8, false, 0, jk_100, [], 3)
set_option maxRecDepth 100000 in
theorem jM_100_at : jt_Ms 100 = some jM_100 := rfl
noncomputable def F_Town_readWood (l0 : Nat) (l1 : Nat) (l2 : Int32) (h : LH) : Option LH :=
 if l2 = 0 then
 jf_gr h l0 8 7 fun v1 =>
 jf_gi h l0 8 1 fun v2 =>
 jf_kd h l1 7
 (jf_bi (F_Text_number l1 (1 : Int32) (20 : Int32) h) fun v3 h4 =>
 jf_is h4 v1 v2 v3 fun h5 =>
 jf_gr h5 l0 8 8 fun v6 =>
 jf_gi h5 l0 8 1 fun v7 =>
 jf_kd h5 l1 7
 (jf_bi (F_Text_number l1 (1 : Int32) (9 : Int32) h5) fun v8 h9 =>
 jf_is h9 v6 v7 v8 fun h10 =>
 jf_gr h10 l0 8 9 fun v11 =>
 jf_gi h10 l0 8 1 fun v12 =>
 jf_kd h10 l1 7
 (jf_bi (F_Text_number l1 (0 : Int32) (31 : Int32) h10) fun v13 h14 =>
 jf_is h14 v11 v12 v13 fun h15 =>
 jf_gr h15 l0 8 10 fun v16 =>
 jf_gi h15 l0 8 1 fun v17 =>
 jf_kd h15 l1 7
 (jf_bi (F_Text_number l1 (0 : Int32) (40 : Int32) h15) fun v18 h19 =>
 jf_is h19 v16 v17 v18 fun h20 =>
 jf_gi h20 l0 8 1 fun v21 =>
 jf_pi h20 l0 8 1 (v21 + (1 : Int32)) fun h22 =>
 some h22))))
else
 jf_kd h l1 7
 ((F_Text_fail l1 (3 : Int32) h).bind fun h23 =>
 some h23)
set_option maxRecDepth 100000 in
theorem F_Town_readWood_ok {d : Nat} (hd : 4 ≤ d) {l0 : Nat} {l1 : Nat} {l2 : Int32} {h : LH} {q : LH} : F_Town_readWood l0 l1 l2 h = some q → jl_Sem jt_T jt_Ms d 100 [.ref l0, .ref l1, .int l2] h (jo_v q) := by
 unfold F_Town_readWood
 exact jr_enter (D := 3) hd jM_100_at rfl rfl rfl (fun d hd =>
  jr_iloadn 0 1 rfl rfl rfl
  (jr_if_eq 1 10 4 rfl rfl rfl
  (jr_aloadn 10 11 rfl rfl rfl
  (jr_gr 11 14 rfl jg_8_15_2 rfl (fun v1 =>
  jr_aloadn 14 15 rfl rfl rfl
  (jr_gi 15 18 rfl jg_8_52_1 rfl (fun v2 =>
  jr_aloadn 18 19 rfl rfl rfl
  (jr_iconst 19 20 (1 : Int32) rfl jc_i_1 rfl
  (jr_bipush 20 22 (20 : Int32) rfl jc_b_20 rfl
  (jr_cVi 22 25 [.int v2, .ref v1] rfl rfl rfl rfl rfl rfl rfl rfl (as := [.int (1 : Int32), .int (20 : Int32)]) (F_Text_number_ok (Nat.le_trans (by decide : 3 ≤ 3) hd)) (fun v3 h4 =>
  jr_is 25 26 rfl rfl (fun h5 =>
  jr_aloadn 26 27 rfl rfl rfl
  (jr_gr 27 30 rfl jg_8_18_2 rfl (fun v6 =>
  jr_aloadn 30 31 rfl rfl rfl
  (jr_gi 31 34 rfl jg_8_52_1 rfl (fun v7 =>
  jr_aloadn 34 35 rfl rfl rfl
  (jr_iconst 35 36 (1 : Int32) rfl jc_i_1 rfl
  (jr_bipush 36 38 (9 : Int32) rfl jc_b_9 rfl
  (jr_cVi 38 41 [.int v7, .ref v6] rfl rfl rfl rfl rfl rfl rfl rfl (as := [.int (1 : Int32), .int (9 : Int32)]) (F_Text_number_ok (Nat.le_trans (by decide : 3 ≤ 3) hd)) (fun v8 h9 =>
  jr_is 41 42 rfl rfl (fun h10 =>
  jr_aloadn 42 43 rfl rfl rfl
  (jr_gr 43 46 rfl jg_8_21_2 rfl (fun v11 =>
  jr_aloadn 46 47 rfl rfl rfl
  (jr_gi 47 50 rfl jg_8_52_1 rfl (fun v12 =>
  jr_aloadn 50 51 rfl rfl rfl
  (jr_iconst 51 52 (0 : Int32) rfl jc_i_0 rfl
  (jr_bipush 52 54 (31 : Int32) rfl jc_b_31 rfl
  (jr_cVi 54 57 [.int v12, .ref v11] rfl rfl rfl rfl rfl rfl rfl rfl (as := [.int (0 : Int32), .int (31 : Int32)]) (F_Text_number_ok (Nat.le_trans (by decide : 3 ≤ 3) hd)) (fun v13 h14 =>
  jr_is 57 58 rfl rfl (fun h15 =>
  jr_aloadn 58 59 rfl rfl rfl
  (jr_gr 59 62 rfl jg_8_24_2 rfl (fun v16 =>
  jr_aloadn 62 63 rfl rfl rfl
  (jr_gi 63 66 rfl jg_8_52_1 rfl (fun v17 =>
  jr_aloadn 66 67 rfl rfl rfl
  (jr_iconst 67 68 (0 : Int32) rfl jc_i_0 rfl
  (jr_bipush 68 70 (40 : Int32) rfl jc_b_40 rfl
  (jr_cVi 70 73 [.int v17, .ref v16] rfl rfl rfl rfl rfl rfl rfl rfl (as := [.int (0 : Int32), .int (40 : Int32)]) (F_Text_number_ok (Nat.le_trans (by decide : 3 ≤ 3) hd)) (fun v18 h19 =>
  jr_is 73 74 rfl rfl (fun h20 =>
  jr_aloadn 74 75 rfl rfl rfl
  (jr_dup 75 76 rfl rfl rfl
  (jr_gi 76 79 rfl jg_8_52_1 rfl (fun v21 =>
  jr_iconst 79 80 (1 : Int32) rfl jc_i_1 rfl
  (jr_iadd 80 81 rfl rfl
  (jr_pi 81 84 rfl jg_8_52_3 rfl (fun h22 =>
  jr_rv 84 rfl rfl)))))))))))))))))))))))))))))))))))))))))))
  (jr_aloadn 4 5 rfl rfl rfl
  (jr_iconst 5 6 (3 : Int32) rfl jc_i_3 rfl
  (jr_cVv 6 9 [] rfl rfl rfl rfl rfl rfl rfl rfl (as := [.int (3 : Int32)]) (F_Text_fail_ok (Nat.le_trans (by decide : 2 ≤ 3) hd)) (fun h23 =>
  jr_rv 9 rfl rfl))))))
noncomputable def jM_101 : JMeth := (8, false, 0, jk_101, [], 3)
set_option maxRecDepth 100000 in
theorem jM_101_at : jt_Ms 101 = some jM_101 := rfl
noncomputable def F_Town_readWind (l0 : Nat) (l1 : Nat) (l2 : Int32) (h : LH) : Option LH :=
 if l2 = 0 then
 jf_gr h l0 8 11 fun v1 =>
 jf_gi h l0 8 2 fun v2 =>
 jf_kd h l1 7
 (jf_bi (F_Text_number l1 (0 : Int32) (8 : Int32) h) fun v3 h4 =>
 jf_is h4 v1 v2 v3 fun h5 =>
 jf_gi h5 l0 8 2 fun v6 =>
 jf_pi h5 l0 8 2 (v6 + (1 : Int32)) fun h7 =>
 some h7)
else
 jf_kd h l1 7
 ((F_Text_fail l1 (3 : Int32) h).bind fun h8 =>
 some h8)
set_option maxRecDepth 100000 in
theorem F_Town_readWind_ok {d : Nat} (hd : 4 ≤ d) {l0 : Nat} {l1 : Nat} {l2 : Int32} {h : LH} {q : LH} : F_Town_readWind l0 l1 l2 h = some q → jl_Sem jt_T jt_Ms d 101 [.ref l0, .ref l1, .int l2] h (jo_v q) := by
 unfold F_Town_readWind
 exact jr_enter (D := 3) hd jM_101_at rfl rfl rfl (fun d hd =>
  jr_iloadn 0 1 rfl rfl rfl
  (jr_if_eq 1 10 4 rfl rfl rfl
  (jr_aloadn 10 11 rfl rfl rfl
  (jr_gr 11 14 rfl jg_8_27_2 rfl (fun v1 =>
  jr_aloadn 14 15 rfl rfl rfl
  (jr_gi 15 18 rfl jg_8_55_1 rfl (fun v2 =>
  jr_aloadn 18 19 rfl rfl rfl
  (jr_iconst 19 20 (0 : Int32) rfl jc_i_0 rfl
  (jr_bipush 20 22 (8 : Int32) rfl jc_b_8 rfl
  (jr_cVi 22 25 [.int v2, .ref v1] rfl rfl rfl rfl rfl rfl rfl rfl (as := [.int (0 : Int32), .int (8 : Int32)]) (F_Text_number_ok (Nat.le_trans (by decide : 3 ≤ 3) hd)) (fun v3 h4 =>
  jr_is 25 26 rfl rfl (fun h5 =>
  jr_aloadn 26 27 rfl rfl rfl
  (jr_dup 27 28 rfl rfl rfl
  (jr_gi 28 31 rfl jg_8_55_1 rfl (fun v6 =>
  jr_iconst 31 32 (1 : Int32) rfl jc_i_1 rfl
  (jr_iadd 32 33 rfl rfl
  (jr_pi 33 36 rfl jg_8_55_3 rfl (fun h7 =>
  jr_rv 36 rfl rfl))))))))))))))))
  (jr_aloadn 4 5 rfl rfl rfl
  (jr_iconst 5 6 (3 : Int32) rfl jc_i_3 rfl
  (jr_cVv 6 9 [] rfl rfl rfl rfl rfl rfl rfl rfl (as := [.int (3 : Int32)]) (F_Text_fail_ok (Nat.le_trans (by decide : 2 ≤ 3) hd)) (fun h8 =>
  jr_rv 9 rfl rfl))))))
noncomputable def jM_102 : JMeth := (8, false, 0, jk_102, [], 3)
set_option maxRecDepth 100000 in
theorem jM_102_at : jt_Ms 102 = some jM_102 := rfl
noncomputable def F_Town_readRain (l0 : Nat) (l1 : Nat) (l2 : Int32) (h : LH) : Option LH :=
 if l2 = 0 then
 jf_gr h l0 8 12 fun v1 =>
 jf_gi h l0 8 3 fun v2 =>
 jf_kd h l1 7
 (jf_bi (F_Text_number l1 (0 : Int32) (99 : Int32) h) fun v3 h4 =>
 jf_is h4 v1 v2 v3 fun h5 =>
 jf_gr h5 l0 8 13 fun v6 =>
 jf_gi h5 l0 8 3 fun v7 =>
 jf_gr h5 l0 8 12 fun v8 =>
 jf_gi h5 l0 8 3 fun v9 =>
 jf_ia h5 v8 v9 fun v10 =>
 jf_kd h5 l1 7
 (jf_bi (F_Text_number l1 v10 (99 : Int32) h5) fun v11 h12 =>
 jf_is h12 v6 v7 v11 fun h13 =>
 jf_gi h13 l0 8 3 fun v14 =>
 jf_pi h13 l0 8 3 (v14 + (1 : Int32)) fun h15 =>
 some h15))
else
 jf_kd h l1 7
 ((F_Text_fail l1 (3 : Int32) h).bind fun h16 =>
 some h16)
set_option maxRecDepth 100000 in
theorem F_Town_readRain_ok {d : Nat} (hd : 4 ≤ d) {l0 : Nat} {l1 : Nat} {l2 : Int32} {h : LH} {q : LH} : F_Town_readRain l0 l1 l2 h = some q → jl_Sem jt_T jt_Ms d 102 [.ref l0, .ref l1, .int l2] h (jo_v q) := by
 unfold F_Town_readRain
 exact jr_enter (D := 3) hd jM_102_at rfl rfl rfl (fun d hd =>
  jr_iloadn 0 1 rfl rfl rfl
  (jr_if_eq 1 10 4 rfl rfl rfl
  (jr_aloadn 10 11 rfl rfl rfl
  (jr_gr 11 14 rfl jg_8_30_2 rfl (fun v1 =>
  jr_aloadn 14 15 rfl rfl rfl
  (jr_gi 15 18 rfl jg_8_58_1 rfl (fun v2 =>
  jr_aloadn 18 19 rfl rfl rfl
  (jr_iconst 19 20 (0 : Int32) rfl jc_i_0 rfl
  (jr_bipush 20 22 (99 : Int32) rfl jc_b_99 rfl
  (jr_cVi 22 25 [.int v2, .ref v1] rfl rfl rfl rfl rfl rfl rfl rfl (as := [.int (0 : Int32), .int (99 : Int32)]) (F_Text_number_ok (Nat.le_trans (by decide : 3 ≤ 3) hd)) (fun v3 h4 =>
  jr_is 25 26 rfl rfl (fun h5 =>
  jr_aloadn 26 27 rfl rfl rfl
  (jr_gr 27 30 rfl jg_8_33_2 rfl (fun v6 =>
  jr_aloadn 30 31 rfl rfl rfl
  (jr_gi 31 34 rfl jg_8_58_1 rfl (fun v7 =>
  jr_aloadn 34 35 rfl rfl rfl
  (jr_aloadn 35 36 rfl rfl rfl
  (jr_gr 36 39 rfl jg_8_30_2 rfl (fun v8 =>
  jr_aloadn 39 40 rfl rfl rfl
  (jr_gi 40 43 rfl jg_8_58_1 rfl (fun v9 =>
  jr_ia 43 44 rfl rfl (fun v10 =>
  jr_bipush 44 46 (99 : Int32) rfl jc_b_99 rfl
  (jr_cVi 46 49 [.int v7, .ref v6] rfl rfl rfl rfl rfl rfl rfl rfl (as := [.int v10, .int (99 : Int32)]) (F_Text_number_ok (Nat.le_trans (by decide : 3 ≤ 3) hd)) (fun v11 h12 =>
  jr_is 49 50 rfl rfl (fun h13 =>
  jr_aloadn 50 51 rfl rfl rfl
  (jr_dup 51 52 rfl rfl rfl
  (jr_gi 52 55 rfl jg_8_58_1 rfl (fun v14 =>
  jr_iconst 55 56 (1 : Int32) rfl jc_i_1 rfl
  (jr_iadd 56 57 rfl rfl
  (jr_pi 57 60 rfl jg_8_58_3 rfl (fun h15 =>
  jr_rv 60 rfl rfl)))))))))))))))))))))))))))))
  (jr_aloadn 4 5 rfl rfl rfl
  (jr_iconst 5 6 (3 : Int32) rfl jc_i_3 rfl
  (jr_cVv 6 9 [] rfl rfl rfl rfl rfl rfl rfl rfl (as := [.int (3 : Int32)]) (F_Text_fail_ok (Nat.le_trans (by decide : 2 ≤ 3) hd)) (fun h16 =>
  jr_rv 9 rfl rfl))))))
noncomputable def jM_103 : JMeth := (8, false, 0, jk_103, [], 3)
set_option maxRecDepth 100000 in
theorem jM_103_at : jt_Ms 103 = some jM_103 := rfl
noncomputable def F_Town_readComer (l0 : Nat) (l1 : Nat) (l2 : Int32) (h : LH) : Option LH :=
 if l2 = 0 then
 jf_gr h l0 8 14 fun v1 =>
 jf_gi h l0 8 4 fun v2 =>
 jf_gi h l0 8 0 fun v3 =>
 jf_kd h l1 7
 (jf_bi (F_Text_number l1 (0 : Int32) (v3 - (1 : Int32)) h) fun v4 h5 =>
 jf_is h5 v1 v2 v4 fun h6 =>
 jf_gr h6 l0 8 15 fun v7 =>
 jf_gi h6 l0 8 4 fun v8 =>
 jf_kd h6 l1 7
 (jf_bi (F_Text_number l1 (0 : Int32) (99 : Int32) h6) fun v9 h10 =>
 jf_is h10 v7 v8 v9 fun h11 =>
 jf_gr h11 l0 8 16 fun v12 =>
 jf_gi h11 l0 8 4 fun v13 =>
 jf_kd h11 l1 7
 (jf_bi (F_Text_number l1 (0 : Int32) (9 : Int32) h11) fun v14 h15 =>
 jf_is h15 v12 v13 v14 fun h16 =>
 jf_gi h16 l0 8 4 fun v17 =>
 jf_pi h16 l0 8 4 (v17 + (1 : Int32)) fun h18 =>
 some h18)))
else
 jf_kd h l1 7
 ((F_Text_fail l1 (3 : Int32) h).bind fun h19 =>
 some h19)
set_option maxRecDepth 100000 in
theorem F_Town_readComer_ok {d : Nat} (hd : 4 ≤ d) {l0 : Nat} {l1 : Nat} {l2 : Int32} {h : LH} {q : LH} : F_Town_readComer l0 l1 l2 h = some q → jl_Sem jt_T jt_Ms d 103 [.ref l0, .ref l1, .int l2] h (jo_v q) := by
 unfold F_Town_readComer
 exact jr_enter (D := 3) hd jM_103_at rfl rfl rfl (fun d hd =>
  jr_iloadn 0 1 rfl rfl rfl
  (jr_if_eq 1 10 4 rfl rfl rfl
  (jr_aloadn 10 11 rfl rfl rfl
  (jr_gr 11 14 rfl jg_8_36_2 rfl (fun v1 =>
  jr_aloadn 14 15 rfl rfl rfl
  (jr_gi 15 18 rfl jg_8_61_1 rfl (fun v2 =>
  jr_aloadn 18 19 rfl rfl rfl
  (jr_iconst 19 20 (0 : Int32) rfl jc_i_0 rfl
  (jr_aloadn 20 21 rfl rfl rfl
  (jr_gi 21 24 rfl jg_8_48_1 rfl (fun v3 =>
  jr_iconst 24 25 (1 : Int32) rfl jc_i_1 rfl
  (jr_isub 25 26 rfl rfl
  (jr_cVi 26 29 [.int v2, .ref v1] rfl rfl rfl rfl rfl rfl rfl rfl (as := [.int (0 : Int32), .int (v3 - (1 : Int32))]) (F_Text_number_ok (Nat.le_trans (by decide : 3 ≤ 3) hd)) (fun v4 h5 =>
  jr_is 29 30 rfl rfl (fun h6 =>
  jr_aloadn 30 31 rfl rfl rfl
  (jr_gr 31 34 rfl jg_8_39_2 rfl (fun v7 =>
  jr_aloadn 34 35 rfl rfl rfl
  (jr_gi 35 38 rfl jg_8_61_1 rfl (fun v8 =>
  jr_aloadn 38 39 rfl rfl rfl
  (jr_iconst 39 40 (0 : Int32) rfl jc_i_0 rfl
  (jr_bipush 40 42 (99 : Int32) rfl jc_b_99 rfl
  (jr_cVi 42 45 [.int v8, .ref v7] rfl rfl rfl rfl rfl rfl rfl rfl (as := [.int (0 : Int32), .int (99 : Int32)]) (F_Text_number_ok (Nat.le_trans (by decide : 3 ≤ 3) hd)) (fun v9 h10 =>
  jr_is 45 46 rfl rfl (fun h11 =>
  jr_aloadn 46 47 rfl rfl rfl
  (jr_gr 47 50 rfl jg_8_42_2 rfl (fun v12 =>
  jr_aloadn 50 51 rfl rfl rfl
  (jr_gi 51 54 rfl jg_8_61_1 rfl (fun v13 =>
  jr_aloadn 54 55 rfl rfl rfl
  (jr_iconst 55 56 (0 : Int32) rfl jc_i_0 rfl
  (jr_bipush 56 58 (9 : Int32) rfl jc_b_9 rfl
  (jr_cVi 58 61 [.int v13, .ref v12] rfl rfl rfl rfl rfl rfl rfl rfl (as := [.int (0 : Int32), .int (9 : Int32)]) (F_Text_number_ok (Nat.le_trans (by decide : 3 ≤ 3) hd)) (fun v14 h15 =>
  jr_is 61 62 rfl rfl (fun h16 =>
  jr_aloadn 62 63 rfl rfl rfl
  (jr_dup 63 64 rfl rfl rfl
  (jr_gi 64 67 rfl jg_8_61_1 rfl (fun v17 =>
  jr_iconst 67 68 (1 : Int32) rfl jc_i_1 rfl
  (jr_iadd 68 69 rfl rfl
  (jr_pi 69 72 rfl jg_8_61_3 rfl (fun h18 =>
  jr_rv 72 rfl rfl)))))))))))))))))))))))))))))))))))))
  (jr_aloadn 4 5 rfl rfl rfl
  (jr_iconst 5 6 (3 : Int32) rfl jc_i_3 rfl
  (jr_cVv 6 9 [] rfl rfl rfl rfl rfl rfl rfl rfl (as := [.int (3 : Int32)]) (F_Text_fail_ok (Nat.le_trans (by decide : 2 ≤ 3) hd)) (fun h19 =>
  jr_rv 9 rfl rfl))))))
noncomputable def jM_104 : JMeth := (8, false, 0, jk_104, [], 3)
set_option maxRecDepth 100000 in
theorem jM_104_at : jt_Ms 104 = some jM_104 := rfl
noncomputable def F_Town_readSignal (l0 : Nat) (l1 : Nat) (l2 : Int32) (h : LH) : Option LH :=
 if l2 = 0 then
 jf_gr h l0 8 17 fun v1 =>
 jf_gi h l0 8 5 fun v2 =>
 jf_kd h l1 7
 (jf_bi (F_Text_number l1 (0 : Int32) (511 : Int32) h) fun v3 h4 =>
 jf_is h4 v1 v2 v3 fun h5 =>
 jf_gi h5 l0 8 5 fun v6 =>
 jf_pi h5 l0 8 5 (v6 + (1 : Int32)) fun h7 =>
 some h7)
else
 jf_kd h l1 7
 ((F_Text_fail l1 (3 : Int32) h).bind fun h8 =>
 some h8)
set_option maxRecDepth 100000 in
theorem F_Town_readSignal_ok {d : Nat} (hd : 4 ≤ d) {l0 : Nat} {l1 : Nat} {l2 : Int32} {h : LH} {q : LH} : F_Town_readSignal l0 l1 l2 h = some q → jl_Sem jt_T jt_Ms d 104 [.ref l0, .ref l1, .int l2] h (jo_v q) := by
 unfold F_Town_readSignal
 exact jr_enter (D := 3) hd jM_104_at rfl rfl rfl (fun d hd =>
  jr_iloadn 0 1 rfl rfl rfl
  (jr_if_eq 1 10 4 rfl rfl rfl
  (jr_aloadn 10 11 rfl rfl rfl
  (jr_gr 11 14 rfl jg_8_45_2 rfl (fun v1 =>
  jr_aloadn 14 15 rfl rfl rfl
  (jr_gi 15 18 rfl jg_8_64_1 rfl (fun v2 =>
  jr_aloadn 18 19 rfl rfl rfl
  (jr_iconst 19 20 (0 : Int32) rfl jc_i_0 rfl
  (jr_sipush 20 23 (511 : Int32) rfl jc_s_511 rfl
  (jr_cVi 23 26 [.int v2, .ref v1] rfl rfl rfl rfl rfl rfl rfl rfl (as := [.int (0 : Int32), .int (511 : Int32)]) (F_Text_number_ok (Nat.le_trans (by decide : 3 ≤ 3) hd)) (fun v3 h4 =>
  jr_is 26 27 rfl rfl (fun h5 =>
  jr_aloadn 27 28 rfl rfl rfl
  (jr_dup 28 29 rfl rfl rfl
  (jr_gi 29 32 rfl jg_8_64_1 rfl (fun v6 =>
  jr_iconst 32 33 (1 : Int32) rfl jc_i_1 rfl
  (jr_iadd 33 34 rfl rfl
  (jr_pi 34 37 rfl jg_8_64_3 rfl (fun h7 =>
  jr_rv 37 rfl rfl))))))))))))))))
  (jr_aloadn 4 5 rfl rfl rfl
  (jr_iconst 5 6 (3 : Int32) rfl jc_i_3 rfl
  (jr_cVv 6 9 [] rfl rfl rfl rfl rfl rfl rfl rfl (as := [.int (3 : Int32)]) (F_Text_fail_ok (Nat.le_trans (by decide : 2 ≤ 3) hd)) (fun h8 =>
  jr_rv 9 rfl rfl))))))
noncomputable def jM_98 : JMeth := (8, false, 0, jk_98, [], 3)
set_option maxRecDepth 100000 in
theorem jM_98_at : jt_Ms 98 = some jM_98 := rfl
noncomputable def F_Town_readClause_b219 (h : LH) : Option LH :=
 some h
set_option maxRecDepth 100000 in
theorem F_Town_readClause_b219_ok {d : Nat} {q : LH} (hd : 5 ≤ d) {u0 : Value} {u1 : Value} {u2 : Value} {h : LH} : F_Town_readClause_b219 h = some q → JR d jM_98 219 [u0, u1, u2] [] h (jo_v q) := by
 unfold F_Town_readClause_b219
 exact jr_rv 219 rfl rfl
noncomputable def F_Town_readClause_b208 (s0 : Nat) (s1 : Nat) (s2 : Int32) (h : LH) : Option LH :=
 jf_kd h s0 8
 ((F_Town_readSignal s0 s1 s2 h).bind fun h1 =>
 F_Town_readClause_b219  h1)
set_option maxRecDepth 100000 in
theorem F_Town_readClause_b208_ok {d : Nat} {q : LH} (hd : 5 ≤ d) {s0 : Nat} {s1 : Nat} {s2 : Int32} {u0 : Value} {u1 : Value} {u2 : Value} {h : LH} : F_Town_readClause_b208 s0 s1 s2 h = some q → JR d jM_98 208 [u0, u1, u2] [.int s2, .ref s1, .ref s0] h (jo_v q) := by
 unfold F_Town_readClause_b208
 exact jr_cVv 208 211 [] rfl rfl rfl rfl rfl rfl rfl rfl (as := [.ref s1, .int s2]) (F_Town_readSignal_ok (Nat.le_trans (by decide : 4 ≤ 5) hd)) (fun h1 =>
  jr_goto 211 219 rfl rfl
  ((F_Town_readClause_b219_ok hd )))
noncomputable def F_Town_readClause_b203 (s0 : Nat) (s1 : Nat) (h : LH) : Option LH :=
 F_Town_readClause_b208  s0 s1 (1 : Int32) h
set_option maxRecDepth 100000 in
theorem F_Town_readClause_b203_ok {d : Nat} {q : LH} (hd : 5 ≤ d) {s0 : Nat} {s1 : Nat} {u0 : Value} {u1 : Value} {u2 : Value} {h : LH} : F_Town_readClause_b203 s0 s1 h = some q → JR d jM_98 203 [u0, u1, u2] [.ref s1, .ref s0] h (jo_v q) := by
 unfold F_Town_readClause_b203
 exact jr_iconst 203 204 (1 : Int32) rfl jc_i_1 rfl
  (jr_goto 204 208 rfl rfl
  ((F_Town_readClause_b208_ok hd )))
noncomputable def F_Town_readClause_b173 (s0 : Nat) (s1 : Nat) (s2 : Int32) (h : LH) : Option LH :=
 jf_kd h s0 8
 ((F_Town_readComer s0 s1 s2 h).bind fun h1 =>
 F_Town_readClause_b219  h1)
set_option maxRecDepth 100000 in
theorem F_Town_readClause_b173_ok {d : Nat} {q : LH} (hd : 5 ≤ d) {s0 : Nat} {s1 : Nat} {s2 : Int32} {u0 : Value} {u1 : Value} {u2 : Value} {h : LH} : F_Town_readClause_b173 s0 s1 s2 h = some q → JR d jM_98 173 [u0, u1, u2] [.int s2, .ref s1, .ref s0] h (jo_v q) := by
 unfold F_Town_readClause_b173
 exact jr_cVv 173 176 [] rfl rfl rfl rfl rfl rfl rfl rfl (as := [.ref s1, .int s2]) (F_Town_readComer_ok (Nat.le_trans (by decide : 4 ≤ 5) hd)) (fun h1 =>
  jr_goto 176 219 rfl rfl
  ((F_Town_readClause_b219_ok hd )))
noncomputable def F_Town_readClause_b168 (s0 : Nat) (s1 : Nat) (h : LH) : Option LH :=
 F_Town_readClause_b173  s0 s1 (1 : Int32) h
set_option maxRecDepth 100000 in
theorem F_Town_readClause_b168_ok {d : Nat} {q : LH} (hd : 5 ≤ d) {s0 : Nat} {s1 : Nat} {u0 : Value} {u1 : Value} {u2 : Value} {h : LH} : F_Town_readClause_b168 s0 s1 h = some q → JR d jM_98 168 [u0, u1, u2] [.ref s1, .ref s0] h (jo_v q) := by
 unfold F_Town_readClause_b168
 exact jr_iconst 168 169 (1 : Int32) rfl jc_i_1 rfl
  (jr_goto 169 173 rfl rfl
  ((F_Town_readClause_b173_ok hd )))
noncomputable def F_Town_readClause_b138 (s0 : Nat) (s1 : Nat) (s2 : Int32) (h : LH) : Option LH :=
 jf_kd h s0 8
 ((F_Town_readRain s0 s1 s2 h).bind fun h1 =>
 F_Town_readClause_b219  h1)
set_option maxRecDepth 100000 in
theorem F_Town_readClause_b138_ok {d : Nat} {q : LH} (hd : 5 ≤ d) {s0 : Nat} {s1 : Nat} {s2 : Int32} {u0 : Value} {u1 : Value} {u2 : Value} {h : LH} : F_Town_readClause_b138 s0 s1 s2 h = some q → JR d jM_98 138 [u0, u1, u2] [.int s2, .ref s1, .ref s0] h (jo_v q) := by
 unfold F_Town_readClause_b138
 exact jr_cVv 138 141 [] rfl rfl rfl rfl rfl rfl rfl rfl (as := [.ref s1, .int s2]) (F_Town_readRain_ok (Nat.le_trans (by decide : 4 ≤ 5) hd)) (fun h1 =>
  jr_goto 141 219 rfl rfl
  ((F_Town_readClause_b219_ok hd )))
noncomputable def F_Town_readClause_b133 (s0 : Nat) (s1 : Nat) (h : LH) : Option LH :=
 F_Town_readClause_b138  s0 s1 (1 : Int32) h
set_option maxRecDepth 100000 in
theorem F_Town_readClause_b133_ok {d : Nat} {q : LH} (hd : 5 ≤ d) {s0 : Nat} {s1 : Nat} {u0 : Value} {u1 : Value} {u2 : Value} {h : LH} : F_Town_readClause_b133 s0 s1 h = some q → JR d jM_98 133 [u0, u1, u2] [.ref s1, .ref s0] h (jo_v q) := by
 unfold F_Town_readClause_b133
 exact jr_iconst 133 134 (1 : Int32) rfl jc_i_1 rfl
  (jr_goto 134 138 rfl rfl
  ((F_Town_readClause_b138_ok hd )))
noncomputable def F_Town_readClause_b103 (s0 : Nat) (s1 : Nat) (s2 : Int32) (h : LH) : Option LH :=
 jf_kd h s0 8
 ((F_Town_readWind s0 s1 s2 h).bind fun h1 =>
 F_Town_readClause_b219  h1)
set_option maxRecDepth 100000 in
theorem F_Town_readClause_b103_ok {d : Nat} {q : LH} (hd : 5 ≤ d) {s0 : Nat} {s1 : Nat} {s2 : Int32} {u0 : Value} {u1 : Value} {u2 : Value} {h : LH} : F_Town_readClause_b103 s0 s1 s2 h = some q → JR d jM_98 103 [u0, u1, u2] [.int s2, .ref s1, .ref s0] h (jo_v q) := by
 unfold F_Town_readClause_b103
 exact jr_cVv 103 106 [] rfl rfl rfl rfl rfl rfl rfl rfl (as := [.ref s1, .int s2]) (F_Town_readWind_ok (Nat.le_trans (by decide : 4 ≤ 5) hd)) (fun h1 =>
  jr_goto 106 219 rfl rfl
  ((F_Town_readClause_b219_ok hd )))
noncomputable def F_Town_readClause_b98 (s0 : Nat) (s1 : Nat) (h : LH) : Option LH :=
 F_Town_readClause_b103  s0 s1 (1 : Int32) h
set_option maxRecDepth 100000 in
theorem F_Town_readClause_b98_ok {d : Nat} {q : LH} (hd : 5 ≤ d) {s0 : Nat} {s1 : Nat} {u0 : Value} {u1 : Value} {u2 : Value} {h : LH} : F_Town_readClause_b98 s0 s1 h = some q → JR d jM_98 98 [u0, u1, u2] [.ref s1, .ref s0] h (jo_v q) := by
 unfold F_Town_readClause_b98
 exact jr_iconst 98 99 (1 : Int32) rfl jc_i_1 rfl
  (jr_goto 99 103 rfl rfl
  ((F_Town_readClause_b103_ok hd )))
noncomputable def F_Town_readClause_b68 (s0 : Nat) (s1 : Nat) (s2 : Int32) (h : LH) : Option LH :=
 jf_kd h s0 8
 ((F_Town_readWood s0 s1 s2 h).bind fun h1 =>
 F_Town_readClause_b219  h1)
set_option maxRecDepth 100000 in
theorem F_Town_readClause_b68_ok {d : Nat} {q : LH} (hd : 5 ≤ d) {s0 : Nat} {s1 : Nat} {s2 : Int32} {u0 : Value} {u1 : Value} {u2 : Value} {h : LH} : F_Town_readClause_b68 s0 s1 s2 h = some q → JR d jM_98 68 [u0, u1, u2] [.int s2, .ref s1, .ref s0] h (jo_v q) := by
 unfold F_Town_readClause_b68
 exact jr_cVv 68 71 [] rfl rfl rfl rfl rfl rfl rfl rfl (as := [.ref s1, .int s2]) (F_Town_readWood_ok (Nat.le_trans (by decide : 4 ≤ 5) hd)) (fun h1 =>
  jr_goto 71 219 rfl rfl
  ((F_Town_readClause_b219_ok hd )))
noncomputable def F_Town_readClause_b63 (s0 : Nat) (s1 : Nat) (h : LH) : Option LH :=
 F_Town_readClause_b68  s0 s1 (1 : Int32) h
set_option maxRecDepth 100000 in
theorem F_Town_readClause_b63_ok {d : Nat} {q : LH} (hd : 5 ≤ d) {s0 : Nat} {s1 : Nat} {u0 : Value} {u1 : Value} {u2 : Value} {h : LH} : F_Town_readClause_b63 s0 s1 h = some q → JR d jM_98 63 [u0, u1, u2] [.ref s1, .ref s0] h (jo_v q) := by
 unfold F_Town_readClause_b63
 exact jr_iconst 63 64 (1 : Int32) rfl jc_i_1 rfl
  (jr_goto 64 68 rfl rfl
  ((F_Town_readClause_b68_ok hd )))
noncomputable def F_Town_readClause_b33 (s0 : Nat) (s1 : Nat) (s2 : Int32) (h : LH) : Option LH :=
 jf_kd h s0 8
 ((F_Town_readGate s0 s1 s2 h).bind fun h1 =>
 F_Town_readClause_b219  h1)
set_option maxRecDepth 100000 in
theorem F_Town_readClause_b33_ok {d : Nat} {q : LH} (hd : 5 ≤ d) {s0 : Nat} {s1 : Nat} {s2 : Int32} {u0 : Value} {u1 : Value} {u2 : Value} {h : LH} : F_Town_readClause_b33 s0 s1 s2 h = some q → JR d jM_98 33 [u0, u1, u2] [.int s2, .ref s1, .ref s0] h (jo_v q) := by
 unfold F_Town_readClause_b33
 exact jr_cVv 33 36 [] rfl rfl rfl rfl rfl rfl rfl rfl (as := [.ref s1, .int s2]) (F_Town_readGate_ok (Nat.le_trans (by decide : 4 ≤ 5) hd)) (fun h1 =>
  jr_goto 36 219 rfl rfl
  ((F_Town_readClause_b219_ok hd )))
noncomputable def F_Town_readClause_b28 (s0 : Nat) (s1 : Nat) (h : LH) : Option LH :=
 F_Town_readClause_b33  s0 s1 (1 : Int32) h
set_option maxRecDepth 100000 in
theorem F_Town_readClause_b28_ok {d : Nat} {q : LH} (hd : 5 ≤ d) {s0 : Nat} {s1 : Nat} {u0 : Value} {u1 : Value} {u2 : Value} {h : LH} : F_Town_readClause_b28 s0 s1 h = some q → JR d jM_98 28 [u0, u1, u2] [.ref s1, .ref s0] h (jo_v q) := by
 unfold F_Town_readClause_b28
 exact jr_iconst 28 29 (1 : Int32) rfl jc_i_1 rfl
  (jr_goto 29 33 rfl rfl
  ((F_Town_readClause_b33_ok hd )))
noncomputable def F_Town_readClause (l0 : Nat) (l1 : Nat) (l2 : Int32) (h : LH) : Option LH :=
 jf_kd h l1 7
 ((F_Text_word l1 h).bind fun h1 =>
 jf_kd h1 l1 7
 (jf_bi (F_Text_isWord l1 1 h1) fun v2 h3 =>
 if v2 = 0 then
 jf_kd h3 l1 7
 (jf_bi (F_Text_isWord l1 2 h3) fun v4 h5 =>
 if v4 = 0 then
 jf_kd h5 l1 7
 (jf_bi (F_Text_isWord l1 3 h5) fun v6 h7 =>
 if v6 = 0 then
 jf_kd h7 l1 7
 (jf_bi (F_Text_isWord l1 4 h7) fun v8 h9 =>
 if v8 = 0 then
 jf_kd h9 l1 7
 (jf_bi (F_Text_isWord l1 5 h9) fun v10 h11 =>
 if v10 = 0 then
 jf_kd h11 l1 7
 (jf_bi (F_Text_isWord l1 6 h11) fun v12 h13 =>
 if v12 = 0 then
 jf_kd h13 l1 7
 ((F_Text_fail l1 (1 : Int32) h13).bind fun h14 =>
 F_Town_readClause_b219  h14)
else
 if l2 = 0 then
 jf_gi h13 l0 8 5 fun v15 =>
 if v15 < (8 : Int32) then
 F_Town_readClause_b208  l0 l1 (0 : Int32) h13
else
 F_Town_readClause_b203  l0 l1 h13
else
 F_Town_readClause_b203  l0 l1 h13)
else
 if l2 = 0 then
 jf_gi h11 l0 8 4 fun v16 =>
 if v16 < (10 : Int32) then
 F_Town_readClause_b173  l0 l1 (0 : Int32) h11
else
 F_Town_readClause_b168  l0 l1 h11
else
 F_Town_readClause_b168  l0 l1 h11)
else
 if l2 = 0 then
 jf_gi h9 l0 8 3 fun v17 =>
 if v17 < (6 : Int32) then
 F_Town_readClause_b138  l0 l1 (0 : Int32) h9
else
 F_Town_readClause_b133  l0 l1 h9
else
 F_Town_readClause_b133  l0 l1 h9)
else
 if l2 = 0 then
 jf_gi h7 l0 8 2 fun v18 =>
 if v18 < (24 : Int32) then
 F_Town_readClause_b103  l0 l1 (0 : Int32) h7
else
 F_Town_readClause_b98  l0 l1 h7
else
 F_Town_readClause_b98  l0 l1 h7)
else
 if l2 = 0 then
 jf_gi h5 l0 8 1 fun v19 =>
 if v19 < (6 : Int32) then
 F_Town_readClause_b68  l0 l1 (0 : Int32) h5
else
 F_Town_readClause_b63  l0 l1 h5
else
 F_Town_readClause_b63  l0 l1 h5)
else
 if l2 = 0 then
 jf_gi h3 l0 8 0 fun v20 =>
 if v20 < (9 : Int32) then
 F_Town_readClause_b33  l0 l1 (0 : Int32) h3
else
 F_Town_readClause_b28  l0 l1 h3
else
 F_Town_readClause_b28  l0 l1 h3))
set_option maxRecDepth 100000 in
theorem F_Town_readClause_ok {d : Nat} (hd : 6 ≤ d) {l0 : Nat} {l1 : Nat} {l2 : Int32} {h : LH} {q : LH} : F_Town_readClause l0 l1 l2 h = some q → jl_Sem jt_T jt_Ms d 98 [.ref l0, .ref l1, .int l2] h (jo_v q) := by
 unfold F_Town_readClause
 exact jr_enter (D := 5) hd jM_98_at rfl rfl rfl (fun d hd =>
  jr_aloadn 0 1 rfl rfl rfl
  (jr_cVv 1 4 [] rfl rfl rfl rfl rfl rfl rfl rfl (as := []) (F_Text_word_ok (Nat.le_trans (by decide : 2 ≤ 5) hd)) (fun h1 =>
  jr_aloadn 4 5 rfl rfl rfl
  (jr_ldcs 5 7 rfl rfl rfl rfl
  (jr_cVi 7 10 [] rfl rfl rfl rfl rfl rfl rfl rfl (as := [.ref 1]) (F_Text_isWord_ok (Nat.le_trans (by decide : 5 ≤ 5) hd)) (fun v2 h3 =>
  jr_if_eq 10 39 13 rfl rfl rfl
  (jr_aloadn 39 40 rfl rfl rfl
  (jr_ldcs 40 42 rfl rfl rfl rfl
  (jr_cVi 42 45 [] rfl rfl rfl rfl rfl rfl rfl rfl (as := [.ref 2]) (F_Text_isWord_ok (Nat.le_trans (by decide : 5 ≤ 5) hd)) (fun v4 h5 =>
  jr_if_eq 45 74 48 rfl rfl rfl
  (jr_aloadn 74 75 rfl rfl rfl
  (jr_ldcs 75 77 rfl rfl rfl rfl
  (jr_cVi 77 80 [] rfl rfl rfl rfl rfl rfl rfl rfl (as := [.ref 3]) (F_Text_isWord_ok (Nat.le_trans (by decide : 5 ≤ 5) hd)) (fun v6 h7 =>
  jr_if_eq 80 109 83 rfl rfl rfl
  (jr_aloadn 109 110 rfl rfl rfl
  (jr_ldcs 110 112 rfl rfl rfl rfl
  (jr_cVi 112 115 [] rfl rfl rfl rfl rfl rfl rfl rfl (as := [.ref 4]) (F_Text_isWord_ok (Nat.le_trans (by decide : 5 ≤ 5) hd)) (fun v8 h9 =>
  jr_if_eq 115 144 118 rfl rfl rfl
  (jr_aloadn 144 145 rfl rfl rfl
  (jr_ldcs 145 147 rfl rfl rfl rfl
  (jr_cVi 147 150 [] rfl rfl rfl rfl rfl rfl rfl rfl (as := [.ref 5]) (F_Text_isWord_ok (Nat.le_trans (by decide : 5 ≤ 5) hd)) (fun v10 h11 =>
  jr_if_eq 150 179 153 rfl rfl rfl
  (jr_aloadn 179 180 rfl rfl rfl
  (jr_ldcs 180 182 rfl rfl rfl rfl
  (jr_cVi 182 185 [] rfl rfl rfl rfl rfl rfl rfl rfl (as := [.ref 6]) (F_Text_isWord_ok (Nat.le_trans (by decide : 5 ≤ 5) hd)) (fun v12 h13 =>
  jr_if_eq 185 214 188 rfl rfl rfl
  (jr_aloadn 214 215 rfl rfl rfl
  (jr_iconst 215 216 (1 : Int32) rfl jc_i_1 rfl
  (jr_cVv 216 219 [] rfl rfl rfl rfl rfl rfl rfl rfl (as := [.int (1 : Int32)]) (F_Text_fail_ok (Nat.le_trans (by decide : 2 ≤ 5) hd)) (fun h14 =>
  (F_Town_readClause_b219_ok hd )))))
  (jr_aloadn 188 189 rfl rfl rfl
  (jr_aloadn 189 190 rfl rfl rfl
  (jr_iloadn 190 191 rfl rfl rfl
  (jr_if_ne 191 203 194 rfl rfl rfl
  ((F_Town_readClause_b203_ok hd ))
  (jr_aloadn 194 195 rfl rfl rfl
  (jr_gi 195 198 rfl jg_8_64_1 rfl (fun v15 =>
  jr_bipush 198 200 (8 : Int32) rfl jc_b_8 rfl
  (jr_icmp_lt 200 207 203 rfl rfl rfl
  (jr_iconst 207 208 (0 : Int32) rfl jc_i_0 rfl
  ((F_Town_readClause_b208_ok hd )))
  ((F_Town_readClause_b203_ok hd ))))))))))))))
  (jr_aloadn 153 154 rfl rfl rfl
  (jr_aloadn 154 155 rfl rfl rfl
  (jr_iloadn 155 156 rfl rfl rfl
  (jr_if_ne 156 168 159 rfl rfl rfl
  ((F_Town_readClause_b168_ok hd ))
  (jr_aloadn 159 160 rfl rfl rfl
  (jr_gi 160 163 rfl jg_8_61_1 rfl (fun v16 =>
  jr_bipush 163 165 (10 : Int32) rfl jc_b_10 rfl
  (jr_icmp_lt 165 172 168 rfl rfl rfl
  (jr_iconst 172 173 (0 : Int32) rfl jc_i_0 rfl
  ((F_Town_readClause_b173_ok hd )))
  ((F_Town_readClause_b168_ok hd ))))))))))))))
  (jr_aloadn 118 119 rfl rfl rfl
  (jr_aloadn 119 120 rfl rfl rfl
  (jr_iloadn 120 121 rfl rfl rfl
  (jr_if_ne 121 133 124 rfl rfl rfl
  ((F_Town_readClause_b133_ok hd ))
  (jr_aloadn 124 125 rfl rfl rfl
  (jr_gi 125 128 rfl jg_8_58_1 rfl (fun v17 =>
  jr_bipush 128 130 (6 : Int32) rfl jc_b_6 rfl
  (jr_icmp_lt 130 137 133 rfl rfl rfl
  (jr_iconst 137 138 (0 : Int32) rfl jc_i_0 rfl
  ((F_Town_readClause_b138_ok hd )))
  ((F_Town_readClause_b133_ok hd ))))))))))))))
  (jr_aloadn 83 84 rfl rfl rfl
  (jr_aloadn 84 85 rfl rfl rfl
  (jr_iloadn 85 86 rfl rfl rfl
  (jr_if_ne 86 98 89 rfl rfl rfl
  ((F_Town_readClause_b98_ok hd ))
  (jr_aloadn 89 90 rfl rfl rfl
  (jr_gi 90 93 rfl jg_8_55_1 rfl (fun v18 =>
  jr_bipush 93 95 (24 : Int32) rfl jc_b_24 rfl
  (jr_icmp_lt 95 102 98 rfl rfl rfl
  (jr_iconst 102 103 (0 : Int32) rfl jc_i_0 rfl
  ((F_Town_readClause_b103_ok hd )))
  ((F_Town_readClause_b98_ok hd ))))))))))))))
  (jr_aloadn 48 49 rfl rfl rfl
  (jr_aloadn 49 50 rfl rfl rfl
  (jr_iloadn 50 51 rfl rfl rfl
  (jr_if_ne 51 63 54 rfl rfl rfl
  ((F_Town_readClause_b63_ok hd ))
  (jr_aloadn 54 55 rfl rfl rfl
  (jr_gi 55 58 rfl jg_8_52_1 rfl (fun v19 =>
  jr_bipush 58 60 (6 : Int32) rfl jc_b_6 rfl
  (jr_icmp_lt 60 67 63 rfl rfl rfl
  (jr_iconst 67 68 (0 : Int32) rfl jc_i_0 rfl
  ((F_Town_readClause_b68_ok hd )))
  ((F_Town_readClause_b63_ok hd ))))))))))))))
  (jr_aloadn 13 14 rfl rfl rfl
  (jr_aloadn 14 15 rfl rfl rfl
  (jr_iloadn 15 16 rfl rfl rfl
  (jr_if_ne 16 28 19 rfl rfl rfl
  ((F_Town_readClause_b28_ok hd ))
  (jr_aloadn 19 20 rfl rfl rfl
  (jr_gi 20 23 rfl jg_8_48_1 rfl (fun v20 =>
  jr_bipush 23 25 (9 : Int32) rfl jc_b_9 rfl
  (jr_icmp_lt 25 32 28 rfl rfl rfl
  (jr_iconst 32 33 (0 : Int32) rfl jc_i_0 rfl
  ((F_Town_readClause_b33_ok hd )))
  ((F_Town_readClause_b28_ok hd ))))))))))))))))
noncomputable def jM_97 : JMeth := (8, false, 0, jk_97, [], 3)
set_option maxRecDepth 100000 in
theorem jM_97_at : jt_Ms 97 = some jM_97 := rfl
noncomputable def F_Town_readFrom_b74 (h : LH) : Option LH :=
 some h
set_option maxRecDepth 100000 in
theorem F_Town_readFrom_b74_ok {d : Nat} {q : LH} (hd : 6 ≤ d) {u0 : Value} {u1 : Value} {u2 : Value} {h : LH} : F_Town_readFrom_b74 h = some q → JR d jM_97 74 [u0, u1, u2] [] h (jo_v q) := by
 unfold F_Town_readFrom_b74
 exact jr_rv 74 rfl rfl
noncomputable def F_Town_readFrom_b59 (k32 : Nat → Nat → Int32 → LH → Option LH) (l0 : Nat) (l1 : Nat) (l2 : Int32) (s0 : Nat) (s1 : Nat) (s2 : Int32) (h : LH) : Option LH :=
 jf_kd h s0 8
 ((F_Town_readClause s0 s1 s2 h).bind fun h1 =>
 jf_kd h1 l1 7
 ((F_Text_need l1 (59 : Int32) h1).bind fun h2 =>
 k32 l0 l1 (l2 + (1 : Int32)) h2))
set_option maxRecDepth 100000 in
theorem F_Town_readFrom_b59_ok {d : Nat} {q : LH} {k32 : Nat → Nat → Int32 → LH → Option LH} (hd : 6 ≤ d) (hk32 : ∀ (l0 : Nat) (l1 : Nat) (l2 : Int32) (h : LH), k32 l0 l1 l2 h = some q → JR d jM_97 32 [.ref l0, .ref l1, .int l2] [] h (jo_v q)) {l0 : Nat} {l1 : Nat} {l2 : Int32} {s0 : Nat} {s1 : Nat} {s2 : Int32} {h : LH} : F_Town_readFrom_b59 k32 l0 l1 l2 s0 s1 s2 h = some q → JR d jM_97 59 [.ref l0, .ref l1, .int l2] [.int s2, .ref s1, .ref s0] h (jo_v q) := by
 unfold F_Town_readFrom_b59
 exact jr_cVv 59 62 [] rfl rfl rfl rfl rfl rfl rfl rfl (as := [.ref s1, .int s2]) (F_Town_readClause_ok (Nat.le_trans (by decide : 6 ≤ 6) hd)) (fun h1 =>
  jr_aloadn 62 63 rfl rfl rfl
  (jr_bipush 63 65 (59 : Int32) rfl jc_b_59 rfl
  (jr_cVv 65 68 [] rfl rfl rfl rfl rfl rfl rfl rfl (as := [.int (59 : Int32)]) (F_Text_need_ok (Nat.le_trans (by decide : 2 ≤ 6) hd)) (fun h2 =>
  jr_iinc 68 71 [.ref l0, .ref l1, .int (l2 + (1 : Int32))] rfl jc_i_1 rfl rfl rfl rfl
  (jr_goto 71 32 rfl rfl
  ((hk32 _ _ _ _)))))))
noncomputable def F_Town_readFrom_c32 (k32 : Nat → Nat → Int32 → LH → Option LH) (l0 : Nat) (l1 : Nat) (l2 : Int32) (h : LH) : Option LH :=
 if (60 : Int32) < l2 then
 F_Town_readFrom_b74  h
else
 jf_kd h l1 7
 (jf_bi (F_Text_next l1 h) fun v1 h2 =>
 if v1 = (-1 : Int32) then
 F_Town_readFrom_b74  h2
else
 if l2 < (60 : Int32) then
 F_Town_readFrom_b59 k32 l0 l1 l2 l0 l1 (0 : Int32) h2
else
 F_Town_readFrom_b59 k32 l0 l1 l2 l0 l1 (1 : Int32) h2)
set_option maxRecDepth 100000 in
theorem F_Town_readFrom_c32_ok {d : Nat} {q : LH} {k32 : Nat → Nat → Int32 → LH → Option LH} (hd : 6 ≤ d) (hk32 : ∀ (l0 : Nat) (l1 : Nat) (l2 : Int32) (h : LH), k32 l0 l1 l2 h = some q → JR d jM_97 32 [.ref l0, .ref l1, .int l2] [] h (jo_v q)) {l0 : Nat} {l1 : Nat} {l2 : Int32} {h : LH} : F_Town_readFrom_c32 k32 l0 l1 l2 h = some q → JR d jM_97 32 [.ref l0, .ref l1, .int l2] [] h (jo_v q) := by
 unfold F_Town_readFrom_c32
 exact jr_iloadn 32 33 rfl rfl rfl
  (jr_bipush 33 35 (60 : Int32) rfl jc_b_60 rfl
  (jr_icmp_gt 35 74 38 rfl rfl rfl
  ((F_Town_readFrom_b74_ok hd ))
  (jr_aloadn 38 39 rfl rfl rfl
  (jr_cVi 39 42 [] rfl rfl rfl rfl rfl rfl rfl rfl (as := []) (F_Text_next_ok (Nat.le_trans (by decide : 1 ≤ 6) hd)) (fun v1 h2 =>
  jr_iconst 42 43 (-1 : Int32) rfl jc_i_m1 rfl
  (jr_icmp_eq 43 74 46 rfl rfl rfl
  ((F_Town_readFrom_b74_ok hd ))
  (jr_aloadn 46 47 rfl rfl rfl
  (jr_aloadn 47 48 rfl rfl rfl
  (jr_iloadn 48 49 rfl rfl rfl
  (jr_bipush 49 51 (60 : Int32) rfl jc_b_60 rfl
  (jr_icmp_lt 51 58 54 rfl rfl rfl
  (jr_iconst 58 59 (0 : Int32) rfl jc_i_0 rfl
  ((F_Town_readFrom_b59_ok hd hk32)))
  (jr_iconst 54 55 (1 : Int32) rfl jc_i_1 rfl
  (jr_goto 55 59 rfl rfl
  ((F_Town_readFrom_b59_ok hd hk32)))))))))))))))
noncomputable def F_Town_readFrom_l32 : Nat → Nat → Nat → Int32 → LH → Option LH
 | 0, _, _, _, _ => none
 | n + 1, l0, l1, l2, h => F_Town_readFrom_c32 (F_Town_readFrom_l32 n) l0 l1 l2 h
theorem F_Town_readFrom_l32_ok {d : Nat} {q : LH} (hd : 6 ≤ d) : ∀ (n : Nat) (l0 : Nat) (l1 : Nat) (l2 : Int32) (h : LH), F_Town_readFrom_l32 n l0 l1 l2 h = some q → JR d jM_97 32 [.ref l0, .ref l1, .int l2] [] h (jo_v q)
 | 0 => fun _ _ _ _ hq => nomatch (show (none : Option LH) = some q from hq)
 | n + 1 => fun _ _ _ _ hq => F_Town_readFrom_c32_ok hd (F_Town_readFrom_l32_ok hd n) hq
noncomputable def F_Town_readFrom (l0 : Nat) (l1 : Nat) (h : LH) : Option LH :=
 jf_pi h l0 8 0 (0 : Int32) fun h1 =>
 jf_pi h1 l0 8 1 (0 : Int32) fun h2 =>
 jf_pi h2 l0 8 2 (0 : Int32) fun h3 =>
 jf_pi h3 l0 8 3 (0 : Int32) fun h4 =>
 jf_pi h4 l0 8 4 (0 : Int32) fun h5 =>
 jf_pi h5 l0 8 5 (0 : Int32) fun h6 =>
 F_Town_readFrom_l32  jF l0 l1 (0 : Int32) h6
set_option maxRecDepth 100000 in
theorem F_Town_readFrom_ok {d : Nat} (hd : 7 ≤ d) {l0 : Nat} {l1 : Nat} {h : LH} {q : LH} : F_Town_readFrom l0 l1 h = some q → jl_Sem jt_T jt_Ms d 97 [.ref l0, .ref l1] h (jo_v q) := by
 unfold F_Town_readFrom
 exact jr_enter (D := 6) hd jM_97_at rfl rfl rfl (fun d hd =>
  jr_aloadn 0 1 rfl rfl rfl
  (jr_iconst 1 2 (0 : Int32) rfl jc_i_0 rfl
  (jr_pi 2 5 rfl jg_8_48_3 rfl (fun h1 =>
  jr_aloadn 5 6 rfl rfl rfl
  (jr_iconst 6 7 (0 : Int32) rfl jc_i_0 rfl
  (jr_pi 7 10 rfl jg_8_52_3 rfl (fun h2 =>
  jr_aloadn 10 11 rfl rfl rfl
  (jr_iconst 11 12 (0 : Int32) rfl jc_i_0 rfl
  (jr_pi 12 15 rfl jg_8_55_3 rfl (fun h3 =>
  jr_aloadn 15 16 rfl rfl rfl
  (jr_iconst 16 17 (0 : Int32) rfl jc_i_0 rfl
  (jr_pi 17 20 rfl jg_8_58_3 rfl (fun h4 =>
  jr_aloadn 20 21 rfl rfl rfl
  (jr_iconst 21 22 (0 : Int32) rfl jc_i_0 rfl
  (jr_pi 22 25 rfl jg_8_61_3 rfl (fun h5 =>
  jr_aloadn 25 26 rfl rfl rfl
  (jr_iconst 26 27 (0 : Int32) rfl jc_i_0 rfl
  (jr_pi 27 30 rfl jg_8_64_3 rfl (fun h6 =>
  jr_iconst 30 31 (0 : Int32) rfl jc_i_0 rfl
  (jr_istoren 31 32 [.ref l0, .ref l1, .int (0 : Int32)] rfl rfl rfl rfl
  ((F_Town_readFrom_l32_ok hd  jF _ _ _ _))))))))))))))))))))))
noncomputable def jM_108 : JMeth := (9, true, 0, jk_108, [], 2)
set_option maxRecDepth 100000 in
theorem jM_108_at : jt_Ms 108 = some jM_108 := rfl
noncomputable def F_Watch_init (l0 : Nat) (l1 : Nat) (h : LH) : Option LH :=
 jf_na h 22 (216 : Int32) fun v1 h2 =>
 jf_pr h2 l0 9 1 v1 fun h3 =>
 jf_na h3 20 (9 : Int32) fun v4 h5 =>
 jf_pr h5 l0 9 2 v4 fun h6 =>
 jf_pr h6 l0 9 0 l1 fun h7 =>
 some h7
set_option maxRecDepth 100000 in
theorem F_Watch_init_ok {d : Nat} (hd : 1 ≤ d) {l0 : Nat} {l1 : Nat} {h : LH} {q : LH} : F_Watch_init l0 l1 h = some q → jl_Sem jt_T jt_Ms d 108 [.ref l0, .ref l1] h (jo_v q) := by
 unfold F_Watch_init
 exact jr_enter (D := 0) hd jM_108_at rfl rfl rfl (fun d hd =>
  jr_aloadn 0 1 rfl rfl rfl
  (jr_oi 1 4 rfl rfl rfl rfl
  (jr_aloadn 4 5 rfl rfl rfl
  (jr_sipush 5 8 (216 : Int32) rfl jc_s_216 rfl
  (jr_na 8 10 rfl rfl rfl rfl (fun v1 h2 =>
  jr_prF 10 13 rfl rfl jg_9_9_6 rfl (fun h3 =>
  jr_aloadn 13 14 rfl rfl rfl
  (jr_bipush 14 16 (9 : Int32) rfl jc_b_9 rfl
  (jr_na 16 18 rfl rfl rfl rfl (fun v4 h5 =>
  jr_prF 18 21 rfl rfl jg_9_15_6 rfl (fun h6 =>
  jr_aloadn 21 22 rfl rfl rfl
  (jr_aloadn 22 23 rfl rfl rfl
  (jr_prF 23 26 rfl rfl jg_9_19_6 rfl (fun h7 =>
  jr_rv 26 rfl rfl))))))))))))))
noncomputable def jM_110 : JMeth := (9, false, 0, jk_110, [], 3)
set_option maxRecDepth 100000 in
theorem jM_110_at : jt_Ms 110 = some jM_110 := rfl
noncomputable def F_Watch_seeOpenGates_b74 (h : LH) : Option LH :=
 some h
set_option maxRecDepth 100000 in
theorem F_Watch_seeOpenGates_b74_ok {d : Nat} {q : LH} (hd : 4 ≤ d) {u0 : Value} {u1 : Value} {u2 : Value} {h : LH} : F_Watch_seeOpenGates_b74 h = some q → JR d jM_110 74 [u0, u1, u2] [] h (jo_v q) := by
 unfold F_Watch_seeOpenGates_b74
 exact jr_rv 74 rfl rfl
noncomputable def F_Watch_seeOpenGates_b50 (k2 : Nat → Int32 → LH → Option LH) (k19 : Nat → Int32 → Int32 → LH → Option LH) (l0 : Nat) (l1 : Int32) (l2 : Int32) (s0 : Nat) (s1 : Int32) (s2 : Int32) (h : LH) : Option LH :=
 jf_bs h s0 s1 s2 fun h1 =>
 k19 l0 l1 (l2 + (1 : Int32)) h1
set_option maxRecDepth 100000 in
theorem F_Watch_seeOpenGates_b50_ok {d : Nat} {q : LH} {k2 : Nat → Int32 → LH → Option LH} {k19 : Nat → Int32 → Int32 → LH → Option LH} (hd : 4 ≤ d) (hk2 : ∀ (l0 : Nat) (l1 : Int32) (u2 : Value) (h : LH), k2 l0 l1 h = some q → JR d jM_110 2 [.ref l0, .int l1, u2] [] h (jo_v q)) (hk19 : ∀ (l0 : Nat) (l1 : Int32) (l2 : Int32) (h : LH), k19 l0 l1 l2 h = some q → JR d jM_110 19 [.ref l0, .int l1, .int l2] [] h (jo_v q)) {l0 : Nat} {l1 : Int32} {l2 : Int32} {s0 : Nat} {s1 : Int32} {s2 : Int32} {h : LH} : F_Watch_seeOpenGates_b50 k2 k19 l0 l1 l2 s0 s1 s2 h = some q → JR d jM_110 50 [.ref l0, .int l1, .int l2] [.int s2, .int s1, .ref s0] h (jo_v q) := by
 unfold F_Watch_seeOpenGates_b50
 exact jr_bs 50 51 rfl rfl (fun h1 =>
  jr_iinc 51 54 [.ref l0, .int l1, .int (l2 + (1 : Int32))] rfl jc_i_1 rfl rfl rfl rfl
  (jr_goto 54 19 rfl rfl
  ((hk19 _ _ _ _))))
noncomputable def F_Watch_seeOpenGates_c19 (k2 : Nat → Int32 → LH → Option LH) (k19 : Nat → Int32 → Int32 → LH → Option LH) (l0 : Nat) (l1 : Int32) (l2 : Int32) (h : LH) : Option LH :=
 jf_gi h l0 9 3 fun v1 =>
 if l2 < v1 then
 jf_gr h l0 9 1 fun v6 =>
 jf_gr h l0 9 0 fun v7 =>
 jf_kd h v7 6
 (jf_bi (F_Scene_isShut v7 l2 h) fun v8 h9 =>
 if v8 = 0 then
 F_Watch_seeOpenGates_b50 k2 k19 l0 l1 l2 v6 (l1 + l2) (1 : Int32) h9
else
 F_Watch_seeOpenGates_b50 k2 k19 l0 l1 l2 v6 (l1 + l2) (0 : Int32) h9)
else
 jf_gr h l0 9 0 fun v2 =>
 jf_kd h v2 6
 ((F_Scene_pass v2 h).bind fun h3 =>
 jf_gi h3 l0 9 3 fun v4 =>
 jf_let (l1 + v4) fun v5 =>
 k2 l0 v5 h3)
set_option maxRecDepth 100000 in
theorem F_Watch_seeOpenGates_c19_ok {d : Nat} {q : LH} {k2 : Nat → Int32 → LH → Option LH} {k19 : Nat → Int32 → Int32 → LH → Option LH} (hd : 4 ≤ d) (hk2 : ∀ (l0 : Nat) (l1 : Int32) (u2 : Value) (h : LH), k2 l0 l1 h = some q → JR d jM_110 2 [.ref l0, .int l1, u2] [] h (jo_v q)) (hk19 : ∀ (l0 : Nat) (l1 : Int32) (l2 : Int32) (h : LH), k19 l0 l1 l2 h = some q → JR d jM_110 19 [.ref l0, .int l1, .int l2] [] h (jo_v q)) {l0 : Nat} {l1 : Int32} {l2 : Int32} {h : LH} : F_Watch_seeOpenGates_c19 k2 k19 l0 l1 l2 h = some q → JR d jM_110 19 [.ref l0, .int l1, .int l2] [] h (jo_v q) := by
 unfold F_Watch_seeOpenGates_c19
 exact jr_iloadn 19 20 rfl rfl rfl
  (jr_aloadn 20 21 rfl rfl rfl
  (jr_gi 21 24 rfl jg_9_35_1 rfl (fun v1 =>
  jr_icmp_ge 24 57 27 rfl rfl rfl
  (jr_aloadn 57 58 rfl rfl rfl
  (jr_gr 58 61 rfl jg_9_19_2 rfl (fun v2 =>
  jr_cVv 61 64 [] rfl rfl rfl rfl rfl rfl rfl rfl (as := []) (F_Scene_pass_ok (Nat.le_trans (by decide : 4 ≤ 4) hd)) (fun h3 =>
  jr_iloadn 64 65 rfl rfl rfl
  (jr_aloadn 65 66 rfl rfl rfl
  (jr_gi 66 69 rfl jg_9_35_1 rfl (fun v4 =>
  jr_iadd 69 70 rfl rfl
  (jr_istorenL 70 71 (fun v5 => [.ref l0, .int v5, .int l2]) rfl rfl (fun _ => rfl) rfl (fun v5 =>
  jr_goto 71 2 rfl rfl
  ((hk2 _ _ _ _)))))))))))
  (jr_aloadn 27 28 rfl rfl rfl
  (jr_gr 28 31 rfl jg_9_9_2 rfl (fun v6 =>
  jr_iloadn 31 32 rfl rfl rfl
  (jr_iloadn 32 33 rfl rfl rfl
  (jr_iadd 33 34 rfl rfl
  (jr_aloadn 34 35 rfl rfl rfl
  (jr_gr 35 38 rfl jg_9_19_2 rfl (fun v7 =>
  jr_iloadn 38 39 rfl rfl rfl
  (jr_cVi 39 42 [.int (l1 + l2), .ref v6] rfl rfl rfl rfl rfl rfl rfl rfl (as := [.int l2]) (F_Scene_isShut_ok (Nat.le_trans (by decide : 3 ≤ 4) hd)) (fun v8 h9 =>
  jr_if_ne 42 49 45 rfl rfl rfl
  (jr_iconst 49 50 (0 : Int32) rfl jc_i_0 rfl
  ((F_Watch_seeOpenGates_b50_ok hd hk2 hk19)))
  (jr_iconst 45 46 (1 : Int32) rfl jc_i_1 rfl
  (jr_goto 46 50 rfl rfl
  ((F_Watch_seeOpenGates_b50_ok hd hk2 hk19)))))))))))))))))
noncomputable def F_Watch_seeOpenGates_l19 (k2 : Nat → Int32 → LH → Option LH) : Nat → Nat → Int32 → Int32 → LH → Option LH
 | 0, _, _, _, _ => none
 | n + 1, l0, l1, l2, h => F_Watch_seeOpenGates_c19 k2 (F_Watch_seeOpenGates_l19 k2 n) l0 l1 l2 h
theorem F_Watch_seeOpenGates_l19_ok {d : Nat} {q : LH} {k2 : Nat → Int32 → LH → Option LH} (hd : 4 ≤ d) (hk2 : ∀ (l0 : Nat) (l1 : Int32) (u2 : Value) (h : LH), k2 l0 l1 h = some q → JR d jM_110 2 [.ref l0, .int l1, u2] [] h (jo_v q)) : ∀ (n : Nat) (l0 : Nat) (l1 : Int32) (l2 : Int32) (h : LH), F_Watch_seeOpenGates_l19 k2 n l0 l1 l2 h = some q → JR d jM_110 19 [.ref l0, .int l1, .int l2] [] h (jo_v q)
 | 0 => fun _ _ _ _ hq => nomatch (show (none : Option LH) = some q from hq)
 | n + 1 => fun _ _ _ _ hq => F_Watch_seeOpenGates_c19_ok hd hk2 (F_Watch_seeOpenGates_l19_ok hd hk2 n) hq
noncomputable def F_Watch_seeOpenGates_c2 (k2 : Nat → Int32 → LH → Option LH) (l0 : Nat) (l1 : Int32) (h : LH) : Option LH :=
 jf_gi h l0 9 4 fun v1 =>
 if l1 < v1 then
 jf_gi h l0 9 3 fun v2 =>
 if 0 < v2 then
 F_Watch_seeOpenGates_l19 k2 jF l0 l1 (0 : Int32) h
else
 F_Watch_seeOpenGates_b74  h
else
 F_Watch_seeOpenGates_b74  h
set_option maxRecDepth 100000 in
theorem F_Watch_seeOpenGates_c2_ok {d : Nat} {q : LH} {k2 : Nat → Int32 → LH → Option LH} (hd : 4 ≤ d) (hk2 : ∀ (l0 : Nat) (l1 : Int32) (u2 : Value) (h : LH), k2 l0 l1 h = some q → JR d jM_110 2 [.ref l0, .int l1, u2] [] h (jo_v q)) {l0 : Nat} {l1 : Int32} {u2 : Value} {h : LH} : F_Watch_seeOpenGates_c2 k2 l0 l1 h = some q → JR d jM_110 2 [.ref l0, .int l1, u2] [] h (jo_v q) := by
 unfold F_Watch_seeOpenGates_c2
 exact jr_iloadn 2 3 rfl rfl rfl
  (jr_aloadn 3 4 rfl rfl rfl
  (jr_gi 4 7 rfl jg_9_42_1 rfl (fun v1 =>
  jr_icmp_ge 7 74 10 rfl rfl rfl
  ((F_Watch_seeOpenGates_b74_ok hd ))
  (jr_aloadn 10 11 rfl rfl rfl
  (jr_gi 11 14 rfl jg_9_35_1 rfl (fun v2 =>
  jr_if_le 14 74 17 rfl rfl rfl
  ((F_Watch_seeOpenGates_b74_ok hd ))
  (jr_iconst 17 18 (0 : Int32) rfl jc_i_0 rfl
  (jr_istoren 18 19 [.ref l0, .int l1, .int (0 : Int32)] rfl rfl rfl rfl
  ((F_Watch_seeOpenGates_l19_ok hd hk2 jF _ _ _ _))))))))))
noncomputable def F_Watch_seeOpenGates_l2 : Nat → Nat → Int32 → LH → Option LH
 | 0, _, _, _ => none
 | n + 1, l0, l1, h => F_Watch_seeOpenGates_c2 (F_Watch_seeOpenGates_l2 n) l0 l1 h
theorem F_Watch_seeOpenGates_l2_ok {d : Nat} {q : LH} (hd : 4 ≤ d) : ∀ (n : Nat) (l0 : Nat) (l1 : Int32) (u2 : Value) (h : LH), F_Watch_seeOpenGates_l2 n l0 l1 h = some q → JR d jM_110 2 [.ref l0, .int l1, u2] [] h (jo_v q)
 | 0 => fun _ _ _ _ hq => nomatch (show (none : Option LH) = some q from hq)
 | n + 1 => fun _ _ _ _ hq => F_Watch_seeOpenGates_c2_ok hd (F_Watch_seeOpenGates_l2_ok hd n) hq
noncomputable def F_Watch_seeOpenGates (l0 : Nat) (h : LH) : Option LH :=
 F_Watch_seeOpenGates_l2  jF l0 (0 : Int32) h
set_option maxRecDepth 100000 in
theorem F_Watch_seeOpenGates_ok {d : Nat} (hd : 5 ≤ d) {l0 : Nat} {h : LH} {q : LH} : F_Watch_seeOpenGates l0 h = some q → jl_Sem jt_T jt_Ms d 110 [.ref l0] h (jo_v q) := by
 unfold F_Watch_seeOpenGates
 exact jr_enter (D := 4) hd jM_110_at rfl rfl rfl (fun d hd =>
  jr_iconst 0 1 (0 : Int32) rfl jc_i_0 rfl
  (jr_istoren 1 2 [.ref l0, .int (0 : Int32), .retAddr 0] rfl rfl rfl rfl
  ((F_Watch_seeOpenGates_l2_ok hd  jF _ _ _ _))))
noncomputable def jM_112 : JMeth := (9, false, 1, jk_112, [], 3)
set_option maxRecDepth 100000 in
theorem jM_112_at : jt_Ms 112 = some jM_112 := rfl
noncomputable def F_Watch_thiefHas_b34 (s0 : Int32) (h : LH) : Option (Int32 × LH) :=
 some (s0, h)
set_option maxRecDepth 100000 in
theorem F_Watch_thiefHas_b34_ok {d : Nat} {q : (Int32 × LH)} (hd : 0 ≤ d) {s0 : Int32} {u0 : Value} {u1 : Value} {u2 : Value} {h : LH} : F_Watch_thiefHas_b34 s0 h = some q → JR d jM_112 34 [u0, u1, u2] [.int s0] h (jo_i q) := by
 unfold F_Watch_thiefHas_b34
 exact jr_ri 34 rfl rfl
noncomputable def F_Watch_thiefHas_b20 (l0 : Nat) (l1 : Int32) (h : LH) : Option (Int32 × LH) :=
 jf_gr h l0 9 1 fun v1 =>
 jf_ba h v1 l1 fun v2 =>
 if v2 = 0 then
 F_Watch_thiefHas_b34  (0 : Int32) h
else
 F_Watch_thiefHas_b34  (3 : Int32) h
set_option maxRecDepth 100000 in
theorem F_Watch_thiefHas_b20_ok {d : Nat} {q : (Int32 × LH)} (hd : 0 ≤ d) {l0 : Nat} {l1 : Int32} {u2 : Value} {h : LH} : F_Watch_thiefHas_b20 l0 l1 h = some q → JR d jM_112 20 [.ref l0, .int l1, u2] [] h (jo_i q) := by
 unfold F_Watch_thiefHas_b20
 exact jr_aloadn 20 21 rfl rfl rfl
  (jr_gr 21 24 rfl jg_9_9_2 rfl (fun v1 =>
  jr_iloadn 24 25 rfl rfl rfl
  (jr_ba 25 26 rfl rfl (fun v2 =>
  jr_if_eq 26 33 29 rfl rfl rfl
  (jr_iconst 33 34 (0 : Int32) rfl jc_i_0 rfl
  ((F_Watch_thiefHas_b34_ok hd )))
  (jr_iconst 29 30 (3 : Int32) rfl jc_i_3 rfl
  (jr_goto 30 34 rfl rfl
  ((F_Watch_thiefHas_b34_ok hd ))))))))
noncomputable def F_Watch_thiefHas (l0 : Nat) (l1 : Int32) (l2 : Int32) (h : LH) : Option (Int32 × LH) :=
 jf_gi h l0 9 3 fun v1 =>
 if 0 < v1 then
 jf_gi h l0 9 3 fun v2 =>
 jf_dv v2 (l1 - l1 / v2 * v2) fun v3 =>
 if v3 = l2 then
 some ((-2 : Int32), h)
else
 F_Watch_thiefHas_b20  l0 l1 h
else
 F_Watch_thiefHas_b20  l0 l1 h
set_option maxRecDepth 100000 in
theorem F_Watch_thiefHas_ok {d : Nat} (hd : 1 ≤ d) {l0 : Nat} {l1 : Int32} {l2 : Int32} {h : LH} {q : (Int32 × LH)} : F_Watch_thiefHas l0 l1 l2 h = some q → jl_Sem jt_T jt_Ms d 112 [.ref l0, .int l1, .int l2] h (jo_i q) := by
 unfold F_Watch_thiefHas
 exact jr_enter (D := 0) hd jM_112_at rfl rfl rfl (fun d hd =>
  jr_aloadn 0 1 rfl rfl rfl
  (jr_gi 1 4 rfl jg_9_35_1 rfl (fun v1 =>
  jr_if_le 4 20 7 rfl rfl rfl
  ((F_Watch_thiefHas_b20_ok hd ))
  (jr_iloadn 7 8 rfl rfl rfl
  (jr_aloadn 8 9 rfl rfl rfl
  (jr_gi 9 12 rfl jg_9_35_1 rfl (fun v2 =>
  jr_irem 12 13 rfl rfl (fun v3 =>
  jr_iloadn 13 14 rfl rfl rfl
  (jr_icmp_ne 14 20 17 rfl rfl rfl
  ((F_Watch_thiefHas_b20_ok hd ))
  (jr_bipush 17 19 (-2 : Int32) rfl jc_b_m2 rfl
  (jr_ri 19 rfl rfl)))))))))))
noncomputable def jM_111 : JMeth := (9, false, 1, jk_111, [], 4)
set_option maxRecDepth 100000 in
theorem jM_111_at : jt_Ms 111 = some jM_111 := rfl
noncomputable def F_Watch_mostOfThief_c5 (k5 : Nat → Int32 → Int32 → Int32 → LH → Option (Int32 × LH)) (l0 : Nat) (l1 : Int32) (l2 : Int32) (l3 : Int32) (h : LH) : Option (Int32 × LH) :=
 jf_gi h l0 9 4 fun v1 =>
 if l3 < v1 then
 jf_kd h l0 9
 (jf_bi (F_Watch_thiefHas l0 l3 l1 h) fun v2 h3 =>
 jf_let (if l2 < v2 then v2 else l2) fun v4 =>
 k5 l0 l1 v4 (l3 + (1 : Int32)) h3)
else
 some (l2, h)
set_option maxRecDepth 100000 in
theorem F_Watch_mostOfThief_c5_ok {d : Nat} {q : (Int32 × LH)} {k5 : Nat → Int32 → Int32 → Int32 → LH → Option (Int32 × LH)} (hd : 1 ≤ d) (hk5 : ∀ (l0 : Nat) (l1 : Int32) (l2 : Int32) (l3 : Int32) (h : LH), k5 l0 l1 l2 l3 h = some q → JR d jM_111 5 [.ref l0, .int l1, .int l2, .int l3] [] h (jo_i q)) {l0 : Nat} {l1 : Int32} {l2 : Int32} {l3 : Int32} {h : LH} : F_Watch_mostOfThief_c5 k5 l0 l1 l2 l3 h = some q → JR d jM_111 5 [.ref l0, .int l1, .int l2, .int l3] [] h (jo_i q) := by
 unfold F_Watch_mostOfThief_c5
 exact jr_iloadn 5 6 rfl rfl rfl
  (jr_aloadn 6 7 rfl rfl rfl
  (jr_gi 7 10 rfl jg_9_42_1 rfl (fun v1 =>
  jr_icmp_ge 10 30 13 rfl rfl rfl
  (jr_iloadn 30 31 rfl rfl rfl
  (jr_ri 31 rfl rfl))
  (jr_iloadn 13 14 rfl rfl rfl
  (jr_aloadn 14 15 rfl rfl rfl
  (jr_iloadn 15 16 rfl rfl rfl
  (jr_iloadn 16 17 rfl rfl rfl
  (jr_cVi 17 20 [.int l2] rfl rfl rfl rfl rfl rfl rfl rfl (as := [.int l3, .int l1]) (F_Watch_thiefHas_ok (Nat.le_trans (by decide : 1 ≤ 1) hd)) (fun v2 h3 =>
  jr_max 20 23 rfl rfl rfl rfl
  (jr_istorenL 23 24 (fun v4 => [.ref l0, .int l1, .int v4, .int l3]) rfl rfl (fun _ => rfl) rfl (fun v4 =>
  jr_iinc 24 27 [.ref l0, .int l1, .int v4, .int (l3 + (1 : Int32))] rfl jc_i_1 rfl rfl rfl rfl
  (jr_goto 27 5 rfl rfl
  ((hk5 _ _ _ _ _))))))))))))))
noncomputable def F_Watch_mostOfThief_l5 : Nat → Nat → Int32 → Int32 → Int32 → LH → Option (Int32 × LH)
 | 0, _, _, _, _, _ => none
 | n + 1, l0, l1, l2, l3, h => F_Watch_mostOfThief_c5 (F_Watch_mostOfThief_l5 n) l0 l1 l2 l3 h
theorem F_Watch_mostOfThief_l5_ok {d : Nat} {q : (Int32 × LH)} (hd : 1 ≤ d) : ∀ (n : Nat) (l0 : Nat) (l1 : Int32) (l2 : Int32) (l3 : Int32) (h : LH), F_Watch_mostOfThief_l5 n l0 l1 l2 l3 h = some q → JR d jM_111 5 [.ref l0, .int l1, .int l2, .int l3] [] h (jo_i q)
 | 0 => fun _ _ _ _ _ hq => nomatch (show (none : Option (Int32 × LH)) = some q from hq)
 | n + 1 => fun _ _ _ _ _ hq => F_Watch_mostOfThief_c5_ok hd (F_Watch_mostOfThief_l5_ok hd n) hq
noncomputable def F_Watch_mostOfThief (l0 : Nat) (l1 : Int32) (h : LH) : Option (Int32 × LH) :=
 F_Watch_mostOfThief_l5  jF l0 l1 (-2 : Int32) (0 : Int32) h
set_option maxRecDepth 100000 in
theorem F_Watch_mostOfThief_ok {d : Nat} (hd : 2 ≤ d) {l0 : Nat} {l1 : Int32} {h : LH} {q : (Int32 × LH)} : F_Watch_mostOfThief l0 l1 h = some q → jl_Sem jt_T jt_Ms d 111 [.ref l0, .int l1] h (jo_i q) := by
 unfold F_Watch_mostOfThief
 exact jr_enter (D := 1) hd jM_111_at rfl rfl rfl (fun d hd =>
  jr_bipush 0 2 (-2 : Int32) rfl jc_b_m2 rfl
  (jr_istoren 2 3 [.ref l0, .int l1, .int (-2 : Int32), .retAddr 0] rfl rfl rfl rfl
  (jr_iconst 3 4 (0 : Int32) rfl jc_i_0 rfl
  (jr_istoren 4 5 [.ref l0, .int l1, .int (-2 : Int32), .int (0 : Int32)] rfl rfl rfl rfl
  ((F_Watch_mostOfThief_l5_ok hd  jF _ _ _ _ _))))))
noncomputable def jM_113 : JMeth := (9, false, 1, jk_113, [], 4)
set_option maxRecDepth 100000 in
theorem jM_113_at : jt_Ms 113 = some jM_113 := rfl
noncomputable def F_Watch_leastOfThief_c4 (k4 : Nat → Int32 → Int32 → Int32 → LH → Option (Int32 × LH)) (l0 : Nat) (l1 : Int32) (l2 : Int32) (l3 : Int32) (h : LH) : Option (Int32 × LH) :=
 jf_gi h l0 9 3 fun v1 =>
 if l3 < v1 then
 jf_kd h l0 9
 (jf_bi (F_Watch_thiefHas l0 l1 l3 h) fun v2 h3 =>
 jf_let (if v2 < l2 then v2 else l2) fun v4 =>
 k4 l0 l1 v4 (l3 + (1 : Int32)) h3)
else
 some (l2, h)
set_option maxRecDepth 100000 in
theorem F_Watch_leastOfThief_c4_ok {d : Nat} {q : (Int32 × LH)} {k4 : Nat → Int32 → Int32 → Int32 → LH → Option (Int32 × LH)} (hd : 1 ≤ d) (hk4 : ∀ (l0 : Nat) (l1 : Int32) (l2 : Int32) (l3 : Int32) (h : LH), k4 l0 l1 l2 l3 h = some q → JR d jM_113 4 [.ref l0, .int l1, .int l2, .int l3] [] h (jo_i q)) {l0 : Nat} {l1 : Int32} {l2 : Int32} {l3 : Int32} {h : LH} : F_Watch_leastOfThief_c4 k4 l0 l1 l2 l3 h = some q → JR d jM_113 4 [.ref l0, .int l1, .int l2, .int l3] [] h (jo_i q) := by
 unfold F_Watch_leastOfThief_c4
 exact jr_iloadn 4 5 rfl rfl rfl
  (jr_aloadn 5 6 rfl rfl rfl
  (jr_gi 6 9 rfl jg_9_35_1 rfl (fun v1 =>
  jr_icmp_ge 9 29 12 rfl rfl rfl
  (jr_iloadn 29 30 rfl rfl rfl
  (jr_ri 30 rfl rfl))
  (jr_iloadn 12 13 rfl rfl rfl
  (jr_aloadn 13 14 rfl rfl rfl
  (jr_iloadn 14 15 rfl rfl rfl
  (jr_iloadn 15 16 rfl rfl rfl
  (jr_cVi 16 19 [.int l2] rfl rfl rfl rfl rfl rfl rfl rfl (as := [.int l1, .int l3]) (F_Watch_thiefHas_ok (Nat.le_trans (by decide : 1 ≤ 1) hd)) (fun v2 h3 =>
  jr_min 19 22 rfl rfl rfl rfl
  (jr_istorenL 22 23 (fun v4 => [.ref l0, .int l1, .int v4, .int l3]) rfl rfl (fun _ => rfl) rfl (fun v4 =>
  jr_iinc 23 26 [.ref l0, .int l1, .int v4, .int (l3 + (1 : Int32))] rfl jc_i_1 rfl rfl rfl rfl
  (jr_goto 26 4 rfl rfl
  ((hk4 _ _ _ _ _))))))))))))))
noncomputable def F_Watch_leastOfThief_l4 : Nat → Nat → Int32 → Int32 → Int32 → LH → Option (Int32 × LH)
 | 0, _, _, _, _, _ => none
 | n + 1, l0, l1, l2, l3, h => F_Watch_leastOfThief_c4 (F_Watch_leastOfThief_l4 n) l0 l1 l2 l3 h
theorem F_Watch_leastOfThief_l4_ok {d : Nat} {q : (Int32 × LH)} (hd : 1 ≤ d) : ∀ (n : Nat) (l0 : Nat) (l1 : Int32) (l2 : Int32) (l3 : Int32) (h : LH), F_Watch_leastOfThief_l4 n l0 l1 l2 l3 h = some q → JR d jM_113 4 [.ref l0, .int l1, .int l2, .int l3] [] h (jo_i q)
 | 0 => fun _ _ _ _ _ hq => nomatch (show (none : Option (Int32 × LH)) = some q from hq)
 | n + 1 => fun _ _ _ _ _ hq => F_Watch_leastOfThief_c4_ok hd (F_Watch_leastOfThief_l4_ok hd n) hq
noncomputable def F_Watch_leastOfThief (l0 : Nat) (l1 : Int32) (h : LH) : Option (Int32 × LH) :=
 F_Watch_leastOfThief_l4  jF l0 l1 (3 : Int32) (0 : Int32) h
set_option maxRecDepth 100000 in
theorem F_Watch_leastOfThief_ok {d : Nat} (hd : 2 ≤ d) {l0 : Nat} {l1 : Int32} {h : LH} {q : (Int32 × LH)} : F_Watch_leastOfThief l0 l1 h = some q → jl_Sem jt_T jt_Ms d 113 [.ref l0, .int l1] h (jo_i q) := by
 unfold F_Watch_leastOfThief
 exact jr_enter (D := 1) hd jM_113_at rfl rfl rfl (fun d hd =>
  jr_iconst 0 1 (3 : Int32) rfl jc_i_3 rfl
  (jr_istoren 1 2 [.ref l0, .int l1, .int (3 : Int32), .retAddr 0] rfl rfl rfl rfl
  (jr_iconst 2 3 (0 : Int32) rfl jc_i_0 rfl
  (jr_istoren 3 4 [.ref l0, .int l1, .int (3 : Int32), .int (0 : Int32)] rfl rfl rfl rfl
  ((F_Watch_leastOfThief_l4_ok hd  jF _ _ _ _ _))))))
noncomputable def jM_114 : JMeth := (9, false, 0, jk_114, [], 5)
set_option maxRecDepth 100000 in
theorem jM_114_at : jt_Ms 114 = some jM_114 := rfl
noncomputable def F_Watch_findRests_b83 (k2 : Nat → Int32 → Int32 → Int32 → LH → Option LH) (l0 : Nat) (l1 : Int32) (l2 : Int32) (l3 : Int32) (h : LH) : Option LH :=
 k2 l0 l1 l2 (l3 + (1 : Int32)) h
set_option maxRecDepth 100000 in
theorem F_Watch_findRests_b83_ok {d : Nat} {q : LH} {k2 : Nat → Int32 → Int32 → Int32 → LH → Option LH} (hd : 1 ≤ d) (hk2 : ∀ (l0 : Nat) (l1 : Int32) (l2 : Int32) (l3 : Int32) (u4 : Value) (h : LH), k2 l0 l1 l2 l3 h = some q → JR d jM_114 2 [.ref l0, .int l1, .int l2, .int l3, u4] [] h (jo_v q)) {l0 : Nat} {l1 : Int32} {l2 : Int32} {l3 : Int32} {u4 : Value} {h : LH} : F_Watch_findRests_b83 k2 l0 l1 l2 l3 h = some q → JR d jM_114 83 [.ref l0, .int l1, .int l2, .int l3, u4] [] h (jo_v q) := by
 unfold F_Watch_findRests_b83
 exact jr_iinc 83 86 [.ref l0, .int l1, .int l2, .int (l3 + (1 : Int32)), u4] rfl jc_i_1 rfl rfl rfl rfl
  (jr_goto 86 2 rfl rfl
  ((hk2 _ _ _ _ _ _)))
noncomputable def F_Watch_findRests_b73 (k2 : Nat → Int32 → Int32 → Int32 → LH → Option LH) (l0 : Nat) (l1 : Int32) (l2 : Int32) (l3 : Int32) (h : LH) : Option LH :=
 jf_gi h l0 9 5 fun v1 =>
 jf_pi h l0 9 5 (v1 + (1 : Int32)) fun h2 =>
 F_Watch_findRests_b83 k2 l0 l1 l2 l3 h2
set_option maxRecDepth 100000 in
theorem F_Watch_findRests_b73_ok {d : Nat} {q : LH} {k2 : Nat → Int32 → Int32 → Int32 → LH → Option LH} (hd : 1 ≤ d) (hk2 : ∀ (l0 : Nat) (l1 : Int32) (l2 : Int32) (l3 : Int32) (u4 : Value) (h : LH), k2 l0 l1 l2 l3 h = some q → JR d jM_114 2 [.ref l0, .int l1, .int l2, .int l3, u4] [] h (jo_v q)) {l0 : Nat} {l1 : Int32} {l2 : Int32} {l3 : Int32} {u4 : Value} {h : LH} : F_Watch_findRests_b73 k2 l0 l1 l2 l3 h = some q → JR d jM_114 73 [.ref l0, .int l1, .int l2, .int l3, u4] [] h (jo_v q) := by
 unfold F_Watch_findRests_b73
 exact jr_aloadn 73 74 rfl rfl rfl
  (jr_dup 74 75 rfl rfl rfl
  (jr_gi 75 78 rfl jg_9_52_1 rfl (fun v1 =>
  jr_iconst 78 79 (1 : Int32) rfl jc_i_1 rfl
  (jr_iadd 79 80 rfl rfl
  (jr_pi 80 83 rfl jg_9_52_3 rfl (fun h2 =>
  (F_Watch_findRests_b83_ok hd hk2)))))))
noncomputable def F_Watch_findRests_c2 (k2 : Nat → Int32 → Int32 → Int32 → LH → Option LH) (l0 : Nat) (l1 : Int32) (l2 : Int32) (l3 : Int32) (h : LH) : Option LH :=
 jf_gi h l0 9 3 fun v1 =>
 if l3 < v1 then
 jf_kd h l0 9
 (jf_bi (F_Watch_thiefHas l0 l1 l3 h) fun v2 h3 =>
 if v2 = l2 then
 jf_gr h3 l0 9 2 fun v4 =>
 jf_ia h3 v4 l3 fun v5 =>
 if v2 = v5 then
 jf_gi h3 l0 9 5 fun v6 =>
 if v6 = 0 then
 jf_gi h3 l0 9 3 fun v7 =>
 jf_dv v7 (l1 / v7) fun v8 =>
 jf_gi h3 l0 9 3 fun v9 =>
 jf_dv v9 (l1 - l1 / v9 * v9) fun v10 =>
 jf_pi h3 l0 9 6 ((((100 : Int32) * v8) + ((10 : Int32) * v10)) + l3) fun h11 =>
 jf_pi h11 l0 9 7 v2 fun h12 =>
 F_Watch_findRests_b73 k2 l0 l1 l2 l3 h12
else
 F_Watch_findRests_b73 k2 l0 l1 l2 l3 h3
else
 F_Watch_findRests_b83 k2 l0 l1 l2 l3 h3
else
 F_Watch_findRests_b83 k2 l0 l1 l2 l3 h3)
else
 some h
set_option maxRecDepth 100000 in
theorem F_Watch_findRests_c2_ok {d : Nat} {q : LH} {k2 : Nat → Int32 → Int32 → Int32 → LH → Option LH} (hd : 1 ≤ d) (hk2 : ∀ (l0 : Nat) (l1 : Int32) (l2 : Int32) (l3 : Int32) (u4 : Value) (h : LH), k2 l0 l1 l2 l3 h = some q → JR d jM_114 2 [.ref l0, .int l1, .int l2, .int l3, u4] [] h (jo_v q)) {l0 : Nat} {l1 : Int32} {l2 : Int32} {l3 : Int32} {u4 : Value} {h : LH} : F_Watch_findRests_c2 k2 l0 l1 l2 l3 h = some q → JR d jM_114 2 [.ref l0, .int l1, .int l2, .int l3, u4] [] h (jo_v q) := by
 unfold F_Watch_findRests_c2
 exact jr_iloadn 2 3 rfl rfl rfl
  (jr_aloadn 3 4 rfl rfl rfl
  (jr_gi 4 7 rfl jg_9_35_1 rfl (fun v1 =>
  jr_icmp_ge 7 89 10 rfl rfl rfl
  (jr_rv 89 rfl rfl)
  (jr_aloadn 10 11 rfl rfl rfl
  (jr_iloadn 11 12 rfl rfl rfl
  (jr_iloadn 12 13 rfl rfl rfl
  (jr_cVi 13 16 [] rfl rfl rfl rfl rfl rfl rfl rfl (as := [.int l1, .int l3]) (F_Watch_thiefHas_ok (Nat.le_trans (by decide : 1 ≤ 1) hd)) (fun v2 h3 =>
  jr_istore 16 18 [.ref l0, .int l1, .int l2, .int l3, .int v2] rfl rfl rfl rfl
  (jr_iload 18 20 rfl rfl rfl
  (jr_iloadn 20 21 rfl rfl rfl
  (jr_icmp_ne 21 83 24 rfl rfl rfl
  ((F_Watch_findRests_b83_ok hd hk2))
  (jr_iload 24 26 rfl rfl rfl
  (jr_aloadn 26 27 rfl rfl rfl
  (jr_gr 27 30 rfl jg_9_15_2 rfl (fun v4 =>
  jr_iloadn 30 31 rfl rfl rfl
  (jr_ia 31 32 rfl rfl (fun v5 =>
  jr_icmp_ne 32 83 35 rfl rfl rfl
  ((F_Watch_findRests_b83_ok hd hk2))
  (jr_aloadn 35 36 rfl rfl rfl
  (jr_gi 36 39 rfl jg_9_52_1 rfl (fun v6 =>
  jr_if_ne 39 73 42 rfl rfl rfl
  ((F_Watch_findRests_b73_ok hd hk2))
  (jr_aloadn 42 43 rfl rfl rfl
  (jr_bipush 43 45 (100 : Int32) rfl jc_b_100 rfl
  (jr_iloadn 45 46 rfl rfl rfl
  (jr_aloadn 46 47 rfl rfl rfl
  (jr_gi 47 50 rfl jg_9_35_1 rfl (fun v7 =>
  jr_idiv 50 51 rfl rfl (fun v8 =>
  jr_imul 51 52 rfl rfl
  (jr_bipush 52 54 (10 : Int32) rfl jc_b_10 rfl
  (jr_iloadn 54 55 rfl rfl rfl
  (jr_aloadn 55 56 rfl rfl rfl
  (jr_gi 56 59 rfl jg_9_35_1 rfl (fun v9 =>
  jr_irem 59 60 rfl rfl (fun v10 =>
  jr_imul 60 61 rfl rfl
  (jr_iadd 61 62 rfl rfl
  (jr_iloadn 62 63 rfl rfl rfl
  (jr_iadd 63 64 rfl rfl
  (jr_pi 64 67 rfl jg_9_55_3 rfl (fun h11 =>
  jr_aloadn 67 68 rfl rfl rfl
  (jr_iload 68 70 rfl rfl rfl
  (jr_pi 70 73 rfl jg_9_58_3 rfl (fun h12 =>
  (F_Watch_findRests_b73_ok hd hk2))))))))))))))))))))))))))))))))))))))))))
noncomputable def F_Watch_findRests_l2 : Nat → Nat → Int32 → Int32 → Int32 → LH → Option LH
 | 0, _, _, _, _, _ => none
 | n + 1, l0, l1, l2, l3, h => F_Watch_findRests_c2 (F_Watch_findRests_l2 n) l0 l1 l2 l3 h
theorem F_Watch_findRests_l2_ok {d : Nat} {q : LH} (hd : 1 ≤ d) : ∀ (n : Nat) (l0 : Nat) (l1 : Int32) (l2 : Int32) (l3 : Int32) (u4 : Value) (h : LH), F_Watch_findRests_l2 n l0 l1 l2 l3 h = some q → JR d jM_114 2 [.ref l0, .int l1, .int l2, .int l3, u4] [] h (jo_v q)
 | 0 => fun _ _ _ _ _ _ hq => nomatch (show (none : Option LH) = some q from hq)
 | n + 1 => fun _ _ _ _ _ _ hq => F_Watch_findRests_c2_ok hd (F_Watch_findRests_l2_ok hd n) hq
noncomputable def F_Watch_findRests (l0 : Nat) (l1 : Int32) (l2 : Int32) (h : LH) : Option LH :=
 F_Watch_findRests_l2  jF l0 l1 l2 (0 : Int32) h
set_option maxRecDepth 100000 in
theorem F_Watch_findRests_ok {d : Nat} (hd : 2 ≤ d) {l0 : Nat} {l1 : Int32} {l2 : Int32} {h : LH} {q : LH} : F_Watch_findRests l0 l1 l2 h = some q → jl_Sem jt_T jt_Ms d 114 [.ref l0, .int l1, .int l2] h (jo_v q) := by
 unfold F_Watch_findRests
 exact jr_enter (D := 1) hd jM_114_at rfl rfl rfl (fun d hd =>
  jr_iconst 0 1 (0 : Int32) rfl jc_i_0 rfl
  (jr_istoren 1 2 [.ref l0, .int l1, .int l2, .int (0 : Int32), .retAddr 0] rfl rfl rfl rfl
  ((F_Watch_findRests_l2_ok hd  jF _ _ _ _ _ _))))
noncomputable def jM_109 : JMeth := (9, false, 0, jk_109, [], 3)
set_option maxRecDepth 100000 in
theorem jM_109_at : jt_Ms 109 = some jM_109 := rfl
noncomputable def F_Watch_play_c77 (k77 : Nat → Int32 → LH → Option LH) (l0 : Nat) (l2 : Int32) (h : LH) : Option LH :=
 jf_gi h l0 9 4 fun v1 =>
 if l2 < v1 then
 jf_kd h l0 9
 (jf_bi (F_Watch_leastOfThief l0 l2 h) fun v2 h3 =>
 jf_kd h3 l0 9
 ((F_Watch_findRests l0 l2 v2 h3).bind fun h4 =>
 k77 l0 (l2 + (1 : Int32)) h4))
else
 some h
set_option maxRecDepth 100000 in
theorem F_Watch_play_c77_ok {d : Nat} {q : LH} {k77 : Nat → Int32 → LH → Option LH} (hd : 5 ≤ d) (hk77 : ∀ (l0 : Nat) (l2 : Int32) (u1 : Value) (h : LH), k77 l0 l2 h = some q → JR d jM_109 77 [.ref l0, u1, .int l2] [] h (jo_v q)) {l0 : Nat} {l2 : Int32} {u1 : Value} {h : LH} : F_Watch_play_c77 k77 l0 l2 h = some q → JR d jM_109 77 [.ref l0, u1, .int l2] [] h (jo_v q) := by
 unfold F_Watch_play_c77
 exact jr_iloadn 77 78 rfl rfl rfl
  (jr_aloadn 78 79 rfl rfl rfl
  (jr_gi 79 82 rfl jg_9_42_1 rfl (fun v1 =>
  jr_icmp_ge 82 101 85 rfl rfl rfl
  (jr_rv 101 rfl rfl)
  (jr_aloadn 85 86 rfl rfl rfl
  (jr_iloadn 86 87 rfl rfl rfl
  (jr_aloadn 87 88 rfl rfl rfl
  (jr_iloadn 88 89 rfl rfl rfl
  (jr_cVi 89 92 [.int l2, .ref l0] rfl rfl rfl rfl rfl rfl rfl rfl (as := [.int l2]) (F_Watch_leastOfThief_ok (Nat.le_trans (by decide : 2 ≤ 5) hd)) (fun v2 h3 =>
  jr_cVv 92 95 [] rfl rfl rfl rfl rfl rfl rfl rfl (as := [.int l2, .int v2]) (F_Watch_findRests_ok (Nat.le_trans (by decide : 2 ≤ 5) hd)) (fun h4 =>
  jr_iinc 95 98 [.ref l0, u1, .int (l2 + (1 : Int32))] rfl jc_i_1 rfl rfl rfl rfl
  (jr_goto 98 77 rfl rfl
  ((hk77 _ _ _ _)))))))))))))
noncomputable def F_Watch_play_l77 : Nat → Nat → Int32 → LH → Option LH
 | 0, _, _, _ => none
 | n + 1, l0, l2, h => F_Watch_play_c77 (F_Watch_play_l77 n) l0 l2 h
theorem F_Watch_play_l77_ok {d : Nat} {q : LH} (hd : 5 ≤ d) : ∀ (n : Nat) (l0 : Nat) (l2 : Int32) (u1 : Value) (h : LH), F_Watch_play_l77 n l0 l2 h = some q → JR d jM_109 77 [.ref l0, u1, .int l2] [] h (jo_v q)
 | 0 => fun _ _ _ _ hq => nomatch (show (none : Option LH) = some q from hq)
 | n + 1 => fun _ _ _ _ hq => F_Watch_play_c77_ok hd (F_Watch_play_l77_ok hd n) hq
noncomputable def F_Watch_play_c35 (k35 : Nat → Int32 → LH → Option LH) (l0 : Nat) (l2 : Int32) (h : LH) : Option LH :=
 jf_gi h l0 9 3 fun v1 =>
 if l2 < v1 then
 jf_gr h l0 9 2 fun v5 =>
 jf_kd h l0 9
 (jf_bi (F_Watch_mostOfThief l0 l2 h) fun v6 h7 =>
 jf_is h7 v5 l2 v6 fun h8 =>
 k35 l0 (l2 + (1 : Int32)) h8)
else
 jf_pi h l0 9 5 (0 : Int32) fun h2 =>
 jf_pi h2 l0 9 6 (-1 : Int32) fun h3 =>
 jf_pi h3 l0 9 7 (0 : Int32) fun h4 =>
 F_Watch_play_l77  jF l0 (0 : Int32) h4
set_option maxRecDepth 100000 in
theorem F_Watch_play_c35_ok {d : Nat} {q : LH} {k35 : Nat → Int32 → LH → Option LH} (hd : 5 ≤ d) (hk35 : ∀ (l0 : Nat) (l2 : Int32) (u1 : Value) (h : LH), k35 l0 l2 h = some q → JR d jM_109 35 [.ref l0, u1, .int l2] [] h (jo_v q)) {l0 : Nat} {l2 : Int32} {u1 : Value} {h : LH} : F_Watch_play_c35 k35 l0 l2 h = some q → JR d jM_109 35 [.ref l0, u1, .int l2] [] h (jo_v q) := by
 unfold F_Watch_play_c35
 exact jr_iloadn 35 36 rfl rfl rfl
  (jr_aloadn 36 37 rfl rfl rfl
  (jr_gi 37 40 rfl jg_9_35_1 rfl (fun v1 =>
  jr_icmp_ge 40 60 43 rfl rfl rfl
  (jr_aloadn 60 61 rfl rfl rfl
  (jr_iconst 61 62 (0 : Int32) rfl jc_i_0 rfl
  (jr_pi 62 65 rfl jg_9_52_3 rfl (fun h2 =>
  jr_aloadn 65 66 rfl rfl rfl
  (jr_iconst 66 67 (-1 : Int32) rfl jc_i_m1 rfl
  (jr_pi 67 70 rfl jg_9_55_3 rfl (fun h3 =>
  jr_aloadn 70 71 rfl rfl rfl
  (jr_iconst 71 72 (0 : Int32) rfl jc_i_0 rfl
  (jr_pi 72 75 rfl jg_9_58_3 rfl (fun h4 =>
  jr_iconst 75 76 (0 : Int32) rfl jc_i_0 rfl
  (jr_istoren 76 77 [.ref l0, u1, .int (0 : Int32)] rfl rfl rfl rfl
  ((F_Watch_play_l77_ok hd  jF _ _ _ _)))))))))))))
  (jr_aloadn 43 44 rfl rfl rfl
  (jr_gr 44 47 rfl jg_9_15_2 rfl (fun v5 =>
  jr_iloadn 47 48 rfl rfl rfl
  (jr_aloadn 48 49 rfl rfl rfl
  (jr_iloadn 49 50 rfl rfl rfl
  (jr_cVi 50 53 [.int l2, .ref v5] rfl rfl rfl rfl rfl rfl rfl rfl (as := [.int l2]) (F_Watch_mostOfThief_ok (Nat.le_trans (by decide : 2 ≤ 5) hd)) (fun v6 h7 =>
  jr_is 53 54 rfl rfl (fun h8 =>
  jr_iinc 54 57 [.ref l0, u1, .int (l2 + (1 : Int32))] rfl jc_i_1 rfl rfl rfl rfl
  (jr_goto 57 35 rfl rfl
  ((hk35 _ _ _ _))))))))))))))
noncomputable def F_Watch_play_l35 : Nat → Nat → Int32 → LH → Option LH
 | 0, _, _, _ => none
 | n + 1, l0, l2, h => F_Watch_play_c35 (F_Watch_play_l35 n) l0 l2 h
theorem F_Watch_play_l35_ok {d : Nat} {q : LH} (hd : 5 ≤ d) : ∀ (n : Nat) (l0 : Nat) (l2 : Int32) (u1 : Value) (h : LH), F_Watch_play_l35 n l0 l2 h = some q → JR d jM_109 35 [.ref l0, u1, .int l2] [] h (jo_v q)
 | 0 => fun _ _ _ _ hq => nomatch (show (none : Option LH) = some q from hq)
 | n + 1 => fun _ _ _ _ hq => F_Watch_play_c35_ok hd (F_Watch_play_l35_ok hd n) hq
noncomputable def F_Watch_play (l0 : Nat) (l1 : Int32) (h : LH) : Option LH :=
 jf_gr h l0 9 0 fun v1 =>
 jf_gr h v1 6 1 fun v2 =>
 jf_gi h v2 8 0 fun v3 =>
 jf_pi h l0 9 3 v3 fun h4 =>
 jf_gi h4 l0 9 3 fun v5 =>
 jf_pi h4 l0 9 4 (v5 * (if (24 : Int32) < l1 then (24 : Int32) else l1)) fun h6 =>
 jf_kd h6 l0 9
 ((F_Watch_seeOpenGates l0 h6).bind fun h7 =>
 F_Watch_play_l35  jF l0 (0 : Int32) h7)
set_option maxRecDepth 100000 in
theorem F_Watch_play_ok {d : Nat} (hd : 6 ≤ d) {l0 : Nat} {l1 : Int32} {h : LH} {q : LH} : F_Watch_play l0 l1 h = some q → jl_Sem jt_T jt_Ms d 109 [.ref l0, .int l1] h (jo_v q) := by
 unfold F_Watch_play
 exact jr_enter (D := 5) hd jM_109_at rfl rfl rfl (fun d hd =>
  jr_aloadn 0 1 rfl rfl rfl
  (jr_aloadn 1 2 rfl rfl rfl
  (jr_gr 2 5 rfl jg_9_19_2 rfl (fun v1 =>
  jr_gr 5 8 rfl jg_9_23_2 rfl (fun v2 =>
  jr_gi 8 11 rfl jg_9_29_1 rfl (fun v3 =>
  jr_pi 11 14 rfl jg_9_35_3 rfl (fun h4 =>
  jr_aloadn 14 15 rfl rfl rfl
  (jr_aloadn 15 16 rfl rfl rfl
  (jr_gi 16 19 rfl jg_9_35_1 rfl (fun v5 =>
  jr_iloadn 19 20 rfl rfl rfl
  (jr_bipush 20 22 (24 : Int32) rfl jc_b_24 rfl
  (jr_min 22 25 rfl rfl rfl rfl
  (jr_imul 25 26 rfl rfl
  (jr_pi 26 29 rfl jg_9_42_3 rfl (fun h6 =>
  jr_aloadn 29 30 rfl rfl rfl
  (jr_cVv 30 33 [] rfl rfl rfl rfl rfl rfl rfl rfl (as := []) (F_Watch_seeOpenGates_ok (Nat.le_trans (by decide : 5 ≤ 5) hd)) (fun h7 =>
  jr_iconst 33 34 (0 : Int32) rfl jc_i_0 rfl
  (jr_istoren 34 35 [.ref l0, .int l1, .int (0 : Int32)] rfl rfl rfl rfl
  ((F_Watch_play_l35_ok hd  jF _ _ _ _))))))))))))))))))))
noncomputable def jM_115 : JMeth := (10, true, 0, jk_115, [], 4)
set_option maxRecDepth 100000 in
theorem jM_115_at : jt_Ms 115 = some jM_115 := rfl
noncomputable def F_SG_init_c134 (k134 : Nat → Int32 → LH → Option LH) (l0 : Nat) (l3 : Int32) (h : LH) : Option LH :=
 if l3 < (3 : Int32) then
 jf_gr h l0 10 8 fun v20 =>
 jf_nw h 2 2 fun v21 h22 =>
 jf_kd h22 v21 2
 ((F_Hist_init v21 h22).bind fun h23 =>
 jf_as h23 v20 l3 v21 fun h24 =>
 k134 l0 (l3 + (1 : Int32)) h24)
else
 jf_mn h (3 : Int32) (134 : Int32) fun v1 h2 =>
 jf_pr h2 l0 10 9 v1 fun h3 =>
 jf_nw h3 8 18 fun v4 h5 =>
 jf_kd h5 v4 8
 ((F_Town_init v4 h5).bind fun h6 =>
 jf_pr h6 l0 10 10 v4 fun h7 =>
 jf_nw h7 4 3 fun v8 h9 =>
 jf_kd h9 v8 4
 ((F_Law_init v8 h9).bind fun h10 =>
 jf_pr h10 l0 10 11 v8 fun h11 =>
 jf_nw h11 0 3 fun v12 h13 =>
 jf_kd h13 v12 0
 ((F_Book_init v12 h13).bind fun h14 =>
 jf_pr h14 l0 10 12 v12 fun h15 =>
 jf_nw h15 0 3 fun v16 h17 =>
 jf_kd h17 v16 0
 ((F_Book_init v16 h17).bind fun h18 =>
 jf_pr h18 l0 10 13 v16 fun h19 =>
 some h19))))
set_option maxRecDepth 100000 in
theorem F_SG_init_c134_ok {d : Nat} {q : LH} {k134 : Nat → Int32 → LH → Option LH} (hd : 3 ≤ d) (hk134 : ∀ (l0 : Nat) (l3 : Int32) (u1 : Value) (u2 : Value) (h : LH), k134 l0 l3 h = some q → JR d jM_115 134 [.ref l0, u1, u2, .int l3] [] h (jo_v q)) {l0 : Nat} {l3 : Int32} {u1 : Value} {u2 : Value} {h : LH} : F_SG_init_c134 k134 l0 l3 h = some q → JR d jM_115 134 [.ref l0, u1, u2, .int l3] [] h (jo_v q) := by
 unfold F_SG_init_c134
 exact jr_iloadn 134 135 rfl rfl rfl
  (jr_iconst 135 136 (3 : Int32) rfl jc_i_3 rfl
  (jr_icmp_ge 136 158 139 rfl rfl rfl
  (jr_aloadn 158 159 rfl rfl rfl
  (jr_iconst 159 160 (3 : Int32) rfl jc_i_3 rfl
  (jr_sipush 160 163 (134 : Int32) rfl jc_s_134 rfl
  (jr_mn 163 167 rfl rfl rfl rfl (fun v1 h2 =>
  jr_prF 167 170 rfl rfl jg_10_77_6 rfl (fun h3 =>
  jr_aloadn 170 171 rfl rfl rfl
  (jr_nw 171 174 rfl rfl rfl rfl rfl (fun v4 h5 =>
  jr_dup 174 175 rfl rfl rfl
  (jr_cIv 175 178 [.ref v4, .ref l0] rfl rfl rfl rfl rfl rfl rfl rfl (as := []) (F_Town_init_ok (Nat.le_trans (by decide : 1 ≤ 3) hd)) (fun h6 =>
  jr_pr 178 181 rfl jg_10_80_5 rfl (fun h7 =>
  jr_aloadn 181 182 rfl rfl rfl
  (jr_nw 182 185 rfl rfl rfl rfl rfl (fun v8 h9 =>
  jr_dup 185 186 rfl rfl rfl
  (jr_cIv 186 189 [.ref v8, .ref l0] rfl rfl rfl rfl rfl rfl rfl rfl (as := []) (F_Law_init_ok (Nat.le_trans (by decide : 3 ≤ 3) hd)) (fun h10 =>
  jr_pr 189 192 rfl jg_10_84_5 rfl (fun h11 =>
  jr_aloadn 192 193 rfl rfl rfl
  (jr_nw 193 196 rfl rfl rfl rfl rfl (fun v12 h13 =>
  jr_dup 196 197 rfl rfl rfl
  (jr_cIv 197 200 [.ref v12, .ref l0] rfl rfl rfl rfl rfl rfl rfl rfl (as := []) (F_Book_init_ok (Nat.le_trans (by decide : 2 ≤ 3) hd)) (fun h14 =>
  jr_pr 200 203 rfl jg_10_91_5 rfl (fun h15 =>
  jr_aloadn 203 204 rfl rfl rfl
  (jr_nw 204 207 rfl rfl rfl rfl rfl (fun v16 h17 =>
  jr_dup 207 208 rfl rfl rfl
  (jr_cIv 208 211 [.ref v16, .ref l0] rfl rfl rfl rfl rfl rfl rfl rfl (as := []) (F_Book_init_ok (Nat.le_trans (by decide : 2 ≤ 3) hd)) (fun h18 =>
  jr_pr 211 214 rfl jg_10_95_5 rfl (fun h19 =>
  jr_rv 214 rfl rfl))))))))))))))))))))))))))
  (jr_aloadn 139 140 rfl rfl rfl
  (jr_gr 140 143 rfl jg_10_71_2 rfl (fun v20 =>
  jr_iloadn 143 144 rfl rfl rfl
  (jr_nw 144 147 rfl rfl rfl rfl rfl (fun v21 h22 =>
  jr_dup 147 148 rfl rfl rfl
  (jr_cIv 148 151 [.ref v21, .int l3, .ref v20] rfl rfl rfl rfl rfl rfl rfl rfl (as := []) (F_Hist_init_ok (Nat.le_trans (by decide : 1 ≤ 3) hd)) (fun h23 =>
  jr_as 151 152 rfl rfl (fun h24 =>
  jr_iinc 152 155 [.ref l0, u1, u2, .int (l3 + (1 : Int32))] rfl jc_i_1 rfl rfl rfl rfl
  (jr_goto 155 134 rfl rfl
  ((hk134 _ _ _ _ _)))))))))))))
noncomputable def F_SG_init_l134 : Nat → Nat → Int32 → LH → Option LH
 | 0, _, _, _ => none
 | n + 1, l0, l3, h => F_SG_init_c134 (F_SG_init_l134 n) l0 l3 h
theorem F_SG_init_l134_ok {d : Nat} {q : LH} (hd : 3 ≤ d) : ∀ (n : Nat) (l0 : Nat) (l3 : Int32) (u1 : Value) (u2 : Value) (h : LH), F_SG_init_l134 n l0 l3 h = some q → JR d jM_115 134 [.ref l0, u1, u2, .int l3] [] h (jo_v q)
 | 0 => fun _ _ _ _ _ hq => nomatch (show (none : Option LH) = some q from hq)
 | n + 1 => fun _ _ _ _ _ hq => F_SG_init_c134_ok hd (F_SG_init_l134_ok hd n) hq
noncomputable def F_SG_init (l0 : Nat) (h : LH) : Option LH :=
 jf_nw h 7 7 fun v1 h2 =>
 jf_kd h2 v1 7
 ((F_Text_init v1 h2).bind fun h3 =>
 jf_pr h3 l0 10 0 v1 fun h4 =>
 jf_nw h4 5 5 fun v5 h6 =>
 jf_kd h6 v5 5
 ((F_Prog_init v5 h6).bind fun h7 =>
 jf_pr h7 l0 10 1 v5 fun h8 =>
 jf_nw h8 8 18 fun v9 h10 =>
 jf_kd h10 v9 8
 ((F_Town_init v9 h10).bind fun h11 =>
 jf_nw h11 4 3 fun v12 h13 =>
 jf_kd h13 v12 4
 ((F_Law_init v12 h13).bind fun h14 =>
 jf_nw h14 6 10 fun v15 h16 =>
 jf_kd h16 v15 6
 ((F_Scene_init v15 v9 v12 h16).bind fun h17 =>
 jf_pr h17 l0 10 2 v15 fun h18 =>
 jf_nw h18 6 10 fun v19 h20 =>
 jf_kd h20 v19 6
 ((F_Scene_init v19 v9 v12 h20).bind fun h21 =>
 jf_pr h21 l0 10 3 v19 fun h22 =>
 jf_nw h22 3 8 fun v23 h24 =>
 jf_gr h24 l0 10 3 fun v25 =>
 jf_kd h24 v23 3
 ((F_Keep_init v23 v25 h24).bind fun h26 =>
 jf_pr h26 l0 10 4 v23 fun h27 =>
 jf_nw h27 9 8 fun v28 h29 =>
 jf_gr h29 l0 10 3 fun v30 =>
 jf_kd h29 v28 9
 ((F_Watch_init v28 v30 h29).bind fun h31 =>
 jf_pr h31 l0 10 5 v28 fun h32 =>
 jf_nw h32 1 4 fun v33 h34 =>
 jf_gr h34 l0 10 3 fun v35 =>
 jf_kd h34 v33 1
 ((F_Days_init v33 v35 h34).bind fun h36 =>
 jf_pr h36 l0 10 6 v33 fun h37 =>
 jf_nw h37 2 2 fun v38 h39 =>
 jf_kd h39 v38 2
 ((F_Hist_init v38 h39).bind fun h40 =>
 jf_pr h40 l0 10 7 v38 fun h41 =>
 jf_na h41 25 (3 : Int32) fun v42 h43 =>
 jf_pr h43 l0 10 8 v42 fun h44 =>
 F_SG_init_l134  jF l0 (0 : Int32) h44))))))))))
set_option maxRecDepth 100000 in
theorem F_SG_init_ok {d : Nat} (hd : 4 ≤ d) {l0 : Nat} {h : LH} {q : LH} : F_SG_init l0 h = some q → jl_Sem jt_T jt_Ms d 115 [.ref l0] h (jo_v q) := by
 unfold F_SG_init
 exact jr_enter (D := 3) hd jM_115_at rfl rfl rfl (fun d hd =>
  jr_aloadn 0 1 rfl rfl rfl
  (jr_oi 1 4 rfl rfl rfl rfl
  (jr_aloadn 4 5 rfl rfl rfl
  (jr_nw 5 8 rfl rfl rfl rfl rfl (fun v1 h2 =>
  jr_dup 8 9 rfl rfl rfl
  (jr_cIv 9 12 [.ref v1, .ref l0] rfl rfl rfl rfl rfl rfl rfl rfl (as := []) (F_Text_init_ok (Nat.le_trans (by decide : 1 ≤ 3) hd)) (fun h3 =>
  jr_prF 12 15 rfl rfl jg_10_10_6 rfl (fun h4 =>
  jr_aloadn 15 16 rfl rfl rfl
  (jr_nw 16 19 rfl rfl rfl rfl rfl (fun v5 h6 =>
  jr_dup 19 20 rfl rfl rfl
  (jr_cIv 20 23 [.ref v5, .ref l0] rfl rfl rfl rfl rfl rfl rfl rfl (as := []) (F_Prog_init_ok (Nat.le_trans (by decide : 1 ≤ 3) hd)) (fun h7 =>
  jr_prF 23 26 rfl rfl jg_10_19_6 rfl (fun h8 =>
  jr_nw 26 29 rfl rfl rfl rfl rfl (fun v9 h10 =>
  jr_dup 29 30 rfl rfl rfl
  (jr_cIv 30 33 [.ref v9] rfl rfl rfl rfl rfl rfl rfl rfl (as := []) (F_Town_init_ok (Nat.le_trans (by decide : 1 ≤ 3) hd)) (fun h11 =>
  jr_astoren 33 34 [.ref l0, .ref v9, .retAddr 0, .retAddr 0] rfl rfl rfl rfl
  (jr_nw 34 37 rfl rfl rfl rfl rfl (fun v12 h13 =>
  jr_dup 37 38 rfl rfl rfl
  (jr_cIv 38 41 [.ref v12] rfl rfl rfl rfl rfl rfl rfl rfl (as := []) (F_Law_init_ok (Nat.le_trans (by decide : 3 ≤ 3) hd)) (fun h14 =>
  jr_astoren 41 42 [.ref l0, .ref v9, .ref v12, .retAddr 0] rfl rfl rfl rfl
  (jr_aloadn 42 43 rfl rfl rfl
  (jr_nw 43 46 rfl rfl rfl rfl rfl (fun v15 h16 =>
  jr_dup 46 47 rfl rfl rfl
  (jr_aloadn 47 48 rfl rfl rfl
  (jr_aloadn 48 49 rfl rfl rfl
  (jr_cIv 49 52 [.ref v15, .ref l0] rfl rfl rfl rfl rfl rfl rfl rfl (as := [.ref v9, .ref v12]) (F_Scene_init_ok (Nat.le_trans (by decide : 1 ≤ 3) hd)) (fun h17 =>
  jr_prF 52 55 rfl rfl jg_10_34_6 rfl (fun h18 =>
  jr_aloadn 55 56 rfl rfl rfl
  (jr_nw 56 59 rfl rfl rfl rfl rfl (fun v19 h20 =>
  jr_dup 59 60 rfl rfl rfl
  (jr_aloadn 60 61 rfl rfl rfl
  (jr_aloadn 61 62 rfl rfl rfl
  (jr_cIv 62 65 [.ref v19, .ref l0] rfl rfl rfl rfl rfl rfl rfl rfl (as := [.ref v9, .ref v12]) (F_Scene_init_ok (Nat.le_trans (by decide : 1 ≤ 3) hd)) (fun h21 =>
  jr_prF 65 68 rfl rfl jg_10_38_6 rfl (fun h22 =>
  jr_aloadn 68 69 rfl rfl rfl
  (jr_nw 69 72 rfl rfl rfl rfl rfl (fun v23 h24 =>
  jr_dup 72 73 rfl rfl rfl
  (jr_aloadn 73 74 rfl rfl rfl
  (jr_gr 74 77 rfl jg_10_38_2 rfl (fun v25 =>
  jr_cIv 77 80 [.ref v23, .ref l0] rfl rfl rfl rfl rfl rfl rfl rfl (as := [.ref v25]) (F_Keep_init_ok (Nat.le_trans (by decide : 1 ≤ 3) hd)) (fun h26 =>
  jr_prF 80 83 rfl rfl jg_10_46_6 rfl (fun h27 =>
  jr_aloadn 83 84 rfl rfl rfl
  (jr_nw 84 87 rfl rfl rfl rfl rfl (fun v28 h29 =>
  jr_dup 87 88 rfl rfl rfl
  (jr_aloadn 88 89 rfl rfl rfl
  (jr_gr 89 92 rfl jg_10_38_2 rfl (fun v30 =>
  jr_cIv 92 95 [.ref v28, .ref l0] rfl rfl rfl rfl rfl rfl rfl rfl (as := [.ref v30]) (F_Watch_init_ok (Nat.le_trans (by decide : 1 ≤ 3) hd)) (fun h31 =>
  jr_prF 95 98 rfl rfl jg_10_53_6 rfl (fun h32 =>
  jr_aloadn 98 99 rfl rfl rfl
  (jr_nw 99 102 rfl rfl rfl rfl rfl (fun v33 h34 =>
  jr_dup 102 103 rfl rfl rfl
  (jr_aloadn 103 104 rfl rfl rfl
  (jr_gr 104 107 rfl jg_10_38_2 rfl (fun v35 =>
  jr_cIv 107 110 [.ref v33, .ref l0] rfl rfl rfl rfl rfl rfl rfl rfl (as := [.ref v35]) (F_Days_init_ok (Nat.le_trans (by decide : 1 ≤ 3) hd)) (fun h36 =>
  jr_prF 110 113 rfl rfl jg_10_60_6 rfl (fun h37 =>
  jr_aloadn 113 114 rfl rfl rfl
  (jr_nw 114 117 rfl rfl rfl rfl rfl (fun v38 h39 =>
  jr_dup 117 118 rfl rfl rfl
  (jr_cIv 118 121 [.ref v38, .ref l0] rfl rfl rfl rfl rfl rfl rfl rfl (as := []) (F_Hist_init_ok (Nat.le_trans (by decide : 1 ≤ 3) hd)) (fun h40 =>
  jr_prF 121 124 rfl rfl jg_10_67_6 rfl (fun h41 =>
  jr_aloadn 124 125 rfl rfl rfl
  (jr_iconst 125 126 (3 : Int32) rfl jc_i_3 rfl
  (jr_an 126 129 rfl rfl rfl (fun v42 h43 =>
  jr_prF 129 132 rfl rfl jg_10_71_6 rfl (fun h44 =>
  jr_iconst 132 133 (0 : Int32) rfl jc_i_0 rfl
  (jr_istoren 133 134 [.ref l0, .ref v9, .ref v12, .int (0 : Int32)] rfl rfl rfl rfl
  ((F_SG_init_l134_ok hd  jF _ _ _ _ _))))))))))))))))))))))))))))))))))))))))))))))))))))))))))))))))))))
noncomputable def jM_116 : JMeth := (10, false, 1, jk_116, [], 6)
set_option maxRecDepth 100000 in
theorem jM_116_at : jt_Ms 116 = some jM_116 := rfl
noncomputable def F_SG_feed (l0 : Nat) (l1 : Int32) (l2 : Int32) (l3 : Int32) (l4 : Int32) (l5 : Int32) (h : LH) : Option (Int32 × LH) :=
 jf_gr h l0 10 0 fun v1 =>
 jf_gi h v1 7 1 fun v2 =>
 if (600 : Int32) < (v2 + (20 : Int32)) then
 some ((-1 : Int32), h)
else
 jf_gr h l0 10 0 fun v3 =>
 jf_kd h v3 7
 ((F_Text_append v3 l1 h).bind fun h4 =>
 jf_gr h4 l0 10 0 fun v5 =>
 jf_kd h4 v5 7
 ((F_Text_append v5 l2 h4).bind fun h6 =>
 jf_gr h6 l0 10 0 fun v7 =>
 jf_kd h6 v7 7
 ((F_Text_append v7 l3 h6).bind fun h8 =>
 jf_gr h8 l0 10 0 fun v9 =>
 jf_kd h8 v9 7
 ((F_Text_append v9 l4 h8).bind fun h10 =>
 jf_gr h10 l0 10 0 fun v11 =>
 jf_kd h10 v11 7
 ((F_Text_append v11 l5 h10).bind fun h12 =>
 jf_gr h12 l0 10 0 fun v13 =>
 jf_gi h12 v13 7 1 fun v14 =>
 some (v14, h12))))))
set_option maxRecDepth 100000 in
theorem F_SG_feed_ok {d : Nat} (hd : 2 ≤ d) {l0 : Nat} {l1 : Int32} {l2 : Int32} {l3 : Int32} {l4 : Int32} {l5 : Int32} {h : LH} {q : (Int32 × LH)} : F_SG_feed l0 l1 l2 l3 l4 l5 h = some q → jl_Sem jt_T jt_Ms d 116 [.ref l0, .int l1, .int l2, .int l3, .int l4, .int l5] h (jo_i q) := by
 unfold F_SG_feed
 exact jr_enter (D := 1) hd jM_116_at rfl rfl rfl (fun d hd =>
  jr_aloadn 0 1 rfl rfl rfl
  (jr_gr 1 4 rfl jg_10_10_2 rfl (fun v1 =>
  jr_gi 4 7 rfl jg_10_98_1 rfl (fun v2 =>
  jr_bipush 7 9 (20 : Int32) rfl jc_b_20 rfl
  (jr_iadd 9 10 rfl rfl
  (jr_sipush 10 13 (600 : Int32) rfl jc_s_600 rfl
  (jr_icmp_le 13 18 16 rfl rfl rfl
  (jr_aloadn 18 19 rfl rfl rfl
  (jr_gr 19 22 rfl jg_10_10_2 rfl (fun v3 =>
  jr_iloadn 22 23 rfl rfl rfl
  (jr_cVv 23 26 [] rfl rfl rfl rfl rfl rfl rfl rfl (as := [.int l1]) (F_Text_append_ok (Nat.le_trans (by decide : 1 ≤ 1) hd)) (fun h4 =>
  jr_aloadn 26 27 rfl rfl rfl
  (jr_gr 27 30 rfl jg_10_10_2 rfl (fun v5 =>
  jr_iloadn 30 31 rfl rfl rfl
  (jr_cVv 31 34 [] rfl rfl rfl rfl rfl rfl rfl rfl (as := [.int l2]) (F_Text_append_ok (Nat.le_trans (by decide : 1 ≤ 1) hd)) (fun h6 =>
  jr_aloadn 34 35 rfl rfl rfl
  (jr_gr 35 38 rfl jg_10_10_2 rfl (fun v7 =>
  jr_iloadn 38 39 rfl rfl rfl
  (jr_cVv 39 42 [] rfl rfl rfl rfl rfl rfl rfl rfl (as := [.int l3]) (F_Text_append_ok (Nat.le_trans (by decide : 1 ≤ 1) hd)) (fun h8 =>
  jr_aloadn 42 43 rfl rfl rfl
  (jr_gr 43 46 rfl jg_10_10_2 rfl (fun v9 =>
  jr_iload 46 48 rfl rfl rfl
  (jr_cVv 48 51 [] rfl rfl rfl rfl rfl rfl rfl rfl (as := [.int l4]) (F_Text_append_ok (Nat.le_trans (by decide : 1 ≤ 1) hd)) (fun h10 =>
  jr_aloadn 51 52 rfl rfl rfl
  (jr_gr 52 55 rfl jg_10_10_2 rfl (fun v11 =>
  jr_iload 55 57 rfl rfl rfl
  (jr_cVv 57 60 [] rfl rfl rfl rfl rfl rfl rfl rfl (as := [.int l5]) (F_Text_append_ok (Nat.le_trans (by decide : 1 ≤ 1) hd)) (fun h12 =>
  jr_aloadn 60 61 rfl rfl rfl
  (jr_gr 61 64 rfl jg_10_10_2 rfl (fun v13 =>
  jr_gi 64 67 rfl jg_10_98_1 rfl (fun v14 =>
  jr_ri 67 rfl rfl))))))))))))))))))))))))
  (jr_iconst 16 17 (-1 : Int32) rfl jc_i_m1 rfl
  (jr_ri 17 rfl rfl)))))))))
noncomputable def jM_117 : JMeth := (10, false, 1, jk_117, [], 1)
set_option maxRecDepth 100000 in
theorem jM_117_at : jt_Ms 117 = some jM_117 := rfl
noncomputable def F_SG_fault (l0 : Nat) (h : LH) : Option (Int32 × LH) :=
 jf_gr h l0 10 0 fun v1 =>
 jf_gi h v1 7 3 fun v2 =>
 some (v2, h)
set_option maxRecDepth 100000 in
theorem F_SG_fault_ok {d : Nat} (hd : 1 ≤ d) {l0 : Nat} {h : LH} {q : (Int32 × LH)} : F_SG_fault l0 h = some q → jl_Sem jt_T jt_Ms d 117 [.ref l0] h (jo_i q) := by
 unfold F_SG_fault
 exact jr_enter (D := 0) hd jM_117_at rfl rfl rfl (fun d hd =>
  jr_aloadn 0 1 rfl rfl rfl
  (jr_gr 1 4 rfl jg_10_10_2 rfl (fun v1 =>
  jr_gi 4 7 rfl jg_10_165_1 rfl (fun v2 =>
  jr_ri 7 rfl rfl))))
noncomputable def jM_118 : JMeth := (10, false, 1, jk_118, [], 1)
set_option maxRecDepth 100000 in
theorem jM_118_at : jt_Ms 118 = some jM_118 := rfl
noncomputable def F_SG_undo (l0 : Nat) (h : LH) : Option (Int32 × LH) :=
 jf_gr h l0 10 7 fun v1 =>
 jf_gi h v1 2 1 fun v2 =>
 if 0 < v2 then
 jf_gr h l0 10 7 fun v3 =>
 jf_gr h l0 10 2 fun v4 =>
 jf_kd h v3 2
 ((F_Hist_pop v3 v4 h).bind fun h5 =>
 jf_pi h5 l0 10 15 (0 : Int32) fun h6 =>
 jf_gr h6 l0 10 7 fun v7 =>
 jf_gi h6 v7 2 1 fun v8 =>
 some (v8, h6))
else
 some ((-1 : Int32), h)
set_option maxRecDepth 100000 in
theorem F_SG_undo_ok {d : Nat} (hd : 3 ≤ d) {l0 : Nat} {h : LH} {q : (Int32 × LH)} : F_SG_undo l0 h = some q → jl_Sem jt_T jt_Ms d 118 [.ref l0] h (jo_i q) := by
 unfold F_SG_undo
 exact jr_enter (D := 2) hd jM_118_at rfl rfl rfl (fun d hd =>
  jr_aloadn 0 1 rfl rfl rfl
  (jr_gr 1 4 rfl jg_10_67_2 rfl (fun v1 =>
  jr_gi 4 7 rfl jg_10_135_1 rfl (fun v2 =>
  jr_if_gt 7 12 10 rfl rfl rfl
  (jr_aloadn 12 13 rfl rfl rfl
  (jr_gr 13 16 rfl jg_10_67_2 rfl (fun v3 =>
  jr_aloadn 16 17 rfl rfl rfl
  (jr_gr 17 20 rfl jg_10_34_2 rfl (fun v4 =>
  jr_cVv 20 23 [] rfl rfl rfl rfl rfl rfl rfl rfl (as := [.ref v4]) (F_Hist_pop_ok (Nat.le_trans (by decide : 2 ≤ 2) hd)) (fun h5 =>
  jr_aloadn 23 24 rfl rfl rfl
  (jr_iconst 24 25 (0 : Int32) rfl jc_i_0 rfl
  (jr_pi 25 28 rfl jg_10_141_3 rfl (fun h6 =>
  jr_aloadn 28 29 rfl rfl rfl
  (jr_gr 29 32 rfl jg_10_67_2 rfl (fun v7 =>
  jr_gi 32 35 rfl jg_10_135_1 rfl (fun v8 =>
  jr_ri 35 rfl rfl))))))))))))
  (jr_iconst 10 11 (-1 : Int32) rfl jc_i_m1 rfl
  (jr_ri 11 rfl rfl))))))
noncomputable def jM_119 : JMeth := (10, false, 1, jk_119, [], 6)
set_option maxRecDepth 100000 in
theorem jM_119_at : jt_Ms 119 = some jM_119 := rfl
noncomputable def F_SG_closest_b89 (k7 : Nat → Int32 → Int32 → Int32 → LH → Option (Int32 × LH)) (k26 : Nat → Int32 → Int32 → Int32 → Int32 → LH → Option (Int32 × LH)) (l0 : Nat) (l1 : Int32) (l2 : Int32) (l3 : Int32) (l4 : Int32) (h : LH) : Option (Int32 × LH) :=
 k26 l0 l1 l2 l3 (l4 + (1 : Int32)) h
set_option maxRecDepth 100000 in
theorem F_SG_closest_b89_ok {d : Nat} {q : (Int32 × LH)} {k7 : Nat → Int32 → Int32 → Int32 → LH → Option (Int32 × LH)} {k26 : Nat → Int32 → Int32 → Int32 → Int32 → LH → Option (Int32 × LH)} (hd : 1 ≤ d) (hk7 : ∀ (l0 : Nat) (l1 : Int32) (l2 : Int32) (l3 : Int32) (u4 : Value) (u5 : Value) (h : LH), k7 l0 l1 l2 l3 h = some q → JR d jM_119 7 [.ref l0, .int l1, .int l2, .int l3, u4, u5] [] h (jo_i q)) (hk26 : ∀ (l0 : Nat) (l1 : Int32) (l2 : Int32) (l3 : Int32) (l4 : Int32) (u5 : Value) (h : LH), k26 l0 l1 l2 l3 l4 h = some q → JR d jM_119 26 [.ref l0, .int l1, .int l2, .int l3, .int l4, u5] [] h (jo_i q)) {l0 : Nat} {l1 : Int32} {l2 : Int32} {l3 : Int32} {l4 : Int32} {u5 : Value} {h : LH} : F_SG_closest_b89 k7 k26 l0 l1 l2 l3 l4 h = some q → JR d jM_119 89 [.ref l0, .int l1, .int l2, .int l3, .int l4, u5] [] h (jo_i q) := by
 unfold F_SG_closest_b89
 exact jr_iinc 89 92 [.ref l0, .int l1, .int l2, .int l3, .int (l4 + (1 : Int32)), u5] rfl jc_i_1 rfl rfl rfl rfl
  (jr_goto 92 26 rfl rfl
  ((hk26 _ _ _ _ _ _ _)))
noncomputable def F_SG_closest_c26 (k7 : Nat → Int32 → Int32 → Int32 → LH → Option (Int32 × LH)) (k26 : Nat → Int32 → Int32 → Int32 → Int32 → LH → Option (Int32 × LH)) (l0 : Nat) (l1 : Int32) (l2 : Int32) (l3 : Int32) (l4 : Int32) (h : LH) : Option (Int32 × LH) :=
 jf_gr h l0 10 2 fun v1 =>
 jf_gr h v1 6 1 fun v2 =>
 jf_gi h v2 8 5 fun v3 =>
 if l4 < v3 then
 jf_gr h l0 10 2 fun v4 =>
 jf_gr h v4 6 1 fun v5 =>
 jf_gr h v5 8 17 fun v6 =>
 jf_ia h v6 l3 fun v7 =>
 jf_gr h l0 10 2 fun v8 =>
 jf_gr h v8 6 1 fun v9 =>
 jf_gr h v9 8 17 fun v10 =>
 jf_ia h v10 l4 fun v11 =>
 jf_bi (F_Int_bitCount (v7 ^^^ v11) h) fun v12 h13 =>
 if v12 < l2 then
 jf_let (((10 : Int32) * l3) + l4) fun v14 =>
 F_SG_closest_b89 k7 k26 l0 v14 v12 l3 l4 h13
else
 F_SG_closest_b89 k7 k26 l0 l1 l2 l3 l4 h13
else
 k7 l0 l1 l2 (l3 + (1 : Int32)) h
set_option maxRecDepth 100000 in
theorem F_SG_closest_c26_ok {d : Nat} {q : (Int32 × LH)} {k7 : Nat → Int32 → Int32 → Int32 → LH → Option (Int32 × LH)} {k26 : Nat → Int32 → Int32 → Int32 → Int32 → LH → Option (Int32 × LH)} (hd : 1 ≤ d) (hk7 : ∀ (l0 : Nat) (l1 : Int32) (l2 : Int32) (l3 : Int32) (u4 : Value) (u5 : Value) (h : LH), k7 l0 l1 l2 l3 h = some q → JR d jM_119 7 [.ref l0, .int l1, .int l2, .int l3, u4, u5] [] h (jo_i q)) (hk26 : ∀ (l0 : Nat) (l1 : Int32) (l2 : Int32) (l3 : Int32) (l4 : Int32) (u5 : Value) (h : LH), k26 l0 l1 l2 l3 l4 h = some q → JR d jM_119 26 [.ref l0, .int l1, .int l2, .int l3, .int l4, u5] [] h (jo_i q)) {l0 : Nat} {l1 : Int32} {l2 : Int32} {l3 : Int32} {l4 : Int32} {u5 : Value} {h : LH} : F_SG_closest_c26 k7 k26 l0 l1 l2 l3 l4 h = some q → JR d jM_119 26 [.ref l0, .int l1, .int l2, .int l3, .int l4, u5] [] h (jo_i q) := by
 unfold F_SG_closest_c26
 exact jr_iload 26 28 rfl rfl rfl
  (jr_aloadn 28 29 rfl rfl rfl
  (jr_gr 29 32 rfl jg_10_34_2 rfl (fun v1 =>
  jr_gr 32 35 rfl jg_10_120_2 rfl (fun v2 =>
  jr_gi 35 38 rfl jg_10_181_1 rfl (fun v3 =>
  jr_icmp_ge 38 95 41 rfl rfl rfl
  (jr_iinc 95 98 [.ref l0, .int l1, .int l2, .int (l3 + (1 : Int32)), .int l4, u5] rfl jc_i_1 rfl rfl rfl rfl
  (jr_goto 98 7 rfl rfl
  ((hk7 _ _ _ _ _ _ _))))
  (jr_aloadn 41 42 rfl rfl rfl
  (jr_gr 42 45 rfl jg_10_34_2 rfl (fun v4 =>
  jr_gr 45 48 rfl jg_10_120_2 rfl (fun v5 =>
  jr_gr 48 51 rfl jg_10_324_2 rfl (fun v6 =>
  jr_iloadn 51 52 rfl rfl rfl
  (jr_ia 52 53 rfl rfl (fun v7 =>
  jr_aloadn 53 54 rfl rfl rfl
  (jr_gr 54 57 rfl jg_10_34_2 rfl (fun v8 =>
  jr_gr 57 60 rfl jg_10_120_2 rfl (fun v9 =>
  jr_gr 60 63 rfl jg_10_324_2 rfl (fun v10 =>
  jr_iload 63 65 rfl rfl rfl
  (jr_ia 65 66 rfl rfl (fun v11 =>
  jr_ixor 66 67 rfl rfl
  (jr_cSi 67 70 [] rfl rfl rfl rfl rfl rfl rfl (as := [.int (v7 ^^^ v11)]) (F_Int_bitCount_ok (Nat.le_trans (by decide : 1 ≤ 1) hd)) (fun v12 h13 =>
  jr_istore 70 72 [.ref l0, .int l1, .int l2, .int l3, .int l4, .int v12] rfl rfl rfl rfl
  (jr_iload 72 74 rfl rfl rfl
  (jr_iloadn 74 75 rfl rfl rfl
  (jr_icmp_ge 75 89 78 rfl rfl rfl
  ((F_SG_closest_b89_ok hd hk7 hk26))
  (jr_iload 78 80 rfl rfl rfl
  (jr_istoren 80 81 [.ref l0, .int l1, .int v12, .int l3, .int l4, .int v12] rfl rfl rfl rfl
  (jr_bipush 81 83 (10 : Int32) rfl jc_b_10 rfl
  (jr_iloadn 83 84 rfl rfl rfl
  (jr_imul 84 85 rfl rfl
  (jr_iload 85 87 rfl rfl rfl
  (jr_iadd 87 88 rfl rfl
  (jr_istorenL 88 89 (fun v14 => [.ref l0, .int v14, .int v12, .int l3, .int l4, .int v12]) rfl rfl (fun _ => rfl) rfl (fun v14 =>
  (F_SG_closest_b89_ok hd hk7 hk26)))))))))))))))))))))))))))))))))
noncomputable def F_SG_closest_l26 (k7 : Nat → Int32 → Int32 → Int32 → LH → Option (Int32 × LH)) : Nat → Nat → Int32 → Int32 → Int32 → Int32 → LH → Option (Int32 × LH)
 | 0, _, _, _, _, _, _ => none
 | n + 1, l0, l1, l2, l3, l4, h => F_SG_closest_c26 k7 (F_SG_closest_l26 k7 n) l0 l1 l2 l3 l4 h
theorem F_SG_closest_l26_ok {d : Nat} {q : (Int32 × LH)} {k7 : Nat → Int32 → Int32 → Int32 → LH → Option (Int32 × LH)} (hd : 1 ≤ d) (hk7 : ∀ (l0 : Nat) (l1 : Int32) (l2 : Int32) (l3 : Int32) (u4 : Value) (u5 : Value) (h : LH), k7 l0 l1 l2 l3 h = some q → JR d jM_119 7 [.ref l0, .int l1, .int l2, .int l3, u4, u5] [] h (jo_i q)) : ∀ (n : Nat) (l0 : Nat) (l1 : Int32) (l2 : Int32) (l3 : Int32) (l4 : Int32) (u5 : Value) (h : LH), F_SG_closest_l26 k7 n l0 l1 l2 l3 l4 h = some q → JR d jM_119 26 [.ref l0, .int l1, .int l2, .int l3, .int l4, u5] [] h (jo_i q)
 | 0 => fun _ _ _ _ _ _ _ hq => nomatch (show (none : Option (Int32 × LH)) = some q from hq)
 | n + 1 => fun _ _ _ _ _ _ _ hq => F_SG_closest_c26_ok hd hk7 (F_SG_closest_l26_ok hd hk7 n) hq
noncomputable def F_SG_closest_c7 (k7 : Nat → Int32 → Int32 → Int32 → LH → Option (Int32 × LH)) (l0 : Nat) (l1 : Int32) (l2 : Int32) (l3 : Int32) (h : LH) : Option (Int32 × LH) :=
 jf_gr h l0 10 2 fun v1 =>
 jf_gr h v1 6 1 fun v2 =>
 jf_gi h v2 8 5 fun v3 =>
 if l3 < v3 then
 jf_let (l3 + (1 : Int32)) fun v4 =>
 F_SG_closest_l26 k7 jF l0 l1 l2 l3 v4 h
else
 some (l1, h)
set_option maxRecDepth 100000 in
theorem F_SG_closest_c7_ok {d : Nat} {q : (Int32 × LH)} {k7 : Nat → Int32 → Int32 → Int32 → LH → Option (Int32 × LH)} (hd : 1 ≤ d) (hk7 : ∀ (l0 : Nat) (l1 : Int32) (l2 : Int32) (l3 : Int32) (u4 : Value) (u5 : Value) (h : LH), k7 l0 l1 l2 l3 h = some q → JR d jM_119 7 [.ref l0, .int l1, .int l2, .int l3, u4, u5] [] h (jo_i q)) {l0 : Nat} {l1 : Int32} {l2 : Int32} {l3 : Int32} {u4 : Value} {u5 : Value} {h : LH} : F_SG_closest_c7 k7 l0 l1 l2 l3 h = some q → JR d jM_119 7 [.ref l0, .int l1, .int l2, .int l3, u4, u5] [] h (jo_i q) := by
 unfold F_SG_closest_c7
 exact jr_iloadn 7 8 rfl rfl rfl
  (jr_aloadn 8 9 rfl rfl rfl
  (jr_gr 9 12 rfl jg_10_34_2 rfl (fun v1 =>
  jr_gr 12 15 rfl jg_10_120_2 rfl (fun v2 =>
  jr_gi 15 18 rfl jg_10_181_1 rfl (fun v3 =>
  jr_icmp_ge 18 101 21 rfl rfl rfl
  (jr_iloadn 101 102 rfl rfl rfl
  (jr_ri 102 rfl rfl))
  (jr_iloadn 21 22 rfl rfl rfl
  (jr_iconst 22 23 (1 : Int32) rfl jc_i_1 rfl
  (jr_iadd 23 24 rfl rfl
  (jr_istoreL 24 26 (fun v4 => [.ref l0, .int l1, .int l2, .int l3, .int v4, u5]) rfl rfl (fun _ => rfl) rfl (fun v4 =>
  (F_SG_closest_l26_ok hd hk7 jF _ _ _ _ _ _ _)))))))))))
noncomputable def F_SG_closest_l7 : Nat → Nat → Int32 → Int32 → Int32 → LH → Option (Int32 × LH)
 | 0, _, _, _, _, _ => none
 | n + 1, l0, l1, l2, l3, h => F_SG_closest_c7 (F_SG_closest_l7 n) l0 l1 l2 l3 h
theorem F_SG_closest_l7_ok {d : Nat} {q : (Int32 × LH)} (hd : 1 ≤ d) : ∀ (n : Nat) (l0 : Nat) (l1 : Int32) (l2 : Int32) (l3 : Int32) (u4 : Value) (u5 : Value) (h : LH), F_SG_closest_l7 n l0 l1 l2 l3 h = some q → JR d jM_119 7 [.ref l0, .int l1, .int l2, .int l3, u4, u5] [] h (jo_i q)
 | 0 => fun _ _ _ _ _ _ _ hq => nomatch (show (none : Option (Int32 × LH)) = some q from hq)
 | n + 1 => fun _ _ _ _ _ _ _ hq => F_SG_closest_c7_ok hd (F_SG_closest_l7_ok hd n) hq
noncomputable def F_SG_closest (l0 : Nat) (h : LH) : Option (Int32 × LH) :=
 F_SG_closest_l7  jF l0 (-1 : Int32) (10 : Int32) (0 : Int32) h
set_option maxRecDepth 100000 in
theorem F_SG_closest_ok {d : Nat} (hd : 2 ≤ d) {l0 : Nat} {h : LH} {q : (Int32 × LH)} : F_SG_closest l0 h = some q → jl_Sem jt_T jt_Ms d 119 [.ref l0] h (jo_i q) := by
 unfold F_SG_closest
 exact jr_enter (D := 1) hd jM_119_at rfl rfl rfl (fun d hd =>
  jr_iconst 0 1 (-1 : Int32) rfl jc_i_m1 rfl
  (jr_istoren 1 2 [.ref l0, .int (-1 : Int32), .retAddr 0, .retAddr 0, .retAddr 0, .retAddr 0] rfl rfl rfl rfl
  (jr_bipush 2 4 (10 : Int32) rfl jc_b_10 rfl
  (jr_istoren 4 5 [.ref l0, .int (-1 : Int32), .int (10 : Int32), .retAddr 0, .retAddr 0, .retAddr 0] rfl rfl rfl rfl
  (jr_iconst 5 6 (0 : Int32) rfl jc_i_0 rfl
  (jr_istoren 6 7 [.ref l0, .int (-1 : Int32), .int (10 : Int32), .int (0 : Int32), .retAddr 0, .retAddr 0] rfl rfl rfl rfl
  ((F_SG_closest_l7_ok hd  jF _ _ _ _ _ _ _))))))))
noncomputable def jM_120 : JMeth := (10, false, 1, jk_120, [], 1)
set_option maxRecDepth 100000 in
theorem jM_120_at : jt_Ms 120 = some jM_120 := rfl
noncomputable def F_SG_seems (l0 : Nat) (h : LH) : Option (Int32 × LH) :=
 jf_gr h l0 10 2 fun v1 =>
 jf_gr h v1 6 1 fun v2 =>
 jf_gr h l0 10 2 fun v3 =>
 jf_kd h v3 6
 (jf_bi (F_Scene_smokingGates v3 h) fun v4 h5 =>
 jf_kd h5 v2 8
 (jf_bi (F_Town_nearestSignal v2 v4 h5) fun v6 h7 =>
 some (v6, h7)))
set_option maxRecDepth 100000 in
theorem F_SG_seems_ok {d : Nat} (hd : 3 ≤ d) {l0 : Nat} {h : LH} {q : (Int32 × LH)} : F_SG_seems l0 h = some q → jl_Sem jt_T jt_Ms d 120 [.ref l0] h (jo_i q) := by
 unfold F_SG_seems
 exact jr_enter (D := 2) hd jM_120_at rfl rfl rfl (fun d hd =>
  jr_aloadn 0 1 rfl rfl rfl
  (jr_gr 1 4 rfl jg_10_34_2 rfl (fun v1 =>
  jr_gr 4 7 rfl jg_10_120_2 rfl (fun v2 =>
  jr_aloadn 7 8 rfl rfl rfl
  (jr_gr 8 11 rfl jg_10_34_2 rfl (fun v3 =>
  jr_cVi 11 14 [.ref v2] rfl rfl rfl rfl rfl rfl rfl rfl (as := []) (F_Scene_smokingGates_ok (Nat.le_trans (by decide : 2 ≤ 2) hd)) (fun v4 h5 =>
  jr_cVi 14 17 [] rfl rfl rfl rfl rfl rfl rfl rfl (as := [.int v4]) (F_Town_nearestSignal_ok (Nat.le_trans (by decide : 2 ≤ 2) hd)) (fun v6 h7 =>
  jr_ri 17 rfl rfl))))))))
noncomputable def jM_121 : JMeth := (10, false, 1, jk_121, [], 4)
set_option maxRecDepth 100000 in
theorem jM_121_at : jt_Ms 121 = some jM_121 := rfl
noncomputable def F_SG_burnsOut_c20 (k4 : Nat → Int32 → Int32 → LH → Option (Int32 × LH)) (k20 : Nat → Int32 → Int32 → Int32 → LH → Option (Int32 × LH)) (l0 : Nat) (l1 : Int32) (l2 : Int32) (l3 : Int32) (h : LH) : Option (Int32 × LH) :=
 jf_gr h l0 10 2 fun v1 =>
 jf_kd h v1 6
 (jf_bi (F_Scene_burning v1 l2 h) fun v2 h3 =>
 if l3 < v2 then
 jf_gr h3 l0 10 2 fun v4 =>
 jf_kd h3 v4 6
 (jf_bi (F_Scene_leftOf v4 l2 l3 h3) fun v5 h6 =>
 jf_let (if l1 < v5 then v5 else l1) fun v7 =>
 k20 l0 v7 l2 (l3 + (1 : Int32)) h6)
else
 k4 l0 l1 (l2 + (1 : Int32)) h3)
set_option maxRecDepth 100000 in
theorem F_SG_burnsOut_c20_ok {d : Nat} {q : (Int32 × LH)} {k4 : Nat → Int32 → Int32 → LH → Option (Int32 × LH)} {k20 : Nat → Int32 → Int32 → Int32 → LH → Option (Int32 × LH)} (hd : 1 ≤ d) (hk4 : ∀ (l0 : Nat) (l1 : Int32) (l2 : Int32) (u3 : Value) (h : LH), k4 l0 l1 l2 h = some q → JR d jM_121 4 [.ref l0, .int l1, .int l2, u3] [] h (jo_i q)) (hk20 : ∀ (l0 : Nat) (l1 : Int32) (l2 : Int32) (l3 : Int32) (h : LH), k20 l0 l1 l2 l3 h = some q → JR d jM_121 20 [.ref l0, .int l1, .int l2, .int l3] [] h (jo_i q)) {l0 : Nat} {l1 : Int32} {l2 : Int32} {l3 : Int32} {h : LH} : F_SG_burnsOut_c20 k4 k20 l0 l1 l2 l3 h = some q → JR d jM_121 20 [.ref l0, .int l1, .int l2, .int l3] [] h (jo_i q) := by
 unfold F_SG_burnsOut_c20
 exact jr_iloadn 20 21 rfl rfl rfl
  (jr_aloadn 21 22 rfl rfl rfl
  (jr_gr 22 25 rfl jg_10_34_2 rfl (fun v1 =>
  jr_iloadn 25 26 rfl rfl rfl
  (jr_cVi 26 29 [.int l3] rfl rfl rfl rfl rfl rfl rfl rfl (as := [.int l2]) (F_Scene_burning_ok (Nat.le_trans (by decide : 1 ≤ 1) hd)) (fun v2 h3 =>
  jr_icmp_ge 29 52 32 rfl rfl rfl
  (jr_iinc 52 55 [.ref l0, .int l1, .int (l2 + (1 : Int32)), .int l3] rfl jc_i_1 rfl rfl rfl rfl
  (jr_goto 55 4 rfl rfl
  ((hk4 _ _ _ _ _))))
  (jr_iloadn 32 33 rfl rfl rfl
  (jr_aloadn 33 34 rfl rfl rfl
  (jr_gr 34 37 rfl jg_10_34_2 rfl (fun v4 =>
  jr_iloadn 37 38 rfl rfl rfl
  (jr_iloadn 38 39 rfl rfl rfl
  (jr_cVi 39 42 [.int l1] rfl rfl rfl rfl rfl rfl rfl rfl (as := [.int l2, .int l3]) (F_Scene_leftOf_ok (Nat.le_trans (by decide : 1 ≤ 1) hd)) (fun v5 h6 =>
  jr_max 42 45 rfl rfl rfl rfl
  (jr_istorenL 45 46 (fun v7 => [.ref l0, .int v7, .int l2, .int l3]) rfl rfl (fun _ => rfl) rfl (fun v7 =>
  jr_iinc 46 49 [.ref l0, .int v7, .int l2, .int (l3 + (1 : Int32))] rfl jc_i_1 rfl rfl rfl rfl
  (jr_goto 49 20 rfl rfl
  ((hk20 _ _ _ _ _)))))))))))))))))
noncomputable def F_SG_burnsOut_l20 (k4 : Nat → Int32 → Int32 → LH → Option (Int32 × LH)) : Nat → Nat → Int32 → Int32 → Int32 → LH → Option (Int32 × LH)
 | 0, _, _, _, _, _ => none
 | n + 1, l0, l1, l2, l3, h => F_SG_burnsOut_c20 k4 (F_SG_burnsOut_l20 k4 n) l0 l1 l2 l3 h
theorem F_SG_burnsOut_l20_ok {d : Nat} {q : (Int32 × LH)} {k4 : Nat → Int32 → Int32 → LH → Option (Int32 × LH)} (hd : 1 ≤ d) (hk4 : ∀ (l0 : Nat) (l1 : Int32) (l2 : Int32) (u3 : Value) (h : LH), k4 l0 l1 l2 h = some q → JR d jM_121 4 [.ref l0, .int l1, .int l2, u3] [] h (jo_i q)) : ∀ (n : Nat) (l0 : Nat) (l1 : Int32) (l2 : Int32) (l3 : Int32) (h : LH), F_SG_burnsOut_l20 k4 n l0 l1 l2 l3 h = some q → JR d jM_121 20 [.ref l0, .int l1, .int l2, .int l3] [] h (jo_i q)
 | 0 => fun _ _ _ _ _ hq => nomatch (show (none : Option (Int32 × LH)) = some q from hq)
 | n + 1 => fun _ _ _ _ _ hq => F_SG_burnsOut_c20_ok hd hk4 (F_SG_burnsOut_l20_ok hd hk4 n) hq
noncomputable def F_SG_burnsOut_c4 (k4 : Nat → Int32 → Int32 → LH → Option (Int32 × LH)) (l0 : Nat) (l1 : Int32) (l2 : Int32) (h : LH) : Option (Int32 × LH) :=
 jf_gr h l0 10 2 fun v1 =>
 jf_gr h v1 6 1 fun v2 =>
 jf_gi h v2 8 0 fun v3 =>
 if l2 < v3 then
 F_SG_burnsOut_l20 k4 jF l0 l1 l2 (0 : Int32) h
else
 some (l1, h)
set_option maxRecDepth 100000 in
theorem F_SG_burnsOut_c4_ok {d : Nat} {q : (Int32 × LH)} {k4 : Nat → Int32 → Int32 → LH → Option (Int32 × LH)} (hd : 1 ≤ d) (hk4 : ∀ (l0 : Nat) (l1 : Int32) (l2 : Int32) (u3 : Value) (h : LH), k4 l0 l1 l2 h = some q → JR d jM_121 4 [.ref l0, .int l1, .int l2, u3] [] h (jo_i q)) {l0 : Nat} {l1 : Int32} {l2 : Int32} {u3 : Value} {h : LH} : F_SG_burnsOut_c4 k4 l0 l1 l2 h = some q → JR d jM_121 4 [.ref l0, .int l1, .int l2, u3] [] h (jo_i q) := by
 unfold F_SG_burnsOut_c4
 exact jr_iloadn 4 5 rfl rfl rfl
  (jr_aloadn 5 6 rfl rfl rfl
  (jr_gr 6 9 rfl jg_10_34_2 rfl (fun v1 =>
  jr_gr 9 12 rfl jg_10_120_2 rfl (fun v2 =>
  jr_gi 12 15 rfl jg_10_144_1 rfl (fun v3 =>
  jr_icmp_ge 15 58 18 rfl rfl rfl
  (jr_iloadn 58 59 rfl rfl rfl
  (jr_ri 59 rfl rfl))
  (jr_iconst 18 19 (0 : Int32) rfl jc_i_0 rfl
  (jr_istoren 19 20 [.ref l0, .int l1, .int l2, .int (0 : Int32)] rfl rfl rfl rfl
  ((F_SG_burnsOut_l20_ok hd hk4 jF _ _ _ _ _)))))))))
noncomputable def F_SG_burnsOut_l4 : Nat → Nat → Int32 → Int32 → LH → Option (Int32 × LH)
 | 0, _, _, _, _ => none
 | n + 1, l0, l1, l2, h => F_SG_burnsOut_c4 (F_SG_burnsOut_l4 n) l0 l1 l2 h
theorem F_SG_burnsOut_l4_ok {d : Nat} {q : (Int32 × LH)} (hd : 1 ≤ d) : ∀ (n : Nat) (l0 : Nat) (l1 : Int32) (l2 : Int32) (u3 : Value) (h : LH), F_SG_burnsOut_l4 n l0 l1 l2 h = some q → JR d jM_121 4 [.ref l0, .int l1, .int l2, u3] [] h (jo_i q)
 | 0 => fun _ _ _ _ _ hq => nomatch (show (none : Option (Int32 × LH)) = some q from hq)
 | n + 1 => fun _ _ _ _ _ hq => F_SG_burnsOut_c4_ok hd (F_SG_burnsOut_l4_ok hd n) hq
noncomputable def F_SG_burnsOut (l0 : Nat) (h : LH) : Option (Int32 × LH) :=
 F_SG_burnsOut_l4  jF l0 (0 : Int32) (0 : Int32) h
set_option maxRecDepth 100000 in
theorem F_SG_burnsOut_ok {d : Nat} (hd : 2 ≤ d) {l0 : Nat} {h : LH} {q : (Int32 × LH)} : F_SG_burnsOut l0 h = some q → jl_Sem jt_T jt_Ms d 121 [.ref l0] h (jo_i q) := by
 unfold F_SG_burnsOut
 exact jr_enter (D := 1) hd jM_121_at rfl rfl rfl (fun d hd =>
  jr_iconst 0 1 (0 : Int32) rfl jc_i_0 rfl
  (jr_istoren 1 2 [.ref l0, .int (0 : Int32), .retAddr 0, .retAddr 0] rfl rfl rfl rfl
  (jr_iconst 2 3 (0 : Int32) rfl jc_i_0 rfl
  (jr_istoren 3 4 [.ref l0, .int (0 : Int32), .int (0 : Int32), .retAddr 0] rfl rfl rfl rfl
  ((F_SG_burnsOut_l4_ok hd  jF _ _ _ _ _))))))
noncomputable def jM_122 : JMeth := (10, false, 1, jk_122, [], 1)
set_option maxRecDepth 100000 in
theorem jM_122_at : jt_Ms 122 = some jM_122 := rfl
noncomputable def F_SG_image (l0 : Nat) (h : LH) : Option (Int32 × LH) :=
 jf_gi h l0 10 14 fun v1 =>
 if v1 < (3 : Int32) then
 jf_gr h l0 10 2 fun v2 =>
 jf_gr h l0 10 9 fun v3 =>
 jf_gi h l0 10 14 fun v4 =>
 jf_aa h v3 v4 fun v5 =>
 jf_kd h v2 6
 ((F_Scene_saveTo v2 v5 h).bind fun h6 =>
 jf_gr h6 l0 10 8 fun v7 =>
 jf_gi h6 l0 10 14 fun v8 =>
 jf_aa h6 v7 v8 fun v9 =>
 jf_gr h6 l0 10 7 fun v10 =>
 jf_kd h6 v9 2
 ((F_Hist_copyFrom v9 v10 h6).bind fun h11 =>
 jf_gi h11 l0 10 14 fun v12 =>
 jf_pi h11 l0 10 14 (v12 + (1 : Int32)) fun h13 =>
 jf_gi h13 l0 10 14 fun v14 =>
 some (v14, h13)))
else
 some ((-1 : Int32), h)
set_option maxRecDepth 100000 in
theorem F_SG_image_ok {d : Nat} (hd : 2 ≤ d) {l0 : Nat} {h : LH} {q : (Int32 × LH)} : F_SG_image l0 h = some q → jl_Sem jt_T jt_Ms d 122 [.ref l0] h (jo_i q) := by
 unfold F_SG_image
 exact jr_enter (D := 1) hd jM_122_at rfl rfl rfl (fun d hd =>
  jr_aloadn 0 1 rfl rfl rfl
  (jr_gi 1 4 rfl jg_10_138_1 rfl (fun v1 =>
  jr_iconst 4 5 (3 : Int32) rfl jc_i_3 rfl
  (jr_icmp_lt 5 10 8 rfl rfl rfl
  (jr_aloadn 10 11 rfl rfl rfl
  (jr_gr 11 14 rfl jg_10_34_2 rfl (fun v2 =>
  jr_aloadn 14 15 rfl rfl rfl
  (jr_gr 15 18 rfl jg_10_77_2 rfl (fun v3 =>
  jr_aloadn 18 19 rfl rfl rfl
  (jr_gi 19 22 rfl jg_10_138_1 rfl (fun v4 =>
  jr_aa 22 23 rfl rfl (fun v5 =>
  jr_cVv 23 26 [] rfl rfl rfl rfl rfl rfl rfl rfl (as := [.ref v5]) (F_Scene_saveTo_ok (Nat.le_trans (by decide : 1 ≤ 1) hd)) (fun h6 =>
  jr_aloadn 26 27 rfl rfl rfl
  (jr_gr 27 30 rfl jg_10_71_2 rfl (fun v7 =>
  jr_aloadn 30 31 rfl rfl rfl
  (jr_gi 31 34 rfl jg_10_138_1 rfl (fun v8 =>
  jr_aa 34 35 rfl rfl (fun v9 =>
  jr_aloadn 35 36 rfl rfl rfl
  (jr_gr 36 39 rfl jg_10_67_2 rfl (fun v10 =>
  jr_cVv 39 42 [] rfl rfl rfl rfl rfl rfl rfl rfl (as := [.ref v10]) (F_Hist_copyFrom_ok (Nat.le_trans (by decide : 1 ≤ 1) hd)) (fun h11 =>
  jr_aloadn 42 43 rfl rfl rfl
  (jr_dup 43 44 rfl rfl rfl
  (jr_gi 44 47 rfl jg_10_138_1 rfl (fun v12 =>
  jr_iconst 47 48 (1 : Int32) rfl jc_i_1 rfl
  (jr_iadd 48 49 rfl rfl
  (jr_pi 49 52 rfl jg_10_138_3 rfl (fun h13 =>
  jr_aloadn 52 53 rfl rfl rfl
  (jr_gi 53 56 rfl jg_10_138_1 rfl (fun v14 =>
  jr_ri 56 rfl rfl)))))))))))))))))))))))))
  (jr_iconst 8 9 (-1 : Int32) rfl jc_i_m1 rfl
  (jr_ri 9 rfl rfl))))))
noncomputable def jM_123 : JMeth := (10, false, 1, jk_123, [], 1)
set_option maxRecDepth 100000 in
theorem jM_123_at : jt_Ms 123 = some jM_123 := rfl
noncomputable def F_SG_restore (l0 : Nat) (h : LH) : Option (Int32 × LH) :=
 jf_gi h l0 10 14 fun v1 =>
 if 0 < v1 then
 jf_gi h l0 10 14 fun v2 =>
 jf_pi h l0 10 14 (v2 - (1 : Int32)) fun h3 =>
 jf_gr h3 l0 10 2 fun v4 =>
 jf_gr h3 l0 10 9 fun v5 =>
 jf_gi h3 l0 10 14 fun v6 =>
 jf_aa h3 v5 v6 fun v7 =>
 jf_kd h3 v4 6
 ((F_Scene_loadFrom v4 v7 h3).bind fun h8 =>
 jf_gr h8 l0 10 7 fun v9 =>
 jf_gr h8 l0 10 8 fun v10 =>
 jf_gi h8 l0 10 14 fun v11 =>
 jf_aa h8 v10 v11 fun v12 =>
 jf_kd h8 v9 2
 ((F_Hist_copyFrom v9 v12 h8).bind fun h13 =>
 jf_pi h13 l0 10 15 (0 : Int32) fun h14 =>
 jf_gi h14 l0 10 14 fun v15 =>
 some (v15, h14)))
else
 some ((-1 : Int32), h)
set_option maxRecDepth 100000 in
theorem F_SG_restore_ok {d : Nat} (hd : 2 ≤ d) {l0 : Nat} {h : LH} {q : (Int32 × LH)} : F_SG_restore l0 h = some q → jl_Sem jt_T jt_Ms d 123 [.ref l0] h (jo_i q) := by
 unfold F_SG_restore
 exact jr_enter (D := 1) hd jM_123_at rfl rfl rfl (fun d hd =>
  jr_aloadn 0 1 rfl rfl rfl
  (jr_gi 1 4 rfl jg_10_138_1 rfl (fun v1 =>
  jr_if_gt 4 9 7 rfl rfl rfl
  (jr_aloadn 9 10 rfl rfl rfl
  (jr_dup 10 11 rfl rfl rfl
  (jr_gi 11 14 rfl jg_10_138_1 rfl (fun v2 =>
  jr_iconst 14 15 (1 : Int32) rfl jc_i_1 rfl
  (jr_isub 15 16 rfl rfl
  (jr_pi 16 19 rfl jg_10_138_3 rfl (fun h3 =>
  jr_aloadn 19 20 rfl rfl rfl
  (jr_gr 20 23 rfl jg_10_34_2 rfl (fun v4 =>
  jr_aloadn 23 24 rfl rfl rfl
  (jr_gr 24 27 rfl jg_10_77_2 rfl (fun v5 =>
  jr_aloadn 27 28 rfl rfl rfl
  (jr_gi 28 31 rfl jg_10_138_1 rfl (fun v6 =>
  jr_aa 31 32 rfl rfl (fun v7 =>
  jr_cVv 32 35 [] rfl rfl rfl rfl rfl rfl rfl rfl (as := [.ref v7]) (F_Scene_loadFrom_ok (Nat.le_trans (by decide : 1 ≤ 1) hd)) (fun h8 =>
  jr_aloadn 35 36 rfl rfl rfl
  (jr_gr 36 39 rfl jg_10_67_2 rfl (fun v9 =>
  jr_aloadn 39 40 rfl rfl rfl
  (jr_gr 40 43 rfl jg_10_71_2 rfl (fun v10 =>
  jr_aloadn 43 44 rfl rfl rfl
  (jr_gi 44 47 rfl jg_10_138_1 rfl (fun v11 =>
  jr_aa 47 48 rfl rfl (fun v12 =>
  jr_cVv 48 51 [] rfl rfl rfl rfl rfl rfl rfl rfl (as := [.ref v12]) (F_Hist_copyFrom_ok (Nat.le_trans (by decide : 1 ≤ 1) hd)) (fun h13 =>
  jr_aloadn 51 52 rfl rfl rfl
  (jr_iconst 52 53 (0 : Int32) rfl jc_i_0 rfl
  (jr_pi 53 56 rfl jg_10_141_3 rfl (fun h14 =>
  jr_aloadn 56 57 rfl rfl rfl
  (jr_gi 57 60 rfl jg_10_138_1 rfl (fun v15 =>
  jr_ri 60 rfl rfl))))))))))))))))))))))))))))
  (jr_iconst 7 8 (-1 : Int32) rfl jc_i_m1 rfl
  (jr_ri 8 rfl rfl)))))
noncomputable def jM_124 : JMeth := (10, false, 1, jk_124, [], 2)
set_option maxRecDepth 100000 in
theorem jM_124_at : jt_Ms 124 = some jM_124 := rfl
noncomputable def F_SG_status_b24 (s0 : Int32) (h : LH) : Option (Int32 × LH) :=
 some (s0, h)
set_option maxRecDepth 100000 in
theorem F_SG_status_b24_ok {d : Nat} {q : (Int32 × LH)} (hd : 0 ≤ d) {s0 : Int32} {u0 : Value} {u1 : Value} {h : LH} : F_SG_status_b24 s0 h = some q → JR d jM_124 24 [u0, u1] [.int s0] h (jo_i q) := by
 unfold F_SG_status_b24
 exact jr_ri 24 rfl rfl
noncomputable def F_SG_status (l0 : Nat) (l1 : Int32) (h : LH) : Option (Int32 × LH) :=
 if l1 = 0 then
 jf_gi h l0 10 16 fun v2 =>
 F_SG_status_b24  v2 h
else
 if l1 = (1 : Int32) then
 jf_gi h l0 10 17 fun v1 =>
 F_SG_status_b24  v1 h
else
 F_SG_status_b24  (-1 : Int32) h
set_option maxRecDepth 100000 in
theorem F_SG_status_ok {d : Nat} (hd : 1 ≤ d) {l0 : Nat} {l1 : Int32} {h : LH} {q : (Int32 × LH)} : F_SG_status l0 l1 h = some q → jl_Sem jt_T jt_Ms d 124 [.ref l0, .int l1] h (jo_i q) := by
 unfold F_SG_status
 exact jr_enter (D := 0) hd jM_124_at rfl rfl rfl (fun d hd =>
  jr_iloadn 0 1 rfl rfl rfl
  (jr_if_ne 1 11 4 rfl rfl rfl
  (jr_iloadn 11 12 rfl rfl rfl
  (jr_iconst 12 13 (1 : Int32) rfl jc_i_1 rfl
  (jr_icmp_ne 13 23 16 rfl rfl rfl
  (jr_iconst 23 24 (-1 : Int32) rfl jc_i_m1 rfl
  ((F_SG_status_b24_ok hd )))
  (jr_aloadn 16 17 rfl rfl rfl
  (jr_gi 17 20 rfl jg_10_381_1 rfl (fun v1 =>
  jr_goto 20 24 rfl rfl
  ((F_SG_status_b24_ok hd ))))))))
  (jr_aloadn 4 5 rfl rfl rfl
  (jr_gi 5 8 rfl jg_10_378_1 rfl (fun v2 =>
  jr_goto 8 24 rfl rfl
  ((F_SG_status_b24_ok hd )))))))
noncomputable def jM_125 : JMeth := (10, false, 1, jk_125, [], 2)
set_option maxRecDepth 100000 in
theorem jM_125_at : jt_Ms 125 = some jM_125 := rfl
noncomputable def F_SG_count (l0 : Nat) (l1 : Int32) (h : LH) : Option (Int32 × LH) :=
 if l1 = (0 : Int32) then
 jf_gi h l0 10 14 fun v5 =>
 some (v5, h)
else
 if l1 = (1 : Int32) then
 jf_gr h l0 10 0 fun v3 =>
 jf_gi h v3 7 1 fun v4 =>
 some (v4, h)
else
 if l1 = (2 : Int32) then
 jf_gr h l0 10 7 fun v1 =>
 jf_gi h v1 2 1 fun v2 =>
 some (v2, h)
else
 some ((-1 : Int32), h)
set_option maxRecDepth 100000 in
theorem F_SG_count_ok {d : Nat} (hd : 1 ≤ d) {l0 : Nat} {l1 : Int32} {h : LH} {q : (Int32 × LH)} : F_SG_count l0 l1 h = some q → jl_Sem jt_T jt_Ms d 125 [.ref l0, .int l1] h (jo_i q) := by
 unfold F_SG_count
 exact jr_enter (D := 0) hd jM_125_at rfl rfl rfl (fun d hd =>
  jr_iloadn 0 1 rfl rfl rfl
  (jr_ite (fun hx1_0 => jr_tsI 1 28 hx1_0 rfl rfl rfl rfl
  (jr_aloadn 28 29 rfl rfl rfl
  (jr_gi 29 32 rfl jg_10_138_1 rfl (fun v5 =>
  jr_ri 32 rfl rfl))))
  (fun hx1_0 =>
  jr_ite (fun hx1_1 => jr_tsI 1 33 hx1_1 rfl rfl rfl rfl
  (jr_aloadn 33 34 rfl rfl rfl
  (jr_gr 34 37 rfl jg_10_10_2 rfl (fun v3 =>
  jr_gi 37 40 rfl jg_10_98_1 rfl (fun v4 =>
  jr_ri 40 rfl rfl)))))
  (fun hx1_1 =>
  jr_ite (fun hx1_2 => jr_tsI 1 41 hx1_2 rfl rfl rfl rfl
  (jr_aloadn 41 42 rfl rfl rfl
  (jr_gr 42 45 rfl jg_10_67_2 rfl (fun v1 =>
  jr_gi 45 48 rfl jg_10_135_1 rfl (fun v2 =>
  jr_ri 48 rfl rfl)))))
  (fun hx1_2 =>
  jr_tsD 1 49 rfl (by have := jr_ne (k := 0) jc_t_0 hx1_0; have := jr_ne (k := 1) jc_t_1 hx1_1; have := jr_ne (k := 2) jc_t_2 hx1_2; omega) rfl
  (jr_iconst 49 50 (-1 : Int32) rfl jc_i_m1 rfl
  (jr_ri 50 rfl rfl)))))))
noncomputable def jM_128 : JMeth := (10, false, 0, jk_128, [], 2)
set_option maxRecDepth 100000 in
theorem jM_128_at : jt_Ms 128 = some jM_128 := rfl
noncomputable def F_SG_needArgument (l0 : Nat) (l1 : Int32) (h : LH) : Option JOut :=
 if l1 = 0 then
 jf_gi h l0 10 17 fun v1 =>
 jf_pi h l0 10 17 (v1 + (1 : Int32)) fun h2 =>
 some (.inr 1, jl_junk h2 6)
else
 some (jo_v h)
set_option maxRecDepth 100000 in
theorem F_SG_needArgument_ok {d : Nat} (hd : 1 ≤ d) {l0 : Nat} {l1 : Int32} {h : LH} {q : JOut} : F_SG_needArgument l0 l1 h = some q → jl_Sem jt_T jt_Ms d 128 [.ref l0, .int l1] h q := by
 unfold F_SG_needArgument
 exact jr_enter (D := 0) hd jM_128_at rfl rfl rfl (fun d hd =>
  jr_iloadn 0 1 rfl rfl rfl
  (jr_if_ne 1 25 4 rfl rfl rfl
  (jr_rvT 25 rfl rfl)
  (jr_aloadn 4 5 rfl rfl rfl
  (jr_dup 5 6 rfl rfl rfl
  (jr_gi 6 9 rfl jg_10_381_1 rfl (fun v1 =>
  jr_iconst 9 10 (1 : Int32) rfl jc_i_1 rfl
  (jr_iadd 10 11 rfl rfl
  (jr_pi 11 14 rfl jg_10_381_3 rfl (fun h2 =>
  (jr_throw 14 rfl rfl rfl rfl rfl))))))))))
noncomputable def jM_127 : JMeth := (10, false, 0, jk_127, [], 3)
set_option maxRecDepth 100000 in
theorem jM_127_at : jt_Ms 127 = some jM_127 := rfl
noncomputable def F_SG_openText_b26 (l0 : Nat) (l1 : Int32) (s0 : Nat) (s1 : Int32) (h : LH) : Option JOut :=
 jf_kd h s0 10
 (jf_th (F_SG_needArgument s0 s1 h) fun h1 =>
 jf_gr h1 l0 10 0 fun v2 =>
 jf_kd h1 v2 7
 ((F_Text_open v2 l1 h1).bind fun h3 =>
 some (jo_v h3)))
set_option maxRecDepth 100000 in
theorem F_SG_openText_b26_ok {d : Nat} {q : JOut} (hd : 1 ≤ d) {l0 : Nat} {l1 : Int32} {s0 : Nat} {s1 : Int32} {u2 : Value} {h : LH} : F_SG_openText_b26 l0 l1 s0 s1 h = some q → JR d jM_127 26 [.ref l0, .int l1, u2] [.int s1, .ref s0] h q := by
 unfold F_SG_openText_b26
 exact jr_cVt 26 29 [] rfl rfl rfl rfl rfl rfl rfl rfl rfl (as := [.int s1]) (F_SG_needArgument_ok (Nat.le_trans (by decide : 1 ≤ 1) hd)) (fun h1 =>
  jr_aloadn 29 30 rfl rfl rfl
  (jr_gr 30 33 rfl jg_10_10_2 rfl (fun v2 =>
  jr_iloadn 33 34 rfl rfl rfl
  (jr_cVv 34 37 [] rfl rfl rfl rfl rfl rfl rfl rfl (as := [.int l1]) (F_Text_open_ok (Nat.le_trans (by decide : 1 ≤ 1) hd)) (fun h3 =>
  jr_rvT 37 rfl rfl)))))
noncomputable def F_SG_openText_b25 (l0 : Nat) (l1 : Int32) (s0 : Nat) (h : LH) : Option JOut :=
 F_SG_openText_b26  l0 l1 s0 (0 : Int32) h
set_option maxRecDepth 100000 in
theorem F_SG_openText_b25_ok {d : Nat} {q : JOut} (hd : 1 ≤ d) {l0 : Nat} {l1 : Int32} {s0 : Nat} {u2 : Value} {h : LH} : F_SG_openText_b25 l0 l1 s0 h = some q → JR d jM_127 25 [.ref l0, .int l1, u2] [.ref s0] h q := by
 unfold F_SG_openText_b25
 exact jr_iconst 25 26 (0 : Int32) rfl jc_i_0 rfl
  ((F_SG_openText_b26_ok hd ))
noncomputable def F_SG_openText (l0 : Nat) (l1 : Int32) (l2 : Int32) (h : LH) : Option JOut :=
 if l1 < 0 then
 F_SG_openText_b25  l0 l1 l0 h
else
 if l2 < l1 then
 F_SG_openText_b25  l0 l1 l0 h
else
 jf_gr h l0 10 0 fun v1 =>
 jf_gi h v1 7 1 fun v2 =>
 if v2 < l1 then
 F_SG_openText_b25  l0 l1 l0 h
else
 F_SG_openText_b26  l0 l1 l0 (1 : Int32) h
set_option maxRecDepth 100000 in
theorem F_SG_openText_ok {d : Nat} (hd : 2 ≤ d) {l0 : Nat} {l1 : Int32} {l2 : Int32} {h : LH} {q : JOut} : F_SG_openText l0 l1 l2 h = some q → jl_Sem jt_T jt_Ms d 127 [.ref l0, .int l1, .int l2] h q := by
 unfold F_SG_openText
 exact jr_enter (D := 1) hd jM_127_at rfl rfl rfl (fun d hd =>
  jr_aloadn 0 1 rfl rfl rfl
  (jr_iloadn 1 2 rfl rfl rfl
  (jr_if_lt 2 25 5 rfl rfl rfl
  ((F_SG_openText_b25_ok hd ))
  (jr_iloadn 5 6 rfl rfl rfl
  (jr_iloadn 6 7 rfl rfl rfl
  (jr_icmp_gt 7 25 10 rfl rfl rfl
  ((F_SG_openText_b25_ok hd ))
  (jr_iloadn 10 11 rfl rfl rfl
  (jr_aloadn 11 12 rfl rfl rfl
  (jr_gr 12 15 rfl jg_10_10_2 rfl (fun v1 =>
  jr_gi 15 18 rfl jg_10_98_1 rfl (fun v2 =>
  jr_icmp_gt 18 25 21 rfl rfl rfl
  ((F_SG_openText_b25_ok hd ))
  (jr_iconst 21 22 (1 : Int32) rfl jc_i_1 rfl
  (jr_goto 22 26 rfl rfl
  ((F_SG_openText_b26_ok hd )))))))))))))))
noncomputable def jM_126 : JMeth := (10, false, 1, jk_126, [], 3)
set_option maxRecDepth 100000 in
theorem jM_126_at : jt_Ms 126 = some jM_126 := rfl
noncomputable def F_SG_town (l0 : Nat) (l1 : Int32) (h : LH) : Option JOut :=
 jf_kd h l0 10
 (jf_th (F_SG_openText l0 l1 (600 : Int32) h) fun h1 =>
 jf_gr h1 l0 10 10 fun v2 =>
 jf_gr h1 l0 10 0 fun v3 =>
 jf_kd h1 v2 8
 ((F_Town_readFrom v2 v3 h1).bind fun h4 =>
 jf_gr h4 l0 10 0 fun v5 =>
 jf_kd h4 v5 7
 ((F_Text_close v5 h4).bind fun h6 =>
 jf_gr h6 l0 10 0 fun v7 =>
 jf_gi h6 v7 7 2 fun v8 =>
 if v8 = 0 then
 jf_gr h6 l0 10 2 fun v9 =>
 jf_gr h6 v9 6 1 fun v10 =>
 jf_gr h6 l0 10 2 fun v11 =>
 jf_gr h6 l0 10 10 fun v12 =>
 jf_pr h6 v11 6 1 v12 fun h13 =>
 jf_gr h13 l0 10 3 fun v14 =>
 jf_gr h13 l0 10 10 fun v15 =>
 jf_pr h13 v14 6 1 v15 fun h16 =>
 jf_pr h16 l0 10 10 v10 fun h17 =>
 jf_gr h17 l0 10 2 fun v18 =>
 jf_gr h17 v18 6 2 fun v19 =>
 jf_kd h17 v19 4
 ((F_Law_setPlain v19 h17).bind fun h20 =>
 jf_gr h20 l0 10 12 fun v21 =>
 jf_kd h20 v21 0
 ((F_Book_clear v21 h20).bind fun h22 =>
 jf_gr h22 l0 10 2 fun v23 =>
 jf_kd h22 v23 6
 ((F_Scene_begin v23 h22).bind fun h24 =>
 jf_gr h24 l0 10 7 fun v25 =>
 jf_pi h24 v25 2 1 (0 : Int32) fun h26 =>
 jf_pi h26 l0 10 14 (0 : Int32) fun h27 =>
 jf_pi h27 l0 10 15 (0 : Int32) fun h28 =>
 jf_gr h28 l0 10 2 fun v29 =>
 jf_gr h28 v29 6 1 fun v30 =>
 jf_gi h28 v30 8 0 fun v31 =>
 some (jo_i (v31, h28)))))
else
 jf_gr h6 l0 10 0 fun v32 =>
 jf_gi h6 v32 7 2 fun v33 =>
 some (jo_i ((v33 - (10 : Int32)), h6)))))
set_option maxRecDepth 100000 in
theorem F_SG_town_ok {d : Nat} (hd : 8 ≤ d) {l0 : Nat} {l1 : Int32} {h : LH} {q : JOut} : F_SG_town l0 l1 h = some q → jl_Sem jt_T jt_Ms d 126 [.ref l0, .int l1] h q := by
 unfold F_SG_town
 exact jr_enter (D := 7) hd jM_126_at rfl rfl rfl (fun d hd =>
  jr_aloadn 0 1 rfl rfl rfl
  (jr_iloadn 1 2 rfl rfl rfl
  (jr_sipush 2 5 (600 : Int32) rfl jc_s_600 rfl
  (jr_cVt 5 8 [] rfl rfl rfl rfl rfl rfl rfl rfl rfl (as := [.int l1, .int (600 : Int32)]) (F_SG_openText_ok (Nat.le_trans (by decide : 2 ≤ 7) hd)) (fun h1 =>
  jr_aloadn 8 9 rfl rfl rfl
  (jr_gr 9 12 rfl jg_10_80_2 rfl (fun v2 =>
  jr_aloadn 12 13 rfl rfl rfl
  (jr_gr 13 16 rfl jg_10_10_2 rfl (fun v3 =>
  jr_cVv 16 19 [] rfl rfl rfl rfl rfl rfl rfl rfl (as := [.ref v3]) (F_Town_readFrom_ok (Nat.le_trans (by decide : 7 ≤ 7) hd)) (fun h4 =>
  jr_aloadn 19 20 rfl rfl rfl
  (jr_gr 20 23 rfl jg_10_10_2 rfl (fun v5 =>
  jr_cVv 23 26 [] rfl rfl rfl rfl rfl rfl rfl rfl (as := []) (F_Text_close_ok (Nat.le_trans (by decide : 1 ≤ 7) hd)) (fun h6 =>
  jr_aloadn 26 27 rfl rfl rfl
  (jr_gr 27 30 rfl jg_10_10_2 rfl (fun v7 =>
  jr_gi 30 33 rfl jg_10_117_1 rfl (fun v8 =>
  jr_if_eq 33 47 36 rfl rfl rfl
  (jr_aloadn 47 48 rfl rfl rfl
  (jr_gr 48 51 rfl jg_10_34_2 rfl (fun v9 =>
  jr_gr 51 54 rfl jg_10_120_2 rfl (fun v10 =>
  jr_astoren 54 55 [.ref l0, .int l1, .ref v10] rfl rfl rfl rfl
  (jr_aloadn 55 56 rfl rfl rfl
  (jr_gr 56 59 rfl jg_10_34_2 rfl (fun v11 =>
  jr_aloadn 59 60 rfl rfl rfl
  (jr_gr 60 63 rfl jg_10_80_2 rfl (fun v12 =>
  jr_pr 63 66 rfl jg_10_120_5 rfl (fun h13 =>
  jr_aloadn 66 67 rfl rfl rfl
  (jr_gr 67 70 rfl jg_10_38_2 rfl (fun v14 =>
  jr_aloadn 70 71 rfl rfl rfl
  (jr_gr 71 74 rfl jg_10_80_2 rfl (fun v15 =>
  jr_pr 74 77 rfl jg_10_120_5 rfl (fun h16 =>
  jr_aloadn 77 78 rfl rfl rfl
  (jr_aloadn 78 79 rfl rfl rfl
  (jr_pr 79 82 rfl jg_10_80_5 rfl (fun h17 =>
  jr_aloadn 82 83 rfl rfl rfl
  (jr_gr 83 86 rfl jg_10_34_2 rfl (fun v18 =>
  jr_gr 86 89 rfl jg_10_123_2 rfl (fun v19 =>
  jr_cVv 89 92 [] rfl rfl rfl rfl rfl rfl rfl rfl (as := []) (F_Law_setPlain_ok (Nat.le_trans (by decide : 2 ≤ 7) hd)) (fun h20 =>
  jr_aloadn 92 93 rfl rfl rfl
  (jr_gr 93 96 rfl jg_10_91_2 rfl (fun v21 =>
  jr_cVv 96 99 [] rfl rfl rfl rfl rfl rfl rfl rfl (as := []) (F_Book_clear_ok (Nat.le_trans (by decide : 1 ≤ 7) hd)) (fun h22 =>
  jr_aloadn 99 100 rfl rfl rfl
  (jr_gr 100 103 rfl jg_10_34_2 rfl (fun v23 =>
  jr_cVv 103 106 [] rfl rfl rfl rfl rfl rfl rfl rfl (as := []) (F_Scene_begin_ok (Nat.le_trans (by decide : 1 ≤ 7) hd)) (fun h24 =>
  jr_aloadn 106 107 rfl rfl rfl
  (jr_gr 107 110 rfl jg_10_67_2 rfl (fun v25 =>
  jr_iconst 110 111 (0 : Int32) rfl jc_i_0 rfl
  (jr_pi 111 114 rfl jg_10_135_3 rfl (fun h26 =>
  jr_aloadn 114 115 rfl rfl rfl
  (jr_iconst 115 116 (0 : Int32) rfl jc_i_0 rfl
  (jr_pi 116 119 rfl jg_10_138_3 rfl (fun h27 =>
  jr_aloadn 119 120 rfl rfl rfl
  (jr_iconst 120 121 (0 : Int32) rfl jc_i_0 rfl
  (jr_pi 121 124 rfl jg_10_141_3 rfl (fun h28 =>
  jr_aloadn 124 125 rfl rfl rfl
  (jr_gr 125 128 rfl jg_10_34_2 rfl (fun v29 =>
  jr_gr 128 131 rfl jg_10_120_2 rfl (fun v30 =>
  jr_gi 131 134 rfl jg_10_144_1 rfl (fun v31 =>
  jr_riT 134 rfl rfl))))))))))))))))))))))))))))))))))))))))))
  (jr_aloadn 36 37 rfl rfl rfl
  (jr_gr 37 40 rfl jg_10_10_2 rfl (fun v32 =>
  jr_gi 40 43 rfl jg_10_117_1 rfl (fun v33 =>
  jr_bipush 43 45 (10 : Int32) rfl jc_b_10 rfl
  (jr_isub 45 46 rfl rfl
  (jr_riT 46 rfl rfl))))))))))))))))))))))
noncomputable def jM_129 : JMeth := (10, false, 1, jk_129, [], 3)
set_option maxRecDepth 100000 in
theorem jM_129_at : jt_Ms 129 = some jM_129 := rfl
noncomputable def F_SG_law (l0 : Nat) (l1 : Int32) (h : LH) : Option JOut :=
 jf_kd h l0 10
 (jf_th (F_SG_openText l0 l1 (150 : Int32) h) fun h1 =>
 jf_gr h1 l0 10 11 fun v2 =>
 jf_gr h1 l0 10 0 fun v3 =>
 jf_kd h1 v2 4
 ((F_Law_readFrom v2 v3 h1).bind fun h4 =>
 jf_gr h4 l0 10 0 fun v5 =>
 jf_kd h4 v5 7
 ((F_Text_close v5 h4).bind fun h6 =>
 jf_gr h6 l0 10 0 fun v7 =>
 jf_gi h6 v7 7 2 fun v8 =>
 if v8 = 0 then
 jf_gr h6 l0 10 2 fun v9 =>
 jf_gr h6 v9 6 2 fun v10 =>
 jf_gr h6 l0 10 2 fun v11 =>
 jf_gr h6 l0 10 11 fun v12 =>
 jf_pr h6 v11 6 2 v12 fun h13 =>
 jf_gr h13 l0 10 3 fun v14 =>
 jf_gr h13 l0 10 11 fun v15 =>
 jf_pr h13 v14 6 2 v15 fun h16 =>
 jf_pr h16 l0 10 11 v10 fun h17 =>
 some (jo_i ((1 : Int32), h17))
else
 jf_gr h6 l0 10 0 fun v18 =>
 jf_gi h6 v18 7 2 fun v19 =>
 some (jo_i ((v19 - (10 : Int32)), h6)))))
set_option maxRecDepth 100000 in
theorem F_SG_law_ok {d : Nat} (hd : 182 ≤ d) {l0 : Nat} {l1 : Int32} {h : LH} {q : JOut} : F_SG_law l0 l1 h = some q → jl_Sem jt_T jt_Ms d 129 [.ref l0, .int l1] h q := by
 unfold F_SG_law
 exact jr_enter (D := 181) hd jM_129_at rfl rfl rfl (fun d hd =>
  jr_aloadn 0 1 rfl rfl rfl
  (jr_iloadn 1 2 rfl rfl rfl
  (jr_sipush 2 5 (150 : Int32) rfl jc_s_150 rfl
  (jr_cVt 5 8 [] rfl rfl rfl rfl rfl rfl rfl rfl rfl (as := [.int l1, .int (150 : Int32)]) (F_SG_openText_ok (Nat.le_trans (by decide : 2 ≤ 181) hd)) (fun h1 =>
  jr_aloadn 8 9 rfl rfl rfl
  (jr_gr 9 12 rfl jg_10_84_2 rfl (fun v2 =>
  jr_aloadn 12 13 rfl rfl rfl
  (jr_gr 13 16 rfl jg_10_10_2 rfl (fun v3 =>
  jr_cVv 16 19 [] rfl rfl rfl rfl rfl rfl rfl rfl (as := [.ref v3]) (F_Law_readFrom_ok (Nat.le_trans (by decide : 181 ≤ 181) hd)) (fun h4 =>
  jr_aloadn 19 20 rfl rfl rfl
  (jr_gr 20 23 rfl jg_10_10_2 rfl (fun v5 =>
  jr_cVv 23 26 [] rfl rfl rfl rfl rfl rfl rfl rfl (as := []) (F_Text_close_ok (Nat.le_trans (by decide : 1 ≤ 181) hd)) (fun h6 =>
  jr_aloadn 26 27 rfl rfl rfl
  (jr_gr 27 30 rfl jg_10_10_2 rfl (fun v7 =>
  jr_gi 30 33 rfl jg_10_117_1 rfl (fun v8 =>
  jr_if_eq 33 47 36 rfl rfl rfl
  (jr_aloadn 47 48 rfl rfl rfl
  (jr_gr 48 51 rfl jg_10_34_2 rfl (fun v9 =>
  jr_gr 51 54 rfl jg_10_123_2 rfl (fun v10 =>
  jr_astoren 54 55 [.ref l0, .int l1, .ref v10] rfl rfl rfl rfl
  (jr_aloadn 55 56 rfl rfl rfl
  (jr_gr 56 59 rfl jg_10_34_2 rfl (fun v11 =>
  jr_aloadn 59 60 rfl rfl rfl
  (jr_gr 60 63 rfl jg_10_84_2 rfl (fun v12 =>
  jr_pr 63 66 rfl jg_10_123_5 rfl (fun h13 =>
  jr_aloadn 66 67 rfl rfl rfl
  (jr_gr 67 70 rfl jg_10_38_2 rfl (fun v14 =>
  jr_aloadn 70 71 rfl rfl rfl
  (jr_gr 71 74 rfl jg_10_84_2 rfl (fun v15 =>
  jr_pr 74 77 rfl jg_10_123_5 rfl (fun h16 =>
  jr_aloadn 77 78 rfl rfl rfl
  (jr_aloadn 78 79 rfl rfl rfl
  (jr_pr 79 82 rfl jg_10_84_5 rfl (fun h17 =>
  jr_iconst 82 83 (1 : Int32) rfl jc_i_1 rfl
  (jr_riT 83 rfl rfl)))))))))))))))))))
  (jr_aloadn 36 37 rfl rfl rfl
  (jr_gr 37 40 rfl jg_10_10_2 rfl (fun v18 =>
  jr_gi 40 43 rfl jg_10_117_1 rfl (fun v19 =>
  jr_bipush 43 45 (10 : Int32) rfl jc_b_10 rfl
  (jr_isub 45 46 rfl rfl
  (jr_riT 46 rfl rfl))))))))))))))))))))))
noncomputable def jM_130 : JMeth := (10, false, 1, jk_130, [], 2)
set_option maxRecDepth 100000 in
theorem jM_130_at : jt_Ms 130 = some jM_130 := rfl
noncomputable def F_SG_work (l0 : Nat) (l1 : Int32) (h : LH) : Option JOut :=
 jf_kd h l0 10
 (jf_th (F_SG_openText l0 l1 (150 : Int32) h) fun h1 =>
 jf_gr h1 l0 10 7 fun v2 =>
 jf_gi h1 v2 2 1 fun v3 =>
 if v3 < (16 : Int32) then
 jf_gr h1 l0 10 1 fun v4 =>
 jf_gr h1 l0 10 0 fun v5 =>
 jf_gr h1 l0 10 2 fun v6 =>
 jf_gr h1 v6 6 1 fun v7 =>
 jf_kd h1 v4 5
 ((F_Prog_readFrom v4 v5 v7 h1).bind fun h8 =>
 jf_gr h8 l0 10 0 fun v9 =>
 jf_kd h8 v9 7
 ((F_Text_close v9 h8).bind fun h10 =>
 jf_gr h10 l0 10 0 fun v11 =>
 jf_gi h10 v11 7 2 fun v12 =>
 if v12 = 0 then
 jf_gr h10 l0 10 7 fun v13 =>
 jf_gr h10 l0 10 2 fun v14 =>
 jf_kd h10 v13 2
 ((F_Hist_push v13 v14 h10).bind fun h15 =>
 jf_gr h15 l0 10 1 fun v16 =>
 jf_gr h15 l0 10 2 fun v17 =>
 jf_kd h15 v16 5
 ((F_Prog_run v16 v17 h15).bind fun h18 =>
 jf_gr h18 l0 10 1 fun v19 =>
 jf_gi h18 v19 5 4 fun v20 =>
 jf_pi h18 l0 10 15 v20 fun h21 =>
 jf_gr h21 l0 10 1 fun v22 =>
 jf_gi h21 v22 5 3 fun v23 =>
 some (jo_i (v23, h21))))
else
 jf_gr h10 l0 10 0 fun v24 =>
 jf_gi h10 v24 7 2 fun v25 =>
 some (jo_i ((v25 - (10 : Int32)), h10))))
else
 jf_gr h1 l0 10 0 fun v26 =>
 jf_kd h1 v26 7
 ((F_Text_close v26 h1).bind fun h27 =>
 some (jo_i ((-20 : Int32), h27))))
set_option maxRecDepth 100000 in
theorem F_SG_work_ok {d : Nat} (hd : 142 ≤ d) {l0 : Nat} {l1 : Int32} {h : LH} {q : JOut} : F_SG_work l0 l1 h = some q → jl_Sem jt_T jt_Ms d 130 [.ref l0, .int l1] h q := by
 unfold F_SG_work
 exact jr_enter (D := 141) hd jM_130_at rfl rfl rfl (fun d hd =>
  jr_aloadn 0 1 rfl rfl rfl
  (jr_iloadn 1 2 rfl rfl rfl
  (jr_sipush 2 5 (150 : Int32) rfl jc_s_150 rfl
  (jr_cVt 5 8 [] rfl rfl rfl rfl rfl rfl rfl rfl rfl (as := [.int l1, .int (150 : Int32)]) (F_SG_openText_ok (Nat.le_trans (by decide : 2 ≤ 141) hd)) (fun h1 =>
  jr_aloadn 8 9 rfl rfl rfl
  (jr_gr 9 12 rfl jg_10_67_2 rfl (fun v2 =>
  jr_gi 12 15 rfl jg_10_135_1 rfl (fun v3 =>
  jr_bipush 15 17 (16 : Int32) rfl jc_b_16 rfl
  (jr_icmp_lt 17 30 20 rfl rfl rfl
  (jr_aloadn 30 31 rfl rfl rfl
  (jr_gr 31 34 rfl jg_10_19_2 rfl (fun v4 =>
  jr_aloadn 34 35 rfl rfl rfl
  (jr_gr 35 38 rfl jg_10_10_2 rfl (fun v5 =>
  jr_aloadn 38 39 rfl rfl rfl
  (jr_gr 39 42 rfl jg_10_34_2 rfl (fun v6 =>
  jr_gr 42 45 rfl jg_10_120_2 rfl (fun v7 =>
  jr_cVv 45 48 [] rfl rfl rfl rfl rfl rfl rfl rfl (as := [.ref v5, .ref v7]) (F_Prog_readFrom_ok (Nat.le_trans (by decide : 141 ≤ 141) hd)) (fun h8 =>
  jr_aloadn 48 49 rfl rfl rfl
  (jr_gr 49 52 rfl jg_10_10_2 rfl (fun v9 =>
  jr_cVv 52 55 [] rfl rfl rfl rfl rfl rfl rfl rfl (as := []) (F_Text_close_ok (Nat.le_trans (by decide : 1 ≤ 141) hd)) (fun h10 =>
  jr_aloadn 55 56 rfl rfl rfl
  (jr_gr 56 59 rfl jg_10_10_2 rfl (fun v11 =>
  jr_gi 59 62 rfl jg_10_117_1 rfl (fun v12 =>
  jr_if_eq 62 76 65 rfl rfl rfl
  (jr_aloadn 76 77 rfl rfl rfl
  (jr_gr 77 80 rfl jg_10_67_2 rfl (fun v13 =>
  jr_aloadn 80 81 rfl rfl rfl
  (jr_gr 81 84 rfl jg_10_34_2 rfl (fun v14 =>
  jr_cVv 84 87 [] rfl rfl rfl rfl rfl rfl rfl rfl (as := [.ref v14]) (F_Hist_push_ok (Nat.le_trans (by decide : 2 ≤ 141) hd)) (fun h15 =>
  jr_aloadn 87 88 rfl rfl rfl
  (jr_gr 88 91 rfl jg_10_19_2 rfl (fun v16 =>
  jr_aloadn 91 92 rfl rfl rfl
  (jr_gr 92 95 rfl jg_10_34_2 rfl (fun v17 =>
  jr_cVv 95 98 [] rfl rfl rfl rfl rfl rfl rfl rfl (as := [.ref v17]) (F_Prog_run_ok (Nat.le_trans (by decide : 121 ≤ 141) hd)) (fun h18 =>
  jr_aloadn 98 99 rfl rfl rfl
  (jr_aloadn 99 100 rfl rfl rfl
  (jr_gr 100 103 rfl jg_10_19_2 rfl (fun v19 =>
  jr_gi 103 106 rfl jg_10_157_1 rfl (fun v20 =>
  jr_pi 106 109 rfl jg_10_141_3 rfl (fun h21 =>
  jr_aloadn 109 110 rfl rfl rfl
  (jr_gr 110 113 rfl jg_10_19_2 rfl (fun v22 =>
  jr_gi 113 116 rfl jg_10_160_1 rfl (fun v23 =>
  jr_riT 116 rfl rfl)))))))))))))))))))
  (jr_aloadn 65 66 rfl rfl rfl
  (jr_gr 66 69 rfl jg_10_10_2 rfl (fun v24 =>
  jr_gi 69 72 rfl jg_10_117_1 rfl (fun v25 =>
  jr_bipush 72 74 (10 : Int32) rfl jc_b_10 rfl
  (jr_isub 74 75 rfl rfl
  (jr_riT 75 rfl rfl)))))))))))))))))))))
  (jr_aloadn 20 21 rfl rfl rfl
  (jr_gr 21 24 rfl jg_10_10_2 rfl (fun v26 =>
  jr_cVv 24 27 [] rfl rfl rfl rfl rfl rfl rfl rfl (as := []) (F_Text_close_ok (Nat.le_trans (by decide : 1 ≤ 141) hd)) (fun h27 =>
  jr_bipush 27 29 (-20 : Int32) rfl jc_b_m20 rfl
  (jr_riT 29 rfl rfl))))))))))))))
noncomputable def jM_131 : JMeth := (10, false, 1, jk_131, [], 3)
set_option maxRecDepth 100000 in
theorem jM_131_at : jt_Ms 131 = some jM_131 := rfl
noncomputable def F_SG_book (l0 : Nat) (l1 : Int32) (h : LH) : Option JOut :=
 jf_kd h l0 10
 (jf_th (F_SG_openText l0 l1 (100 : Int32) h) fun h1 =>
 jf_gr h1 l0 10 13 fun v2 =>
 jf_gr h1 l0 10 0 fun v3 =>
 jf_gr h1 l0 10 2 fun v4 =>
 jf_gr h1 v4 6 1 fun v5 =>
 jf_kd h1 v2 0
 ((F_Book_readFrom v2 v3 v5 h1).bind fun h6 =>
 jf_gr h6 l0 10 0 fun v7 =>
 jf_kd h6 v7 7
 ((F_Text_close v7 h6).bind fun h8 =>
 jf_gr h8 l0 10 0 fun v9 =>
 jf_gi h8 v9 7 2 fun v10 =>
 if v10 = 0 then
 jf_gr h8 l0 10 12 fun v11 =>
 jf_gr h8 l0 10 13 fun v12 =>
 jf_pr h8 l0 10 12 v12 fun h13 =>
 jf_pr h13 l0 10 13 v11 fun h14 =>
 jf_gr h14 l0 10 12 fun v15 =>
 jf_gi h14 v15 0 2 fun v16 =>
 some (jo_i (v16, h14))
else
 jf_gr h8 l0 10 0 fun v17 =>
 jf_gi h8 v17 7 2 fun v18 =>
 some (jo_i ((v18 - (10 : Int32)), h8)))))
set_option maxRecDepth 100000 in
theorem F_SG_book_ok {d : Nat} (hd : 6 ≤ d) {l0 : Nat} {l1 : Int32} {h : LH} {q : JOut} : F_SG_book l0 l1 h = some q → jl_Sem jt_T jt_Ms d 131 [.ref l0, .int l1] h q := by
 unfold F_SG_book
 exact jr_enter (D := 5) hd jM_131_at rfl rfl rfl (fun d hd =>
  jr_aloadn 0 1 rfl rfl rfl
  (jr_iloadn 1 2 rfl rfl rfl
  (jr_bipush 2 4 (100 : Int32) rfl jc_b_100 rfl
  (jr_cVt 4 7 [] rfl rfl rfl rfl rfl rfl rfl rfl rfl (as := [.int l1, .int (100 : Int32)]) (F_SG_openText_ok (Nat.le_trans (by decide : 2 ≤ 5) hd)) (fun h1 =>
  jr_aloadn 7 8 rfl rfl rfl
  (jr_gr 8 11 rfl jg_10_95_2 rfl (fun v2 =>
  jr_aloadn 11 12 rfl rfl rfl
  (jr_gr 12 15 rfl jg_10_10_2 rfl (fun v3 =>
  jr_aloadn 15 16 rfl rfl rfl
  (jr_gr 16 19 rfl jg_10_34_2 rfl (fun v4 =>
  jr_gr 19 22 rfl jg_10_120_2 rfl (fun v5 =>
  jr_cVv 22 25 [] rfl rfl rfl rfl rfl rfl rfl rfl (as := [.ref v3, .ref v5]) (F_Book_readFrom_ok (Nat.le_trans (by decide : 5 ≤ 5) hd)) (fun h6 =>
  jr_aloadn 25 26 rfl rfl rfl
  (jr_gr 26 29 rfl jg_10_10_2 rfl (fun v7 =>
  jr_cVv 29 32 [] rfl rfl rfl rfl rfl rfl rfl rfl (as := []) (F_Text_close_ok (Nat.le_trans (by decide : 1 ≤ 5) hd)) (fun h8 =>
  jr_aloadn 32 33 rfl rfl rfl
  (jr_gr 33 36 rfl jg_10_10_2 rfl (fun v9 =>
  jr_gi 36 39 rfl jg_10_117_1 rfl (fun v10 =>
  jr_if_eq 39 53 42 rfl rfl rfl
  (jr_aloadn 53 54 rfl rfl rfl
  (jr_gr 54 57 rfl jg_10_91_2 rfl (fun v11 =>
  jr_astoren 57 58 [.ref l0, .int l1, .ref v11] rfl rfl rfl rfl
  (jr_aloadn 58 59 rfl rfl rfl
  (jr_aloadn 59 60 rfl rfl rfl
  (jr_gr 60 63 rfl jg_10_95_2 rfl (fun v12 =>
  jr_pr 63 66 rfl jg_10_91_5 rfl (fun h13 =>
  jr_aloadn 66 67 rfl rfl rfl
  (jr_aloadn 67 68 rfl rfl rfl
  (jr_pr 68 71 rfl jg_10_95_5 rfl (fun h14 =>
  jr_aloadn 71 72 rfl rfl rfl
  (jr_gr 72 75 rfl jg_10_91_2 rfl (fun v15 =>
  jr_gi 75 78 rfl jg_10_164_1 rfl (fun v16 =>
  jr_riT 78 rfl rfl))))))))))))))
  (jr_aloadn 42 43 rfl rfl rfl
  (jr_gr 43 46 rfl jg_10_10_2 rfl (fun v17 =>
  jr_gi 46 49 rfl jg_10_117_1 rfl (fun v18 =>
  jr_bipush 49 51 (10 : Int32) rfl jc_b_10 rfl
  (jr_isub 51 52 rfl rfl
  (jr_riT 52 rfl rfl)))))))))))))))))))))))))
noncomputable def jM_132 : JMeth := (10, false, 1, jk_132, [], 2)
set_option maxRecDepth 100000 in
theorem jM_132_at : jt_Ms 132 = some jM_132 := rfl
noncomputable def F_SG_told_b16 (l0 : Nat) (l1 : Int32) (s0 : Nat) (s1 : Int32) (h : LH) : Option JOut :=
 jf_kd h s0 10
 (jf_th (F_SG_needArgument s0 s1 h) fun h1 =>
 if l1 = (0 : Int32) then
 jf_gr h1 l0 10 2 fun v29 =>
 jf_gr h1 v29 6 1 fun v30 =>
 jf_gi h1 v30 8 0 fun v31 =>
 some (jo_i (v31, h1))
else
 if l1 = (1 : Int32) then
 jf_gr h1 l0 10 2 fun v26 =>
 jf_gr h1 v26 6 1 fun v27 =>
 jf_gi h1 v27 8 1 fun v28 =>
 some (jo_i (v28, h1))
else
 if l1 = (2 : Int32) then
 jf_gr h1 l0 10 2 fun v23 =>
 jf_gr h1 v23 6 1 fun v24 =>
 jf_gi h1 v24 8 4 fun v25 =>
 some (jo_i (v25, h1))
else
 if l1 = (3 : Int32) then
 jf_gr h1 l0 10 2 fun v20 =>
 jf_gr h1 v20 6 1 fun v21 =>
 jf_gi h1 v21 8 5 fun v22 =>
 some (jo_i (v22, h1))
else
 if l1 = (4 : Int32) then
 jf_gr h1 l0 10 2 fun v17 =>
 jf_kd h1 v17 6
 (jf_bi (F_Scene_hourNow v17 h1) fun v18 h19 =>
 some (jo_i (v18, h19)))
else
 if l1 = (5 : Int32) then
 jf_gr h1 l0 10 2 fun v14 =>
 jf_kd h1 v14 6
 (jf_bi (F_Scene_windNow v14 h1) fun v15 h16 =>
 some (jo_i (v15, h16)))
else
 if l1 = (6 : Int32) then
 jf_gr h1 l0 10 2 fun v11 =>
 jf_kd h1 v11 6
 (jf_bi (F_Scene_rainNow v11 h1) fun v12 h13 =>
 some (jo_i (v12, h13)))
else
 if l1 = (7 : Int32) then
 jf_gr h1 l0 10 2 fun v8 =>
 jf_kd h1 v8 6
 (jf_bi (F_Scene_allBurning v8 h1) fun v9 h10 =>
 some (jo_i (v9, h10)))
else
 if l1 = (8 : Int32) then
 jf_gr h1 l0 10 2 fun v5 =>
 jf_kd h1 v5 6
 (jf_bi (F_Scene_shutGates v5 h1) fun v6 h7 =>
 some (jo_i (v6, h7)))
else
 if l1 = (9 : Int32) then
 jf_gr h1 l0 10 12 fun v3 =>
 jf_gi h1 v3 0 2 fun v4 =>
 some (jo_i (v4, h1))
else
 jf_gi h1 l0 10 15 fun v2 =>
 some (jo_i (v2, h1)))
set_option maxRecDepth 100000 in
theorem F_SG_told_b16_ok {d : Nat} {q : JOut} (hd : 4 ≤ d) {l0 : Nat} {l1 : Int32} {s0 : Nat} {s1 : Int32} {h : LH} : F_SG_told_b16 l0 l1 s0 s1 h = some q → JR d jM_132 16 [.ref l0, .int l1] [.int s1, .ref s0] h q := by
 unfold F_SG_told_b16
 exact jr_cVt 16 19 [] rfl rfl rfl rfl rfl rfl rfl rfl rfl (as := [.int s1]) (F_SG_needArgument_ok (Nat.le_trans (by decide : 1 ≤ 4) hd)) (fun h1 =>
  jr_iloadn 19 20 rfl rfl rfl
  (jr_ite (fun hx20_0 => jr_tsI 20 76 hx20_0 rfl rfl rfl rfl
  (jr_aloadn 76 77 rfl rfl rfl
  (jr_gr 77 80 rfl jg_10_34_2 rfl (fun v29 =>
  jr_gr 80 83 rfl jg_10_120_2 rfl (fun v30 =>
  jr_gi 83 86 rfl jg_10_144_1 rfl (fun v31 =>
  jr_riT 86 rfl rfl))))))
  (fun hx20_0 =>
  jr_ite (fun hx20_1 => jr_tsI 20 87 hx20_1 rfl rfl rfl rfl
  (jr_aloadn 87 88 rfl rfl rfl
  (jr_gr 88 91 rfl jg_10_34_2 rfl (fun v26 =>
  jr_gr 91 94 rfl jg_10_120_2 rfl (fun v27 =>
  jr_gi 94 97 rfl jg_10_175_1 rfl (fun v28 =>
  jr_riT 97 rfl rfl))))))
  (fun hx20_1 =>
  jr_ite (fun hx20_2 => jr_tsI 20 98 hx20_2 rfl rfl rfl rfl
  (jr_aloadn 98 99 rfl rfl rfl
  (jr_gr 99 102 rfl jg_10_34_2 rfl (fun v23 =>
  jr_gr 102 105 rfl jg_10_120_2 rfl (fun v24 =>
  jr_gi 105 108 rfl jg_10_178_1 rfl (fun v25 =>
  jr_riT 108 rfl rfl))))))
  (fun hx20_2 =>
  jr_ite (fun hx20_3 => jr_tsI 20 109 hx20_3 rfl rfl rfl rfl
  (jr_aloadn 109 110 rfl rfl rfl
  (jr_gr 110 113 rfl jg_10_34_2 rfl (fun v20 =>
  jr_gr 113 116 rfl jg_10_120_2 rfl (fun v21 =>
  jr_gi 116 119 rfl jg_10_181_1 rfl (fun v22 =>
  jr_riT 119 rfl rfl))))))
  (fun hx20_3 =>
  jr_ite (fun hx20_4 => jr_tsI 20 120 hx20_4 rfl rfl rfl rfl
  (jr_aloadn 120 121 rfl rfl rfl
  (jr_gr 121 124 rfl jg_10_34_2 rfl (fun v17 =>
  jr_cVi 124 127 [] rfl rfl rfl rfl rfl rfl rfl rfl (as := []) (F_Scene_hourNow_ok (Nat.le_trans (by decide : 1 ≤ 4) hd)) (fun v18 h19 =>
  jr_riT 127 rfl rfl)))))
  (fun hx20_4 =>
  jr_ite (fun hx20_5 => jr_tsI 20 128 hx20_5 rfl rfl rfl rfl
  (jr_aloadn 128 129 rfl rfl rfl
  (jr_gr 129 132 rfl jg_10_34_2 rfl (fun v14 =>
  jr_cVi 132 135 [] rfl rfl rfl rfl rfl rfl rfl rfl (as := []) (F_Scene_windNow_ok (Nat.le_trans (by decide : 3 ≤ 4) hd)) (fun v15 h16 =>
  jr_riT 135 rfl rfl)))))
  (fun hx20_5 =>
  jr_ite (fun hx20_6 => jr_tsI 20 136 hx20_6 rfl rfl rfl rfl
  (jr_aloadn 136 137 rfl rfl rfl
  (jr_gr 137 140 rfl jg_10_34_2 rfl (fun v11 =>
  jr_cVi 140 143 [] rfl rfl rfl rfl rfl rfl rfl rfl (as := []) (F_Scene_rainNow_ok (Nat.le_trans (by decide : 3 ≤ 4) hd)) (fun v12 h13 =>
  jr_riT 143 rfl rfl)))))
  (fun hx20_6 =>
  jr_ite (fun hx20_7 => jr_tsI 20 144 hx20_7 rfl rfl rfl rfl
  (jr_aloadn 144 145 rfl rfl rfl
  (jr_gr 145 148 rfl jg_10_34_2 rfl (fun v8 =>
  jr_cVi 148 151 [] rfl rfl rfl rfl rfl rfl rfl rfl (as := []) (F_Scene_allBurning_ok (Nat.le_trans (by decide : 2 ≤ 4) hd)) (fun v9 h10 =>
  jr_riT 151 rfl rfl)))))
  (fun hx20_7 =>
  jr_ite (fun hx20_8 => jr_tsI 20 152 hx20_8 rfl rfl rfl rfl
  (jr_aloadn 152 153 rfl rfl rfl
  (jr_gr 153 156 rfl jg_10_34_2 rfl (fun v5 =>
  jr_cVi 156 159 [] rfl rfl rfl rfl rfl rfl rfl rfl (as := []) (F_Scene_shutGates_ok (Nat.le_trans (by decide : 4 ≤ 4) hd)) (fun v6 h7 =>
  jr_riT 159 rfl rfl)))))
  (fun hx20_8 =>
  jr_ite (fun hx20_9 => jr_tsI 20 160 hx20_9 rfl rfl rfl rfl
  (jr_aloadn 160 161 rfl rfl rfl
  (jr_gr 161 164 rfl jg_10_91_2 rfl (fun v3 =>
  jr_gi 164 167 rfl jg_10_164_1 rfl (fun v4 =>
  jr_riT 167 rfl rfl)))))
  (fun hx20_9 =>
  jr_tsD 20 168 rfl (by have := jr_ne (k := 0) jc_t_0 hx20_0; have := jr_ne (k := 1) jc_t_1 hx20_1; have := jr_ne (k := 2) jc_t_2 hx20_2; have := jr_ne (k := 3) jc_t_3 hx20_3; have := jr_ne (k := 4) jc_t_4 hx20_4; have := jr_ne (k := 5) jc_t_5 hx20_5; have := jr_ne (k := 6) jc_t_6 hx20_6; have := jr_ne (k := 7) jc_t_7 hx20_7; have := jr_ne (k := 8) jc_t_8 hx20_8; have := jr_ne (k := 9) jc_t_9 hx20_9; omega) rfl
  (jr_aloadn 168 169 rfl rfl rfl
  (jr_gi 169 172 rfl jg_10_141_1 rfl (fun v2 =>
  jr_riT 172 rfl rfl)))))))))))))))
noncomputable def F_SG_told_b15 (l0 : Nat) (l1 : Int32) (s0 : Nat) (h : LH) : Option JOut :=
 F_SG_told_b16  l0 l1 s0 (0 : Int32) h
set_option maxRecDepth 100000 in
theorem F_SG_told_b15_ok {d : Nat} {q : JOut} (hd : 4 ≤ d) {l0 : Nat} {l1 : Int32} {s0 : Nat} {h : LH} : F_SG_told_b15 l0 l1 s0 h = some q → JR d jM_132 15 [.ref l0, .int l1] [.ref s0] h q := by
 unfold F_SG_told_b15
 exact jr_iconst 15 16 (0 : Int32) rfl jc_i_0 rfl
  ((F_SG_told_b16_ok hd ))
noncomputable def F_SG_told (l0 : Nat) (l1 : Int32) (h : LH) : Option JOut :=
 if l1 < 0 then
 F_SG_told_b15  l0 l1 l0 h
else
 if (10 : Int32) < l1 then
 F_SG_told_b15  l0 l1 l0 h
else
 F_SG_told_b16  l0 l1 l0 (1 : Int32) h
set_option maxRecDepth 100000 in
theorem F_SG_told_ok {d : Nat} (hd : 5 ≤ d) {l0 : Nat} {l1 : Int32} {h : LH} {q : JOut} : F_SG_told l0 l1 h = some q → jl_Sem jt_T jt_Ms d 132 [.ref l0, .int l1] h q := by
 unfold F_SG_told
 exact jr_enter (D := 4) hd jM_132_at rfl rfl rfl (fun d hd =>
  jr_aloadn 0 1 rfl rfl rfl
  (jr_iloadn 1 2 rfl rfl rfl
  (jr_if_lt 2 15 5 rfl rfl rfl
  ((F_SG_told_b15_ok hd ))
  (jr_iloadn 5 6 rfl rfl rfl
  (jr_bipush 6 8 (10 : Int32) rfl jc_b_10 rfl
  (jr_icmp_gt 8 15 11 rfl rfl rfl
  ((F_SG_told_b15_ok hd ))
  (jr_iconst 11 12 (1 : Int32) rfl jc_i_1 rfl
  (jr_goto 12 16 rfl rfl
  ((F_SG_told_b16_ok hd ))))))))))
noncomputable def jM_135 : JMeth := (10, false, 0, jk_135, [], 2)
set_option maxRecDepth 100000 in
theorem jM_135_at : jt_Ms 135 = some jM_135 := rfl
noncomputable def F_SG_needElement (l0 : Nat) (l1 : Int32) (h : LH) : Option JOut :=
 if l1 = 0 then
 jf_gi h l0 10 16 fun v1 =>
 jf_pi h l0 10 16 (v1 + (1 : Int32)) fun h2 =>
 some (.inr 0, jl_junk h2 6)
else
 some (jo_v h)
set_option maxRecDepth 100000 in
theorem F_SG_needElement_ok {d : Nat} (hd : 1 ≤ d) {l0 : Nat} {l1 : Int32} {h : LH} {q : JOut} : F_SG_needElement l0 l1 h = some q → jl_Sem jt_T jt_Ms d 135 [.ref l0, .int l1] h q := by
 unfold F_SG_needElement
 exact jr_enter (D := 0) hd jM_135_at rfl rfl rfl (fun d hd =>
  jr_iloadn 0 1 rfl rfl rfl
  (jr_if_ne 1 25 4 rfl rfl rfl
  (jr_rvT 25 rfl rfl)
  (jr_aloadn 4 5 rfl rfl rfl
  (jr_dup 5 6 rfl rfl rfl
  (jr_gi 6 9 rfl jg_10_378_1 rfl (fun v1 =>
  jr_iconst 9 10 (1 : Int32) rfl jc_i_1 rfl
  (jr_iadd 10 11 rfl rfl
  (jr_pi 11 14 rfl jg_10_378_3 rfl (fun h2 =>
  (jr_throw 14 rfl rfl rfl rfl rfl))))))))))
noncomputable def jM_134 : JMeth := (10, false, 0, jk_134, [], 2)
set_option maxRecDepth 100000 in
theorem jM_134_at : jt_Ms 134 = some jM_134 := rfl
noncomputable def F_SG_needGate_b24 (s0 : Nat) (s1 : Int32) (h : LH) : Option JOut :=
 jf_kd h s0 10
 (jf_th (F_SG_needElement s0 s1 h) fun h1 =>
 some (jo_v h1))
set_option maxRecDepth 100000 in
theorem F_SG_needGate_b24_ok {d : Nat} {q : JOut} (hd : 1 ≤ d) {s0 : Nat} {s1 : Int32} {u0 : Value} {u1 : Value} {h : LH} : F_SG_needGate_b24 s0 s1 h = some q → JR d jM_134 24 [u0, u1] [.int s1, .ref s0] h q := by
 unfold F_SG_needGate_b24
 exact jr_cVt 24 27 [] rfl rfl rfl rfl rfl rfl rfl rfl rfl (as := [.int s1]) (F_SG_needElement_ok (Nat.le_trans (by decide : 1 ≤ 1) hd)) (fun h1 =>
  jr_rvT 27 rfl rfl)
noncomputable def F_SG_needGate_b23 (s0 : Nat) (h : LH) : Option JOut :=
 F_SG_needGate_b24  s0 (0 : Int32) h
set_option maxRecDepth 100000 in
theorem F_SG_needGate_b23_ok {d : Nat} {q : JOut} (hd : 1 ≤ d) {s0 : Nat} {u0 : Value} {u1 : Value} {h : LH} : F_SG_needGate_b23 s0 h = some q → JR d jM_134 23 [u0, u1] [.ref s0] h q := by
 unfold F_SG_needGate_b23
 exact jr_iconst 23 24 (0 : Int32) rfl jc_i_0 rfl
  ((F_SG_needGate_b24_ok hd ))
noncomputable def F_SG_needGate (l0 : Nat) (l1 : Int32) (h : LH) : Option JOut :=
 if l1 < 0 then
 F_SG_needGate_b23  l0 h
else
 jf_gr h l0 10 2 fun v1 =>
 jf_gr h v1 6 1 fun v2 =>
 jf_gi h v2 8 0 fun v3 =>
 if l1 < v3 then
 F_SG_needGate_b24  l0 (1 : Int32) h
else
 F_SG_needGate_b23  l0 h
set_option maxRecDepth 100000 in
theorem F_SG_needGate_ok {d : Nat} (hd : 2 ≤ d) {l0 : Nat} {l1 : Int32} {h : LH} {q : JOut} : F_SG_needGate l0 l1 h = some q → jl_Sem jt_T jt_Ms d 134 [.ref l0, .int l1] h q := by
 unfold F_SG_needGate
 exact jr_enter (D := 1) hd jM_134_at rfl rfl rfl (fun d hd =>
  jr_aloadn 0 1 rfl rfl rfl
  (jr_iloadn 1 2 rfl rfl rfl
  (jr_if_lt 2 23 5 rfl rfl rfl
  ((F_SG_needGate_b23_ok hd ))
  (jr_iloadn 5 6 rfl rfl rfl
  (jr_aloadn 6 7 rfl rfl rfl
  (jr_gr 7 10 rfl jg_10_34_2 rfl (fun v1 =>
  jr_gr 10 13 rfl jg_10_120_2 rfl (fun v2 =>
  jr_gi 13 16 rfl jg_10_144_1 rfl (fun v3 =>
  jr_icmp_ge 16 23 19 rfl rfl rfl
  ((F_SG_needGate_b23_ok hd ))
  (jr_iconst 19 20 (1 : Int32) rfl jc_i_1 rfl
  (jr_goto 20 24 rfl rfl
  ((F_SG_needGate_b24_ok hd )))))))))))))
noncomputable def jM_133 : JMeth := (10, false, 1, jk_133, [], 3)
set_option maxRecDepth 100000 in
theorem jM_133_at : jt_Ms 133 = some jM_133 := rfl
noncomputable def F_SG_gate_b107 (s0 : Int32) (h : LH) : Option JOut :=
 some (jo_i (s0, h))
set_option maxRecDepth 100000 in
theorem F_SG_gate_b107_ok {d : Nat} {q : JOut} (hd : 3 ≤ d) {s0 : Int32} {u0 : Value} {u1 : Value} {u2 : Value} {h : LH} : F_SG_gate_b107 s0 h = some q → JR d jM_133 107 [u0, u1, u2] [.int s0] h q := by
 unfold F_SG_gate_b107
 exact jr_riT 107 rfl rfl
noncomputable def F_SG_gate_b20 (l0 : Nat) (l1 : Int32) (l2 : Int32) (s0 : Nat) (s1 : Int32) (h : LH) : Option JOut :=
 jf_kd h s0 10
 (jf_th (F_SG_needArgument s0 s1 h) fun h1 =>
 if l2 = (0 : Int32) then
 jf_gr h1 l0 10 2 fun v17 =>
 jf_gr h1 v17 6 1 fun v18 =>
 jf_gr h1 v18 8 6 fun v19 =>
 jf_ia h1 v19 l1 fun v20 =>
 some (jo_i (v20, h1))
else
 if l2 = (1 : Int32) then
 jf_gr h1 l0 10 2 fun v14 =>
 jf_kd h1 v14 6
 (jf_bi (F_Scene_smokeAt v14 l1 h1) fun v15 h16 =>
 some (jo_i (v15, h16)))
else
 if l2 = (2 : Int32) then
 jf_gr h1 l0 10 2 fun v11 =>
 jf_kd h1 v11 6
 (jf_bi (F_Scene_scentAt v11 l1 h1) fun v12 h13 =>
 some (jo_i (v12, h13)))
else
 if l2 = (3 : Int32) then
 jf_gr h1 l0 10 2 fun v8 =>
 jf_kd h1 v8 6
 (jf_bi (F_Scene_isShut v8 l1 h1) fun v9 h10 =>
 if v9 = 0 then
 F_SG_gate_b107  (0 : Int32) h10
else
 F_SG_gate_b107  (1 : Int32) h10)
else
 if l2 = (4 : Int32) then
 jf_gr h1 l0 10 2 fun v5 =>
 jf_kd h1 v5 6
 (jf_bi (F_Scene_burning v5 l1 h1) fun v6 h7 =>
 some (jo_i (v6, h7)))
else
 jf_gr h1 l0 10 2 fun v2 =>
 jf_kd h1 v2 6
 (jf_bi (F_Scene_standsAt v2 l1 h1) fun v3 h4 =>
 some (jo_i (v3, h4))))
set_option maxRecDepth 100000 in
theorem F_SG_gate_b20_ok {d : Nat} {q : JOut} (hd : 3 ≤ d) {l0 : Nat} {l1 : Int32} {l2 : Int32} {s0 : Nat} {s1 : Int32} {h : LH} : F_SG_gate_b20 l0 l1 l2 s0 s1 h = some q → JR d jM_133 20 [.ref l0, .int l1, .int l2] [.int s1, .ref s0] h q := by
 unfold F_SG_gate_b20
 exact jr_cVt 20 23 [] rfl rfl rfl rfl rfl rfl rfl rfl rfl (as := [.int s1]) (F_SG_needArgument_ok (Nat.le_trans (by decide : 1 ≤ 3) hd)) (fun h1 =>
  jr_iloadn 23 24 rfl rfl rfl
  (jr_ite (fun hx24_0 => jr_tsI 24 60 hx24_0 rfl rfl rfl rfl
  (jr_aloadn 60 61 rfl rfl rfl
  (jr_gr 61 64 rfl jg_10_34_2 rfl (fun v17 =>
  jr_gr 64 67 rfl jg_10_120_2 rfl (fun v18 =>
  jr_gr 67 70 rfl jg_10_203_2 rfl (fun v19 =>
  jr_iloadn 70 71 rfl rfl rfl
  (jr_ia 71 72 rfl rfl (fun v20 =>
  jr_riT 72 rfl rfl))))))))
  (fun hx24_0 =>
  jr_ite (fun hx24_1 => jr_tsI 24 73 hx24_1 rfl rfl rfl rfl
  (jr_aloadn 73 74 rfl rfl rfl
  (jr_gr 74 77 rfl jg_10_34_2 rfl (fun v14 =>
  jr_iloadn 77 78 rfl rfl rfl
  (jr_cVi 78 81 [] rfl rfl rfl rfl rfl rfl rfl rfl (as := [.int l1]) (F_Scene_smokeAt_ok (Nat.le_trans (by decide : 3 ≤ 3) hd)) (fun v15 h16 =>
  jr_riT 81 rfl rfl))))))
  (fun hx24_1 =>
  jr_ite (fun hx24_2 => jr_tsI 24 82 hx24_2 rfl rfl rfl rfl
  (jr_aloadn 82 83 rfl rfl rfl
  (jr_gr 83 86 rfl jg_10_34_2 rfl (fun v11 =>
  jr_iloadn 86 87 rfl rfl rfl
  (jr_cVi 87 90 [] rfl rfl rfl rfl rfl rfl rfl rfl (as := [.int l1]) (F_Scene_scentAt_ok (Nat.le_trans (by decide : 3 ≤ 3) hd)) (fun v12 h13 =>
  jr_riT 90 rfl rfl))))))
  (fun hx24_2 =>
  jr_ite (fun hx24_3 => jr_tsI 24 91 hx24_3 rfl rfl rfl rfl
  (jr_aloadn 91 92 rfl rfl rfl
  (jr_gr 92 95 rfl jg_10_34_2 rfl (fun v8 =>
  jr_iloadn 95 96 rfl rfl rfl
  (jr_cVi 96 99 [] rfl rfl rfl rfl rfl rfl rfl rfl (as := [.int l1]) (F_Scene_isShut_ok (Nat.le_trans (by decide : 3 ≤ 3) hd)) (fun v9 h10 =>
  jr_if_eq 99 106 102 rfl rfl rfl
  (jr_iconst 106 107 (0 : Int32) rfl jc_i_0 rfl
  ((F_SG_gate_b107_ok hd )))
  (jr_iconst 102 103 (1 : Int32) rfl jc_i_1 rfl
  (jr_goto 103 107 rfl rfl
  ((F_SG_gate_b107_ok hd ))))))))))
  (fun hx24_3 =>
  jr_ite (fun hx24_4 => jr_tsI 24 108 hx24_4 rfl rfl rfl rfl
  (jr_aloadn 108 109 rfl rfl rfl
  (jr_gr 109 112 rfl jg_10_34_2 rfl (fun v5 =>
  jr_iloadn 112 113 rfl rfl rfl
  (jr_cVi 113 116 [] rfl rfl rfl rfl rfl rfl rfl rfl (as := [.int l1]) (F_Scene_burning_ok (Nat.le_trans (by decide : 1 ≤ 3) hd)) (fun v6 h7 =>
  jr_riT 116 rfl rfl))))))
  (fun hx24_4 =>
  jr_tsD 24 117 rfl (by have := jr_ne (k := 0) jc_t_0 hx24_0; have := jr_ne (k := 1) jc_t_1 hx24_1; have := jr_ne (k := 2) jc_t_2 hx24_2; have := jr_ne (k := 3) jc_t_3 hx24_3; have := jr_ne (k := 4) jc_t_4 hx24_4; omega) rfl
  (jr_aloadn 117 118 rfl rfl rfl
  (jr_gr 118 121 rfl jg_10_34_2 rfl (fun v2 =>
  jr_iloadn 121 122 rfl rfl rfl
  (jr_cVi 122 125 [] rfl rfl rfl rfl rfl rfl rfl rfl (as := [.int l1]) (F_Scene_standsAt_ok (Nat.le_trans (by decide : 3 ≤ 3) hd)) (fun v3 h4 =>
  jr_riT 125 rfl rfl))))))))))))
noncomputable def F_SG_gate_b19 (l0 : Nat) (l1 : Int32) (l2 : Int32) (s0 : Nat) (h : LH) : Option JOut :=
 F_SG_gate_b20  l0 l1 l2 s0 (0 : Int32) h
set_option maxRecDepth 100000 in
theorem F_SG_gate_b19_ok {d : Nat} {q : JOut} (hd : 3 ≤ d) {l0 : Nat} {l1 : Int32} {l2 : Int32} {s0 : Nat} {h : LH} : F_SG_gate_b19 l0 l1 l2 s0 h = some q → JR d jM_133 19 [.ref l0, .int l1, .int l2] [.ref s0] h q := by
 unfold F_SG_gate_b19
 exact jr_iconst 19 20 (0 : Int32) rfl jc_i_0 rfl
  ((F_SG_gate_b20_ok hd ))
noncomputable def F_SG_gate (l0 : Nat) (l1 : Int32) (l2 : Int32) (h : LH) : Option JOut :=
 jf_kd h l0 10
 (jf_th (F_SG_needGate l0 l1 h) fun h1 =>
 if l2 < 0 then
 F_SG_gate_b19  l0 l1 l2 l0 h1
else
 if (5 : Int32) < l2 then
 F_SG_gate_b19  l0 l1 l2 l0 h1
else
 F_SG_gate_b20  l0 l1 l2 l0 (1 : Int32) h1)
set_option maxRecDepth 100000 in
theorem F_SG_gate_ok {d : Nat} (hd : 4 ≤ d) {l0 : Nat} {l1 : Int32} {l2 : Int32} {h : LH} {q : JOut} : F_SG_gate l0 l1 l2 h = some q → jl_Sem jt_T jt_Ms d 133 [.ref l0, .int l1, .int l2] h q := by
 unfold F_SG_gate
 exact jr_enter (D := 3) hd jM_133_at rfl rfl rfl (fun d hd =>
  jr_aloadn 0 1 rfl rfl rfl
  (jr_iloadn 1 2 rfl rfl rfl
  (jr_cVt 2 5 [] rfl rfl rfl rfl rfl rfl rfl rfl rfl (as := [.int l1]) (F_SG_needGate_ok (Nat.le_trans (by decide : 2 ≤ 3) hd)) (fun h1 =>
  jr_aloadn 5 6 rfl rfl rfl
  (jr_iloadn 6 7 rfl rfl rfl
  (jr_if_lt 7 19 10 rfl rfl rfl
  ((F_SG_gate_b19_ok hd ))
  (jr_iloadn 10 11 rfl rfl rfl
  (jr_iconst 11 12 (5 : Int32) rfl jc_i_5 rfl
  (jr_icmp_gt 12 19 15 rfl rfl rfl
  ((F_SG_gate_b19_ok hd ))
  (jr_iconst 15 16 (1 : Int32) rfl jc_i_1 rfl
  (jr_goto 16 20 rfl rfl
  ((F_SG_gate_b20_ok hd )))))))))))))
noncomputable def jM_137 : JMeth := (10, false, 0, jk_137, [], 2)
set_option maxRecDepth 100000 in
theorem jM_137_at : jt_Ms 137 = some jM_137 := rfl
noncomputable def F_SG_needWood_b24 (s0 : Nat) (s1 : Int32) (h : LH) : Option JOut :=
 jf_kd h s0 10
 (jf_th (F_SG_needElement s0 s1 h) fun h1 =>
 some (jo_v h1))
set_option maxRecDepth 100000 in
theorem F_SG_needWood_b24_ok {d : Nat} {q : JOut} (hd : 1 ≤ d) {s0 : Nat} {s1 : Int32} {u0 : Value} {u1 : Value} {h : LH} : F_SG_needWood_b24 s0 s1 h = some q → JR d jM_137 24 [u0, u1] [.int s1, .ref s0] h q := by
 unfold F_SG_needWood_b24
 exact jr_cVt 24 27 [] rfl rfl rfl rfl rfl rfl rfl rfl rfl (as := [.int s1]) (F_SG_needElement_ok (Nat.le_trans (by decide : 1 ≤ 1) hd)) (fun h1 =>
  jr_rvT 27 rfl rfl)
noncomputable def F_SG_needWood_b23 (s0 : Nat) (h : LH) : Option JOut :=
 F_SG_needWood_b24  s0 (0 : Int32) h
set_option maxRecDepth 100000 in
theorem F_SG_needWood_b23_ok {d : Nat} {q : JOut} (hd : 1 ≤ d) {s0 : Nat} {u0 : Value} {u1 : Value} {h : LH} : F_SG_needWood_b23 s0 h = some q → JR d jM_137 23 [u0, u1] [.ref s0] h q := by
 unfold F_SG_needWood_b23
 exact jr_iconst 23 24 (0 : Int32) rfl jc_i_0 rfl
  ((F_SG_needWood_b24_ok hd ))
noncomputable def F_SG_needWood (l0 : Nat) (l1 : Int32) (h : LH) : Option JOut :=
 if l1 < 0 then
 F_SG_needWood_b23  l0 h
else
 jf_gr h l0 10 2 fun v1 =>
 jf_gr h v1 6 1 fun v2 =>
 jf_gi h v2 8 1 fun v3 =>
 if l1 < v3 then
 F_SG_needWood_b24  l0 (1 : Int32) h
else
 F_SG_needWood_b23  l0 h
set_option maxRecDepth 100000 in
theorem F_SG_needWood_ok {d : Nat} (hd : 2 ≤ d) {l0 : Nat} {l1 : Int32} {h : LH} {q : JOut} : F_SG_needWood l0 l1 h = some q → jl_Sem jt_T jt_Ms d 137 [.ref l0, .int l1] h q := by
 unfold F_SG_needWood
 exact jr_enter (D := 1) hd jM_137_at rfl rfl rfl (fun d hd =>
  jr_aloadn 0 1 rfl rfl rfl
  (jr_iloadn 1 2 rfl rfl rfl
  (jr_if_lt 2 23 5 rfl rfl rfl
  ((F_SG_needWood_b23_ok hd ))
  (jr_iloadn 5 6 rfl rfl rfl
  (jr_aloadn 6 7 rfl rfl rfl
  (jr_gr 7 10 rfl jg_10_34_2 rfl (fun v1 =>
  jr_gr 10 13 rfl jg_10_120_2 rfl (fun v2 =>
  jr_gi 13 16 rfl jg_10_175_1 rfl (fun v3 =>
  jr_icmp_ge 16 23 19 rfl rfl rfl
  ((F_SG_needWood_b23_ok hd ))
  (jr_iconst 19 20 (1 : Int32) rfl jc_i_1 rfl
  (jr_goto 20 24 rfl rfl
  ((F_SG_needWood_b24_ok hd )))))))))))))
noncomputable def jM_136 : JMeth := (10, false, 1, jk_136, [], 3)
set_option maxRecDepth 100000 in
theorem jM_136_at : jt_Ms 136 = some jM_136 := rfl
noncomputable def F_SG_wood_b20 (l0 : Nat) (l1 : Int32) (l2 : Int32) (s0 : Nat) (s1 : Int32) (h : LH) : Option JOut :=
 jf_kd h s0 10
 (jf_th (F_SG_needArgument s0 s1 h) fun h1 =>
 if l2 = (0 : Int32) then
 jf_gr h1 l0 10 2 fun v16 =>
 jf_gr h1 v16 6 1 fun v17 =>
 jf_gr h1 v17 8 7 fun v18 =>
 jf_ia h1 v18 l1 fun v19 =>
 some (jo_i (v19, h1))
else
 if l2 = (1 : Int32) then
 jf_gr h1 l0 10 2 fun v12 =>
 jf_gr h1 v12 6 1 fun v13 =>
 jf_gr h1 v13 8 8 fun v14 =>
 jf_ia h1 v14 l1 fun v15 =>
 some (jo_i (v15, h1))
else
 if l2 = (2 : Int32) then
 jf_gr h1 l0 10 2 fun v8 =>
 jf_gr h1 v8 6 1 fun v9 =>
 jf_gr h1 v9 8 9 fun v10 =>
 jf_ia h1 v10 l1 fun v11 =>
 some (jo_i (v11, h1))
else
 if l2 = (3 : Int32) then
 jf_gr h1 l0 10 2 fun v5 =>
 jf_kd h1 v5 6
 (jf_bi (F_Scene_stored v5 l1 h1) fun v6 h7 =>
 some (jo_i (v6, h7)))
else
 jf_gr h1 l0 10 2 fun v2 =>
 jf_kd h1 v2 6
 (jf_bi (F_Scene_burningOf v2 l1 h1) fun v3 h4 =>
 some (jo_i (v3, h4))))
set_option maxRecDepth 100000 in
theorem F_SG_wood_b20_ok {d : Nat} {q : JOut} (hd : 2 ≤ d) {l0 : Nat} {l1 : Int32} {l2 : Int32} {s0 : Nat} {s1 : Int32} {h : LH} : F_SG_wood_b20 l0 l1 l2 s0 s1 h = some q → JR d jM_136 20 [.ref l0, .int l1, .int l2] [.int s1, .ref s0] h q := by
 unfold F_SG_wood_b20
 exact jr_cVt 20 23 [] rfl rfl rfl rfl rfl rfl rfl rfl rfl (as := [.int s1]) (F_SG_needArgument_ok (Nat.le_trans (by decide : 1 ≤ 2) hd)) (fun h1 =>
  jr_iloadn 23 24 rfl rfl rfl
  (jr_ite (fun hx24_0 => jr_tsI 24 56 hx24_0 rfl rfl rfl rfl
  (jr_aloadn 56 57 rfl rfl rfl
  (jr_gr 57 60 rfl jg_10_34_2 rfl (fun v16 =>
  jr_gr 60 63 rfl jg_10_120_2 rfl (fun v17 =>
  jr_gr 63 66 rfl jg_10_227_2 rfl (fun v18 =>
  jr_iloadn 66 67 rfl rfl rfl
  (jr_ia 67 68 rfl rfl (fun v19 =>
  jr_riT 68 rfl rfl))))))))
  (fun hx24_0 =>
  jr_ite (fun hx24_1 => jr_tsI 24 69 hx24_1 rfl rfl rfl rfl
  (jr_aloadn 69 70 rfl rfl rfl
  (jr_gr 70 73 rfl jg_10_34_2 rfl (fun v12 =>
  jr_gr 73 76 rfl jg_10_120_2 rfl (fun v13 =>
  jr_gr 76 79 rfl jg_10_230_2 rfl (fun v14 =>
  jr_iloadn 79 80 rfl rfl rfl
  (jr_ia 80 81 rfl rfl (fun v15 =>
  jr_riT 81 rfl rfl))))))))
  (fun hx24_1 =>
  jr_ite (fun hx24_2 => jr_tsI 24 82 hx24_2 rfl rfl rfl rfl
  (jr_aloadn 82 83 rfl rfl rfl
  (jr_gr 83 86 rfl jg_10_34_2 rfl (fun v8 =>
  jr_gr 86 89 rfl jg_10_120_2 rfl (fun v9 =>
  jr_gr 89 92 rfl jg_10_233_2 rfl (fun v10 =>
  jr_iloadn 92 93 rfl rfl rfl
  (jr_ia 93 94 rfl rfl (fun v11 =>
  jr_riT 94 rfl rfl))))))))
  (fun hx24_2 =>
  jr_ite (fun hx24_3 => jr_tsI 24 95 hx24_3 rfl rfl rfl rfl
  (jr_aloadn 95 96 rfl rfl rfl
  (jr_gr 96 99 rfl jg_10_34_2 rfl (fun v5 =>
  jr_iloadn 99 100 rfl rfl rfl
  (jr_cVi 100 103 [] rfl rfl rfl rfl rfl rfl rfl rfl (as := [.int l1]) (F_Scene_stored_ok (Nat.le_trans (by decide : 1 ≤ 2) hd)) (fun v6 h7 =>
  jr_riT 103 rfl rfl))))))
  (fun hx24_3 =>
  jr_tsD 24 104 rfl (by have := jr_ne (k := 0) jc_t_0 hx24_0; have := jr_ne (k := 1) jc_t_1 hx24_1; have := jr_ne (k := 2) jc_t_2 hx24_2; have := jr_ne (k := 3) jc_t_3 hx24_3; omega) rfl
  (jr_aloadn 104 105 rfl rfl rfl
  (jr_gr 105 108 rfl jg_10_34_2 rfl (fun v2 =>
  jr_iloadn 108 109 rfl rfl rfl
  (jr_cVi 109 112 [] rfl rfl rfl rfl rfl rfl rfl rfl (as := [.int l1]) (F_Scene_burningOf_ok (Nat.le_trans (by decide : 2 ≤ 2) hd)) (fun v3 h4 =>
  jr_riT 112 rfl rfl)))))))))))
noncomputable def F_SG_wood_b19 (l0 : Nat) (l1 : Int32) (l2 : Int32) (s0 : Nat) (h : LH) : Option JOut :=
 F_SG_wood_b20  l0 l1 l2 s0 (0 : Int32) h
set_option maxRecDepth 100000 in
theorem F_SG_wood_b19_ok {d : Nat} {q : JOut} (hd : 2 ≤ d) {l0 : Nat} {l1 : Int32} {l2 : Int32} {s0 : Nat} {h : LH} : F_SG_wood_b19 l0 l1 l2 s0 h = some q → JR d jM_136 19 [.ref l0, .int l1, .int l2] [.ref s0] h q := by
 unfold F_SG_wood_b19
 exact jr_iconst 19 20 (0 : Int32) rfl jc_i_0 rfl
  ((F_SG_wood_b20_ok hd ))
noncomputable def F_SG_wood (l0 : Nat) (l1 : Int32) (l2 : Int32) (h : LH) : Option JOut :=
 jf_kd h l0 10
 (jf_th (F_SG_needWood l0 l1 h) fun h1 =>
 if l2 < 0 then
 F_SG_wood_b19  l0 l1 l2 l0 h1
else
 if (4 : Int32) < l2 then
 F_SG_wood_b19  l0 l1 l2 l0 h1
else
 F_SG_wood_b20  l0 l1 l2 l0 (1 : Int32) h1)
set_option maxRecDepth 100000 in
theorem F_SG_wood_ok {d : Nat} (hd : 3 ≤ d) {l0 : Nat} {l1 : Int32} {l2 : Int32} {h : LH} {q : JOut} : F_SG_wood l0 l1 l2 h = some q → jl_Sem jt_T jt_Ms d 136 [.ref l0, .int l1, .int l2] h q := by
 unfold F_SG_wood
 exact jr_enter (D := 2) hd jM_136_at rfl rfl rfl (fun d hd =>
  jr_aloadn 0 1 rfl rfl rfl
  (jr_iloadn 1 2 rfl rfl rfl
  (jr_cVt 2 5 [] rfl rfl rfl rfl rfl rfl rfl rfl rfl (as := [.int l1]) (F_SG_needWood_ok (Nat.le_trans (by decide : 2 ≤ 2) hd)) (fun h1 =>
  jr_aloadn 5 6 rfl rfl rfl
  (jr_iloadn 6 7 rfl rfl rfl
  (jr_if_lt 7 19 10 rfl rfl rfl
  ((F_SG_wood_b19_ok hd ))
  (jr_iloadn 10 11 rfl rfl rfl
  (jr_iconst 11 12 (4 : Int32) rfl jc_i_4 rfl
  (jr_icmp_gt 12 19 15 rfl rfl rfl
  ((F_SG_wood_b19_ok hd ))
  (jr_iconst 15 16 (1 : Int32) rfl jc_i_1 rfl
  (jr_goto 16 20 rfl rfl
  ((F_SG_wood_b20_ok hd )))))))))))))
noncomputable def jM_138 : JMeth := (10, false, 1, jk_138, [], 3)
set_option maxRecDepth 100000 in
theorem jM_138_at : jt_Ms 138 = some jM_138 := rfl
noncomputable def F_SG_comer_b42 (l0 : Nat) (l1 : Int32) (l2 : Int32) (s0 : Nat) (s1 : Int32) (h : LH) : Option JOut :=
 jf_kd h s0 10
 (jf_th (F_SG_needArgument s0 s1 h) fun h1 =>
 if l2 = (0 : Int32) then
 jf_gr h1 l0 10 2 fun v13 =>
 jf_gr h1 v13 6 1 fun v14 =>
 jf_gr h1 v14 8 14 fun v15 =>
 jf_ia h1 v15 l1 fun v16 =>
 some (jo_i (v16, h1))
else
 if l2 = (1 : Int32) then
 jf_gr h1 l0 10 2 fun v9 =>
 jf_gr h1 v9 6 1 fun v10 =>
 jf_gr h1 v10 8 15 fun v11 =>
 jf_ia h1 v11 l1 fun v12 =>
 some (jo_i (v12, h1))
else
 if l2 = (2 : Int32) then
 jf_gr h1 l0 10 2 fun v5 =>
 jf_gr h1 v5 6 1 fun v6 =>
 jf_gr h1 v6 8 16 fun v7 =>
 jf_ia h1 v7 l1 fun v8 =>
 some (jo_i (v8, h1))
else
 jf_gr h1 l0 10 2 fun v2 =>
 jf_kd h1 v2 6
 (jf_bi (F_Scene_came v2 l1 h1) fun v3 h4 =>
 some (jo_i (v3, h4))))
set_option maxRecDepth 100000 in
theorem F_SG_comer_b42_ok {d : Nat} {q : JOut} (hd : 1 ≤ d) {l0 : Nat} {l1 : Int32} {l2 : Int32} {s0 : Nat} {s1 : Int32} {h : LH} : F_SG_comer_b42 l0 l1 l2 s0 s1 h = some q → JR d jM_138 42 [.ref l0, .int l1, .int l2] [.int s1, .ref s0] h q := by
 unfold F_SG_comer_b42
 exact jr_cVt 42 45 [] rfl rfl rfl rfl rfl rfl rfl rfl rfl (as := [.int s1]) (F_SG_needArgument_ok (Nat.le_trans (by decide : 1 ≤ 1) hd)) (fun h1 =>
  jr_iloadn 45 46 rfl rfl rfl
  (jr_ite (fun hx46_0 => jr_tsI 46 72 hx46_0 rfl rfl rfl rfl
  (jr_aloadn 72 73 rfl rfl rfl
  (jr_gr 73 76 rfl jg_10_34_2 rfl (fun v13 =>
  jr_gr 76 79 rfl jg_10_120_2 rfl (fun v14 =>
  jr_gr 79 82 rfl jg_10_245_2 rfl (fun v15 =>
  jr_iloadn 82 83 rfl rfl rfl
  (jr_ia 83 84 rfl rfl (fun v16 =>
  jr_riT 84 rfl rfl))))))))
  (fun hx46_0 =>
  jr_ite (fun hx46_1 => jr_tsI 46 85 hx46_1 rfl rfl rfl rfl
  (jr_aloadn 85 86 rfl rfl rfl
  (jr_gr 86 89 rfl jg_10_34_2 rfl (fun v9 =>
  jr_gr 89 92 rfl jg_10_120_2 rfl (fun v10 =>
  jr_gr 92 95 rfl jg_10_248_2 rfl (fun v11 =>
  jr_iloadn 95 96 rfl rfl rfl
  (jr_ia 96 97 rfl rfl (fun v12 =>
  jr_riT 97 rfl rfl))))))))
  (fun hx46_1 =>
  jr_ite (fun hx46_2 => jr_tsI 46 98 hx46_2 rfl rfl rfl rfl
  (jr_aloadn 98 99 rfl rfl rfl
  (jr_gr 99 102 rfl jg_10_34_2 rfl (fun v5 =>
  jr_gr 102 105 rfl jg_10_120_2 rfl (fun v6 =>
  jr_gr 105 108 rfl jg_10_251_2 rfl (fun v7 =>
  jr_iloadn 108 109 rfl rfl rfl
  (jr_ia 109 110 rfl rfl (fun v8 =>
  jr_riT 110 rfl rfl))))))))
  (fun hx46_2 =>
  jr_tsD 46 111 rfl (by have := jr_ne (k := 0) jc_t_0 hx46_0; have := jr_ne (k := 1) jc_t_1 hx46_1; have := jr_ne (k := 2) jc_t_2 hx46_2; omega) rfl
  (jr_aloadn 111 112 rfl rfl rfl
  (jr_gr 112 115 rfl jg_10_34_2 rfl (fun v2 =>
  jr_iloadn 115 116 rfl rfl rfl
  (jr_cVi 116 119 [] rfl rfl rfl rfl rfl rfl rfl rfl (as := [.int l1]) (F_Scene_came_ok (Nat.le_trans (by decide : 1 ≤ 1) hd)) (fun v3 h4 =>
  jr_riT 119 rfl rfl))))))))))
noncomputable def F_SG_comer_b41 (l0 : Nat) (l1 : Int32) (l2 : Int32) (s0 : Nat) (h : LH) : Option JOut :=
 F_SG_comer_b42  l0 l1 l2 s0 (0 : Int32) h
set_option maxRecDepth 100000 in
theorem F_SG_comer_b41_ok {d : Nat} {q : JOut} (hd : 1 ≤ d) {l0 : Nat} {l1 : Int32} {l2 : Int32} {s0 : Nat} {h : LH} : F_SG_comer_b41 l0 l1 l2 s0 h = some q → JR d jM_138 41 [.ref l0, .int l1, .int l2] [.ref s0] h q := by
 unfold F_SG_comer_b41
 exact jr_iconst 41 42 (0 : Int32) rfl jc_i_0 rfl
  ((F_SG_comer_b42_ok hd ))
noncomputable def F_SG_comer_b24 (l0 : Nat) (l1 : Int32) (l2 : Int32) (s0 : Nat) (s1 : Int32) (h : LH) : Option JOut :=
 jf_kd h s0 10
 (jf_th (F_SG_needElement s0 s1 h) fun h1 =>
 if l2 < 0 then
 F_SG_comer_b41  l0 l1 l2 l0 h1
else
 if (3 : Int32) < l2 then
 F_SG_comer_b41  l0 l1 l2 l0 h1
else
 F_SG_comer_b42  l0 l1 l2 l0 (1 : Int32) h1)
set_option maxRecDepth 100000 in
theorem F_SG_comer_b24_ok {d : Nat} {q : JOut} (hd : 1 ≤ d) {l0 : Nat} {l1 : Int32} {l2 : Int32} {s0 : Nat} {s1 : Int32} {h : LH} : F_SG_comer_b24 l0 l1 l2 s0 s1 h = some q → JR d jM_138 24 [.ref l0, .int l1, .int l2] [.int s1, .ref s0] h q := by
 unfold F_SG_comer_b24
 exact jr_cVt 24 27 [] rfl rfl rfl rfl rfl rfl rfl rfl rfl (as := [.int s1]) (F_SG_needElement_ok (Nat.le_trans (by decide : 1 ≤ 1) hd)) (fun h1 =>
  jr_aloadn 27 28 rfl rfl rfl
  (jr_iloadn 28 29 rfl rfl rfl
  (jr_if_lt 29 41 32 rfl rfl rfl
  ((F_SG_comer_b41_ok hd ))
  (jr_iloadn 32 33 rfl rfl rfl
  (jr_iconst 33 34 (3 : Int32) rfl jc_i_3 rfl
  (jr_icmp_gt 34 41 37 rfl rfl rfl
  ((F_SG_comer_b41_ok hd ))
  (jr_iconst 37 38 (1 : Int32) rfl jc_i_1 rfl
  (jr_goto 38 42 rfl rfl
  ((F_SG_comer_b42_ok hd ))))))))))
noncomputable def F_SG_comer_b23 (l0 : Nat) (l1 : Int32) (l2 : Int32) (s0 : Nat) (h : LH) : Option JOut :=
 F_SG_comer_b24  l0 l1 l2 s0 (0 : Int32) h
set_option maxRecDepth 100000 in
theorem F_SG_comer_b23_ok {d : Nat} {q : JOut} (hd : 1 ≤ d) {l0 : Nat} {l1 : Int32} {l2 : Int32} {s0 : Nat} {h : LH} : F_SG_comer_b23 l0 l1 l2 s0 h = some q → JR d jM_138 23 [.ref l0, .int l1, .int l2] [.ref s0] h q := by
 unfold F_SG_comer_b23
 exact jr_iconst 23 24 (0 : Int32) rfl jc_i_0 rfl
  ((F_SG_comer_b24_ok hd ))
noncomputable def F_SG_comer (l0 : Nat) (l1 : Int32) (l2 : Int32) (h : LH) : Option JOut :=
 if l1 < 0 then
 F_SG_comer_b23  l0 l1 l2 l0 h
else
 jf_gr h l0 10 2 fun v1 =>
 jf_gr h v1 6 1 fun v2 =>
 jf_gi h v2 8 4 fun v3 =>
 if l1 < v3 then
 F_SG_comer_b24  l0 l1 l2 l0 (1 : Int32) h
else
 F_SG_comer_b23  l0 l1 l2 l0 h
set_option maxRecDepth 100000 in
theorem F_SG_comer_ok {d : Nat} (hd : 2 ≤ d) {l0 : Nat} {l1 : Int32} {l2 : Int32} {h : LH} {q : JOut} : F_SG_comer l0 l1 l2 h = some q → jl_Sem jt_T jt_Ms d 138 [.ref l0, .int l1, .int l2] h q := by
 unfold F_SG_comer
 exact jr_enter (D := 1) hd jM_138_at rfl rfl rfl (fun d hd =>
  jr_aloadn 0 1 rfl rfl rfl
  (jr_iloadn 1 2 rfl rfl rfl
  (jr_if_lt 2 23 5 rfl rfl rfl
  ((F_SG_comer_b23_ok hd ))
  (jr_iloadn 5 6 rfl rfl rfl
  (jr_aloadn 6 7 rfl rfl rfl
  (jr_gr 7 10 rfl jg_10_34_2 rfl (fun v1 =>
  jr_gr 10 13 rfl jg_10_120_2 rfl (fun v2 =>
  jr_gi 13 16 rfl jg_10_178_1 rfl (fun v3 =>
  jr_icmp_ge 16 23 19 rfl rfl rfl
  ((F_SG_comer_b23_ok hd ))
  (jr_iconst 19 20 (1 : Int32) rfl jc_i_1 rfl
  (jr_goto 20 24 rfl rfl
  ((F_SG_comer_b24_ok hd )))))))))))))
noncomputable def jM_139 : JMeth := (10, false, 1, jk_139, [], 4)
set_option maxRecDepth 100000 in
theorem jM_139_at : jt_Ms 139 = some jM_139 := rfl
noncomputable def F_SG_log_b73 (s0 : Int32) (h : LH) : Option JOut :=
 some (jo_i (s0, h))
set_option maxRecDepth 100000 in
theorem F_SG_log_b73_ok {d : Nat} {q : JOut} (hd : 2 ≤ d) {s0 : Int32} {u0 : Value} {u1 : Value} {u2 : Value} {u3 : Value} {h : LH} : F_SG_log_b73 s0 h = some q → JR d jM_139 73 [u0, u1, u2, u3] [.int s0] h q := by
 unfold F_SG_log_b73
 exact jr_riT 73 rfl rfl
noncomputable def F_SG_log_b45 (l0 : Nat) (l1 : Int32) (l2 : Int32) (l3 : Int32) (s0 : Nat) (s1 : Int32) (h : LH) : Option JOut :=
 jf_kd h s0 10
 (jf_th (F_SG_needArgument s0 s1 h) fun h1 =>
 if l3 = 0 then
 jf_gr h1 l0 10 2 fun v5 =>
 jf_kd h1 v5 6
 (jf_bi (F_Scene_woodOf v5 l1 l2 h1) fun v6 h7 =>
 F_SG_log_b73  v6 h7)
else
 jf_gr h1 l0 10 2 fun v2 =>
 jf_kd h1 v2 6
 (jf_bi (F_Scene_leftOf v2 l1 l2 h1) fun v3 h4 =>
 F_SG_log_b73  v3 h4))
set_option maxRecDepth 100000 in
theorem F_SG_log_b45_ok {d : Nat} {q : JOut} (hd : 2 ≤ d) {l0 : Nat} {l1 : Int32} {l2 : Int32} {l3 : Int32} {s0 : Nat} {s1 : Int32} {h : LH} : F_SG_log_b45 l0 l1 l2 l3 s0 s1 h = some q → JR d jM_139 45 [.ref l0, .int l1, .int l2, .int l3] [.int s1, .ref s0] h q := by
 unfold F_SG_log_b45
 exact jr_cVt 45 48 [] rfl rfl rfl rfl rfl rfl rfl rfl rfl (as := [.int s1]) (F_SG_needArgument_ok (Nat.le_trans (by decide : 1 ≤ 2) hd)) (fun h1 =>
  jr_iloadn 48 49 rfl rfl rfl
  (jr_if_ne 49 64 52 rfl rfl rfl
  (jr_aloadn 64 65 rfl rfl rfl
  (jr_gr 65 68 rfl jg_10_34_2 rfl (fun v2 =>
  jr_iloadn 68 69 rfl rfl rfl
  (jr_iloadn 69 70 rfl rfl rfl
  (jr_cVi 70 73 [] rfl rfl rfl rfl rfl rfl rfl rfl (as := [.int l1, .int l2]) (F_Scene_leftOf_ok (Nat.le_trans (by decide : 1 ≤ 2) hd)) (fun v3 h4 =>
  (F_SG_log_b73_ok hd )))))))
  (jr_aloadn 52 53 rfl rfl rfl
  (jr_gr 53 56 rfl jg_10_34_2 rfl (fun v5 =>
  jr_iloadn 56 57 rfl rfl rfl
  (jr_iloadn 57 58 rfl rfl rfl
  (jr_cVi 58 61 [] rfl rfl rfl rfl rfl rfl rfl rfl (as := [.int l1, .int l2]) (F_Scene_woodOf_ok (Nat.le_trans (by decide : 1 ≤ 2) hd)) (fun v6 h7 =>
  jr_goto 61 73 rfl rfl
  ((F_SG_log_b73_ok hd ))))))))))
noncomputable def F_SG_log_b40 (l0 : Nat) (l1 : Int32) (l2 : Int32) (l3 : Int32) (s0 : Nat) (h : LH) : Option JOut :=
 F_SG_log_b45  l0 l1 l2 l3 s0 (1 : Int32) h
set_option maxRecDepth 100000 in
theorem F_SG_log_b40_ok {d : Nat} {q : JOut} (hd : 2 ≤ d) {l0 : Nat} {l1 : Int32} {l2 : Int32} {l3 : Int32} {s0 : Nat} {h : LH} : F_SG_log_b40 l0 l1 l2 l3 s0 h = some q → JR d jM_139 40 [.ref l0, .int l1, .int l2, .int l3] [.ref s0] h q := by
 unfold F_SG_log_b40
 exact jr_iconst 40 41 (1 : Int32) rfl jc_i_1 rfl
  (jr_goto 41 45 rfl rfl
  ((F_SG_log_b45_ok hd )))
noncomputable def F_SG_log_b27 (l0 : Nat) (l1 : Int32) (l2 : Int32) (l3 : Int32) (s0 : Nat) (s1 : Int32) (h : LH) : Option JOut :=
 jf_kd h s0 10
 (jf_th (F_SG_needElement s0 s1 h) fun h1 =>
 if l3 = 0 then
 F_SG_log_b40  l0 l1 l2 l3 l0 h1
else
 if l3 = (1 : Int32) then
 F_SG_log_b40  l0 l1 l2 l3 l0 h1
else
 F_SG_log_b45  l0 l1 l2 l3 l0 (0 : Int32) h1)
set_option maxRecDepth 100000 in
theorem F_SG_log_b27_ok {d : Nat} {q : JOut} (hd : 2 ≤ d) {l0 : Nat} {l1 : Int32} {l2 : Int32} {l3 : Int32} {s0 : Nat} {s1 : Int32} {h : LH} : F_SG_log_b27 l0 l1 l2 l3 s0 s1 h = some q → JR d jM_139 27 [.ref l0, .int l1, .int l2, .int l3] [.int s1, .ref s0] h q := by
 unfold F_SG_log_b27
 exact jr_cVt 27 30 [] rfl rfl rfl rfl rfl rfl rfl rfl rfl (as := [.int s1]) (F_SG_needElement_ok (Nat.le_trans (by decide : 1 ≤ 2) hd)) (fun h1 =>
  jr_aloadn 30 31 rfl rfl rfl
  (jr_iloadn 31 32 rfl rfl rfl
  (jr_if_eq 32 40 35 rfl rfl rfl
  ((F_SG_log_b40_ok hd ))
  (jr_iloadn 35 36 rfl rfl rfl
  (jr_iconst 36 37 (1 : Int32) rfl jc_i_1 rfl
  (jr_icmp_ne 37 44 40 rfl rfl rfl
  (jr_iconst 44 45 (0 : Int32) rfl jc_i_0 rfl
  ((F_SG_log_b45_ok hd )))
  ((F_SG_log_b40_ok hd ))))))))
noncomputable def F_SG_log_b26 (l0 : Nat) (l1 : Int32) (l2 : Int32) (l3 : Int32) (s0 : Nat) (h : LH) : Option JOut :=
 F_SG_log_b27  l0 l1 l2 l3 s0 (0 : Int32) h
set_option maxRecDepth 100000 in
theorem F_SG_log_b26_ok {d : Nat} {q : JOut} (hd : 2 ≤ d) {l0 : Nat} {l1 : Int32} {l2 : Int32} {l3 : Int32} {s0 : Nat} {h : LH} : F_SG_log_b26 l0 l1 l2 l3 s0 h = some q → JR d jM_139 26 [.ref l0, .int l1, .int l2, .int l3] [.ref s0] h q := by
 unfold F_SG_log_b26
 exact jr_iconst 26 27 (0 : Int32) rfl jc_i_0 rfl
  ((F_SG_log_b27_ok hd ))
noncomputable def F_SG_log (l0 : Nat) (l1 : Int32) (l2 : Int32) (l3 : Int32) (h : LH) : Option JOut :=
 jf_kd h l0 10
 (jf_th (F_SG_needGate l0 l1 h) fun h1 =>
 if l2 < 0 then
 F_SG_log_b26  l0 l1 l2 l3 l0 h1
else
 jf_gr h1 l0 10 2 fun v2 =>
 jf_kd h1 v2 6
 (jf_bi (F_Scene_burning v2 l1 h1) fun v3 h4 =>
 if l2 < v3 then
 F_SG_log_b27  l0 l1 l2 l3 l0 (1 : Int32) h4
else
 F_SG_log_b26  l0 l1 l2 l3 l0 h4))
set_option maxRecDepth 100000 in
theorem F_SG_log_ok {d : Nat} (hd : 3 ≤ d) {l0 : Nat} {l1 : Int32} {l2 : Int32} {l3 : Int32} {h : LH} {q : JOut} : F_SG_log l0 l1 l2 l3 h = some q → jl_Sem jt_T jt_Ms d 139 [.ref l0, .int l1, .int l2, .int l3] h q := by
 unfold F_SG_log
 exact jr_enter (D := 2) hd jM_139_at rfl rfl rfl (fun d hd =>
  jr_aloadn 0 1 rfl rfl rfl
  (jr_iloadn 1 2 rfl rfl rfl
  (jr_cVt 2 5 [] rfl rfl rfl rfl rfl rfl rfl rfl rfl (as := [.int l1]) (F_SG_needGate_ok (Nat.le_trans (by decide : 2 ≤ 2) hd)) (fun h1 =>
  jr_aloadn 5 6 rfl rfl rfl
  (jr_iloadn 6 7 rfl rfl rfl
  (jr_if_lt 7 26 10 rfl rfl rfl
  ((F_SG_log_b26_ok hd ))
  (jr_iloadn 10 11 rfl rfl rfl
  (jr_aloadn 11 12 rfl rfl rfl
  (jr_gr 12 15 rfl jg_10_34_2 rfl (fun v2 =>
  jr_iloadn 15 16 rfl rfl rfl
  (jr_cVi 16 19 [.int l2, .ref l0] rfl rfl rfl rfl rfl rfl rfl rfl (as := [.int l1]) (F_Scene_burning_ok (Nat.le_trans (by decide : 1 ≤ 2) hd)) (fun v3 h4 =>
  jr_icmp_ge 19 26 22 rfl rfl rfl
  ((F_SG_log_b26_ok hd ))
  (jr_iconst 22 23 (1 : Int32) rfl jc_i_1 rfl
  (jr_goto 23 27 rfl rfl
  ((F_SG_log_b27_ok hd ))))))))))))))))
noncomputable def jM_140 : JMeth := (10, false, 2, jk_140, [], 4)
set_option maxRecDepth 100000 in
theorem jM_140_at : jt_Ms 140 = some jM_140 := rfl
noncomputable def F_SG_would_b32 (l0 : Nat) (l1 : Int32) (l2 : Int32) (l3 : Int32) (s0 : Nat) (s1 : Int32) (h : LH) : Option JOut :=
 jf_kd h s0 10
 (jf_th (F_SG_needArgument s0 s1 h) fun h1 =>
 jf_gr h1 l0 10 2 fun v2 =>
 jf_kd h1 v2 6
 (jf_bi (F_Scene_isShutBy v2 l1 l2 l3 h1) fun v3 h4 =>
 jf_rz v3 (some (jo_i (v3, h4)))))
set_option maxRecDepth 100000 in
theorem F_SG_would_b32_ok {d : Nat} {q : JOut} (hd : 3 ≤ d) {l0 : Nat} {l1 : Int32} {l2 : Int32} {l3 : Int32} {s0 : Nat} {s1 : Int32} {h : LH} : F_SG_would_b32 l0 l1 l2 l3 s0 s1 h = some q → JR d jM_140 32 [.ref l0, .int l1, .int l2, .int l3] [.int s1, .ref s0] h q := by
 unfold F_SG_would_b32
 exact jr_cVt 32 35 [] rfl rfl rfl rfl rfl rfl rfl rfl rfl (as := [.int s1]) (F_SG_needArgument_ok (Nat.le_trans (by decide : 1 ≤ 3) hd)) (fun h1 =>
  jr_aloadn 35 36 rfl rfl rfl
  (jr_gr 36 39 rfl jg_10_34_2 rfl (fun v2 =>
  jr_iloadn 39 40 rfl rfl rfl
  (jr_iloadn 40 41 rfl rfl rfl
  (jr_iloadn 41 42 rfl rfl rfl
  (jr_cVi 42 45 [] rfl rfl rfl rfl rfl rfl rfl rfl (as := [.int l1, .int l2, .int l3]) (F_Scene_isShutBy_ok (Nat.le_trans (by decide : 3 ≤ 3) hd)) (fun v3 h4 =>
  jr_rzT 45 rfl rfl)))))))
noncomputable def F_SG_would_b31 (l0 : Nat) (l1 : Int32) (l2 : Int32) (l3 : Int32) (s0 : Nat) (h : LH) : Option JOut :=
 F_SG_would_b32  l0 l1 l2 l3 s0 (0 : Int32) h
set_option maxRecDepth 100000 in
theorem F_SG_would_b31_ok {d : Nat} {q : JOut} (hd : 3 ≤ d) {l0 : Nat} {l1 : Int32} {l2 : Int32} {l3 : Int32} {s0 : Nat} {h : LH} : F_SG_would_b31 l0 l1 l2 l3 s0 h = some q → JR d jM_140 31 [.ref l0, .int l1, .int l2, .int l3] [.ref s0] h q := by
 unfold F_SG_would_b31
 exact jr_iconst 31 32 (0 : Int32) rfl jc_i_0 rfl
  ((F_SG_would_b32_ok hd ))
noncomputable def F_SG_would (l0 : Nat) (l1 : Int32) (l2 : Int32) (l3 : Int32) (h : LH) : Option JOut :=
 jf_kd h l0 10
 (jf_th (F_SG_needGate l0 l1 h) fun h1 =>
 if l2 < 0 then
 F_SG_would_b31  l0 l1 l2 l3 l0 h1
else
 if (999 : Int32) < l2 then
 F_SG_would_b31  l0 l1 l2 l3 l0 h1
else
 if l3 < 0 then
 F_SG_would_b31  l0 l1 l2 l3 l0 h1
else
 if (6 : Int32) < l3 then
 F_SG_would_b31  l0 l1 l2 l3 l0 h1
else
 F_SG_would_b32  l0 l1 l2 l3 l0 (1 : Int32) h1)
set_option maxRecDepth 100000 in
theorem F_SG_would_ok {d : Nat} (hd : 4 ≤ d) {l0 : Nat} {l1 : Int32} {l2 : Int32} {l3 : Int32} {h : LH} {q : JOut} : F_SG_would l0 l1 l2 l3 h = some q → jl_Sem jt_T jt_Ms d 140 [.ref l0, .int l1, .int l2, .int l3] h q := by
 unfold F_SG_would
 exact jr_enter (D := 3) hd jM_140_at rfl rfl rfl (fun d hd =>
  jr_aloadn 0 1 rfl rfl rfl
  (jr_iloadn 1 2 rfl rfl rfl
  (jr_cVt 2 5 [] rfl rfl rfl rfl rfl rfl rfl rfl rfl (as := [.int l1]) (F_SG_needGate_ok (Nat.le_trans (by decide : 2 ≤ 3) hd)) (fun h1 =>
  jr_aloadn 5 6 rfl rfl rfl
  (jr_iloadn 6 7 rfl rfl rfl
  (jr_if_lt 7 31 10 rfl rfl rfl
  ((F_SG_would_b31_ok hd ))
  (jr_iloadn 10 11 rfl rfl rfl
  (jr_sipush 11 14 (999 : Int32) rfl jc_s_999 rfl
  (jr_icmp_gt 14 31 17 rfl rfl rfl
  ((F_SG_would_b31_ok hd ))
  (jr_iloadn 17 18 rfl rfl rfl
  (jr_if_lt 18 31 21 rfl rfl rfl
  ((F_SG_would_b31_ok hd ))
  (jr_iloadn 21 22 rfl rfl rfl
  (jr_bipush 22 24 (6 : Int32) rfl jc_b_6 rfl
  (jr_icmp_gt 24 31 27 rfl rfl rfl
  ((F_SG_would_b31_ok hd ))
  (jr_iconst 27 28 (1 : Int32) rfl jc_i_1 rfl
  (jr_goto 28 32 rfl rfl
  ((F_SG_would_b32_ok hd ))))))))))))))))))
noncomputable def jM_142 : JMeth := (10, false, 0, jk_142, [], 1)
set_option maxRecDepth 100000 in
theorem jM_142_at : jt_Ms 142 = some jM_142 := rfl
noncomputable def F_SG_startTrial (l0 : Nat) (h : LH) : Option LH :=
 jf_gr h l0 10 3 fun v1 =>
 jf_gr h l0 10 2 fun v2 =>
 jf_gr h v2 6 0 fun v3 =>
 jf_kd h v1 6
 ((F_Scene_loadFrom v1 v3 h).bind fun h4 =>
 some h4)
set_option maxRecDepth 100000 in
theorem F_SG_startTrial_ok {d : Nat} (hd : 2 ≤ d) {l0 : Nat} {h : LH} {q : LH} : F_SG_startTrial l0 h = some q → jl_Sem jt_T jt_Ms d 142 [.ref l0] h (jo_v q) := by
 unfold F_SG_startTrial
 exact jr_enter (D := 1) hd jM_142_at rfl rfl rfl (fun d hd =>
  jr_aloadn 0 1 rfl rfl rfl
  (jr_gr 1 4 rfl jg_10_38_2 rfl (fun v1 =>
  jr_aloadn 4 5 rfl rfl rfl
  (jr_gr 5 8 rfl jg_10_34_2 rfl (fun v2 =>
  jr_gr 8 11 rfl jg_10_399_2 rfl (fun v3 =>
  jr_cVv 11 14 [] rfl rfl rfl rfl rfl rfl rfl rfl (as := [.ref v3]) (F_Scene_loadFrom_ok (Nat.le_trans (by decide : 1 ≤ 1) hd)) (fun h4 =>
  jr_rv 14 rfl rfl)))))))
noncomputable def jM_141 : JMeth := (10, false, 1, jk_141, [], 4)
set_option maxRecDepth 100000 in
theorem jM_141_at : jt_Ms 141 = some jM_141 := rfl
noncomputable def F_SG_when_b53 (k29 : Nat → Int32 → Int32 → Int32 → LH → Option JOut) (l0 : Nat) (l1 : Int32) (l2 : Int32) (l3 : Int32) (s0 : Int32) (s1 : Int32) (h : LH) : Option JOut :=
 if s0 = s1 then
 some (jo_i (l3, h))
else
 jf_gr h l0 10 3 fun v1 =>
 jf_kd h v1 6
 ((F_Scene_pass v1 h).bind fun h2 =>
 k29 l0 l1 l2 (l3 + (1 : Int32)) h2)
set_option maxRecDepth 100000 in
theorem F_SG_when_b53_ok {d : Nat} {q : JOut} {k29 : Nat → Int32 → Int32 → Int32 → LH → Option JOut} (hd : 4 ≤ d) (hk29 : ∀ (l0 : Nat) (l1 : Int32) (l2 : Int32) (l3 : Int32) (h : LH), k29 l0 l1 l2 l3 h = some q → JR d jM_141 29 [.ref l0, .int l1, .int l2, .int l3] [] h q) {l0 : Nat} {l1 : Int32} {l2 : Int32} {l3 : Int32} {s0 : Int32} {s1 : Int32} {h : LH} : F_SG_when_b53 k29 l0 l1 l2 l3 s0 s1 h = some q → JR d jM_141 53 [.ref l0, .int l1, .int l2, .int l3] [.int s1, .int s0] h q := by
 unfold F_SG_when_b53
 exact jr_icmp_ne 53 58 56 rfl rfl rfl
  (jr_aloadn 58 59 rfl rfl rfl
  (jr_gr 59 62 rfl jg_10_38_2 rfl (fun v1 =>
  jr_cVv 62 65 [] rfl rfl rfl rfl rfl rfl rfl rfl (as := []) (F_Scene_pass_ok (Nat.le_trans (by decide : 4 ≤ 4) hd)) (fun h2 =>
  jr_iinc 65 68 [.ref l0, .int l1, .int l2, .int (l3 + (1 : Int32))] rfl jc_i_1 rfl rfl rfl rfl
  (jr_goto 68 29 rfl rfl
  ((hk29 _ _ _ _ _)))))))
  (jr_iloadn 56 57 rfl rfl rfl
  (jr_riT 57 rfl rfl))
noncomputable def F_SG_when_c29 (k29 : Nat → Int32 → Int32 → Int32 → LH → Option JOut) (l0 : Nat) (l1 : Int32) (l2 : Int32) (l3 : Int32) (h : LH) : Option JOut :=
 if (48 : Int32) < l3 then
 some (jo_i ((-1 : Int32), h))
else
 jf_gr h l0 10 3 fun v1 =>
 jf_kd h v1 6
 (jf_bi (F_Scene_isShut v1 l1 h) fun v2 h3 =>
 if l2 = (1 : Int32) then
 F_SG_when_b53 k29 l0 l1 l2 l3 v2 (1 : Int32) h3
else
 F_SG_when_b53 k29 l0 l1 l2 l3 v2 (0 : Int32) h3)
set_option maxRecDepth 100000 in
theorem F_SG_when_c29_ok {d : Nat} {q : JOut} {k29 : Nat → Int32 → Int32 → Int32 → LH → Option JOut} (hd : 4 ≤ d) (hk29 : ∀ (l0 : Nat) (l1 : Int32) (l2 : Int32) (l3 : Int32) (h : LH), k29 l0 l1 l2 l3 h = some q → JR d jM_141 29 [.ref l0, .int l1, .int l2, .int l3] [] h q) {l0 : Nat} {l1 : Int32} {l2 : Int32} {l3 : Int32} {h : LH} : F_SG_when_c29 k29 l0 l1 l2 l3 h = some q → JR d jM_141 29 [.ref l0, .int l1, .int l2, .int l3] [] h q := by
 unfold F_SG_when_c29
 exact jr_iloadn 29 30 rfl rfl rfl
  (jr_bipush 30 32 (48 : Int32) rfl jc_b_48 rfl
  (jr_icmp_gt 32 71 35 rfl rfl rfl
  (jr_iconst 71 72 (-1 : Int32) rfl jc_i_m1 rfl
  (jr_riT 72 rfl rfl))
  (jr_aloadn 35 36 rfl rfl rfl
  (jr_gr 36 39 rfl jg_10_38_2 rfl (fun v1 =>
  jr_iloadn 39 40 rfl rfl rfl
  (jr_cVi 40 43 [] rfl rfl rfl rfl rfl rfl rfl rfl (as := [.int l1]) (F_Scene_isShut_ok (Nat.le_trans (by decide : 3 ≤ 4) hd)) (fun v2 h3 =>
  jr_iloadn 43 44 rfl rfl rfl
  (jr_iconst 44 45 (1 : Int32) rfl jc_i_1 rfl
  (jr_icmp_ne 45 52 48 rfl rfl rfl
  (jr_iconst 52 53 (0 : Int32) rfl jc_i_0 rfl
  ((F_SG_when_b53_ok hd hk29)))
  (jr_iconst 48 49 (1 : Int32) rfl jc_i_1 rfl
  (jr_goto 49 53 rfl rfl
  ((F_SG_when_b53_ok hd hk29)))))))))))))
noncomputable def F_SG_when_l29 : Nat → Nat → Int32 → Int32 → Int32 → LH → Option JOut
 | 0, _, _, _, _, _ => none
 | n + 1, l0, l1, l2, l3, h => F_SG_when_c29 (F_SG_when_l29 n) l0 l1 l2 l3 h
theorem F_SG_when_l29_ok {d : Nat} {q : JOut} (hd : 4 ≤ d) : ∀ (n : Nat) (l0 : Nat) (l1 : Int32) (l2 : Int32) (l3 : Int32) (h : LH), F_SG_when_l29 n l0 l1 l2 l3 h = some q → JR d jM_141 29 [.ref l0, .int l1, .int l2, .int l3] [] h q
 | 0 => fun _ _ _ _ _ hq => nomatch (show (none : Option JOut) = some q from hq)
 | n + 1 => fun _ _ _ _ _ hq => F_SG_when_c29_ok hd (F_SG_when_l29_ok hd n) hq
noncomputable def F_SG_when_b20 (l0 : Nat) (l1 : Int32) (l2 : Int32) (s0 : Nat) (s1 : Int32) (h : LH) : Option JOut :=
 jf_kd h s0 10
 (jf_th (F_SG_needArgument s0 s1 h) fun h1 =>
 jf_kd h1 l0 10
 ((F_SG_startTrial l0 h1).bind fun h2 =>
 F_SG_when_l29  jF l0 l1 l2 (0 : Int32) h2))
set_option maxRecDepth 100000 in
theorem F_SG_when_b20_ok {d : Nat} {q : JOut} (hd : 4 ≤ d) {l0 : Nat} {l1 : Int32} {l2 : Int32} {s0 : Nat} {s1 : Int32} {u3 : Value} {h : LH} : F_SG_when_b20 l0 l1 l2 s0 s1 h = some q → JR d jM_141 20 [.ref l0, .int l1, .int l2, u3] [.int s1, .ref s0] h q := by
 unfold F_SG_when_b20
 exact jr_cVt 20 23 [] rfl rfl rfl rfl rfl rfl rfl rfl rfl (as := [.int s1]) (F_SG_needArgument_ok (Nat.le_trans (by decide : 1 ≤ 4) hd)) (fun h1 =>
  jr_aloadn 23 24 rfl rfl rfl
  (jr_cVv 24 27 [] rfl rfl rfl rfl rfl rfl rfl rfl (as := []) (F_SG_startTrial_ok (Nat.le_trans (by decide : 2 ≤ 4) hd)) (fun h2 =>
  jr_iconst 27 28 (0 : Int32) rfl jc_i_0 rfl
  (jr_istoren 28 29 [.ref l0, .int l1, .int l2, .int (0 : Int32)] rfl rfl rfl rfl
  ((F_SG_when_l29_ok hd  jF _ _ _ _ _))))))
noncomputable def F_SG_when_b15 (l0 : Nat) (l1 : Int32) (l2 : Int32) (s0 : Nat) (h : LH) : Option JOut :=
 F_SG_when_b20  l0 l1 l2 s0 (1 : Int32) h
set_option maxRecDepth 100000 in
theorem F_SG_when_b15_ok {d : Nat} {q : JOut} (hd : 4 ≤ d) {l0 : Nat} {l1 : Int32} {l2 : Int32} {s0 : Nat} {u3 : Value} {h : LH} : F_SG_when_b15 l0 l1 l2 s0 h = some q → JR d jM_141 15 [.ref l0, .int l1, .int l2, u3] [.ref s0] h q := by
 unfold F_SG_when_b15
 exact jr_iconst 15 16 (1 : Int32) rfl jc_i_1 rfl
  (jr_goto 16 20 rfl rfl
  ((F_SG_when_b20_ok hd )))
noncomputable def F_SG_when (l0 : Nat) (l1 : Int32) (l2 : Int32) (h : LH) : Option JOut :=
 jf_kd h l0 10
 (jf_th (F_SG_needGate l0 l1 h) fun h1 =>
 if l2 = 0 then
 F_SG_when_b15  l0 l1 l2 l0 h1
else
 if l2 = (1 : Int32) then
 F_SG_when_b15  l0 l1 l2 l0 h1
else
 F_SG_when_b20  l0 l1 l2 l0 (0 : Int32) h1)
set_option maxRecDepth 100000 in
theorem F_SG_when_ok {d : Nat} (hd : 5 ≤ d) {l0 : Nat} {l1 : Int32} {l2 : Int32} {h : LH} {q : JOut} : F_SG_when l0 l1 l2 h = some q → jl_Sem jt_T jt_Ms d 141 [.ref l0, .int l1, .int l2] h q := by
 unfold F_SG_when
 exact jr_enter (D := 4) hd jM_141_at rfl rfl rfl (fun d hd =>
  jr_aloadn 0 1 rfl rfl rfl
  (jr_iloadn 1 2 rfl rfl rfl
  (jr_cVt 2 5 [] rfl rfl rfl rfl rfl rfl rfl rfl rfl (as := [.int l1]) (F_SG_needGate_ok (Nat.le_trans (by decide : 2 ≤ 4) hd)) (fun h1 =>
  jr_aloadn 5 6 rfl rfl rfl
  (jr_iloadn 6 7 rfl rfl rfl
  (jr_if_eq 7 15 10 rfl rfl rfl
  ((F_SG_when_b15_ok hd ))
  (jr_iloadn 10 11 rfl rfl rfl
  (jr_iconst 11 12 (1 : Int32) rfl jc_i_1 rfl
  (jr_icmp_ne 12 19 15 rfl rfl rfl
  (jr_iconst 19 20 (0 : Int32) rfl jc_i_0 rfl
  ((F_SG_when_b20_ok hd )))
  ((F_SG_when_b15_ok hd )))))))))))
noncomputable def jM_143 : JMeth := (10, false, 1, jk_143, [], 5)
set_option maxRecDepth 100000 in
theorem jM_143_at : jt_Ms 143 = some jM_143 := rfl
noncomputable def F_SG_shut_b57 (k33 : Nat → Int32 → Int32 → Int32 → Int32 → LH → Option JOut) (l0 : Nat) (l1 : Int32) (l2 : Int32) (l3 : Int32) (l4 : Int32) (h : LH) : Option JOut :=
 jf_gr h l0 10 3 fun v1 =>
 jf_kd h v1 6
 ((F_Scene_pass v1 h).bind fun h2 =>
 k33 l0 l1 l2 l3 (l4 + (1 : Int32)) h2)
set_option maxRecDepth 100000 in
theorem F_SG_shut_b57_ok {d : Nat} {q : JOut} {k33 : Nat → Int32 → Int32 → Int32 → Int32 → LH → Option JOut} (hd : 4 ≤ d) (hk33 : ∀ (l0 : Nat) (l1 : Int32) (l2 : Int32) (l3 : Int32) (l4 : Int32) (h : LH), k33 l0 l1 l2 l3 l4 h = some q → JR d jM_143 33 [.ref l0, .int l1, .int l2, .int l3, .int l4] [] h q) {l0 : Nat} {l1 : Int32} {l2 : Int32} {l3 : Int32} {l4 : Int32} {h : LH} : F_SG_shut_b57 k33 l0 l1 l2 l3 l4 h = some q → JR d jM_143 57 [.ref l0, .int l1, .int l2, .int l3, .int l4] [] h q := by
 unfold F_SG_shut_b57
 exact jr_aloadn 57 58 rfl rfl rfl
  (jr_gr 58 61 rfl jg_10_38_2 rfl (fun v1 =>
  jr_cVv 61 64 [] rfl rfl rfl rfl rfl rfl rfl rfl (as := []) (F_Scene_pass_ok (Nat.le_trans (by decide : 4 ≤ 4) hd)) (fun h2 =>
  jr_iinc 64 67 [.ref l0, .int l1, .int l2, .int l3, .int (l4 + (1 : Int32))] rfl jc_i_1 rfl rfl rfl rfl
  (jr_goto 67 33 rfl rfl
  ((hk33 _ _ _ _ _ _))))))
noncomputable def F_SG_shut_c33 (k33 : Nat → Int32 → Int32 → Int32 → Int32 → LH → Option JOut) (l0 : Nat) (l1 : Int32) (l2 : Int32) (l3 : Int32) (l4 : Int32) (h : LH) : Option JOut :=
 if l4 < l2 then
 jf_gr h l0 10 3 fun v1 =>
 jf_kd h v1 6
 (jf_bi (F_Scene_isShut v1 l1 h) fun v2 h3 =>
 if v2 = 0 then
 F_SG_shut_b57 k33 l0 l1 l2 l3 l4 h3
else
 jf_let (l3 ||| ((1 : Int32) <<< (l4 &&& 31))) fun v4 =>
 F_SG_shut_b57 k33 l0 l1 l2 v4 l4 h3)
else
 some (jo_i (l3, h))
set_option maxRecDepth 100000 in
theorem F_SG_shut_c33_ok {d : Nat} {q : JOut} {k33 : Nat → Int32 → Int32 → Int32 → Int32 → LH → Option JOut} (hd : 4 ≤ d) (hk33 : ∀ (l0 : Nat) (l1 : Int32) (l2 : Int32) (l3 : Int32) (l4 : Int32) (h : LH), k33 l0 l1 l2 l3 l4 h = some q → JR d jM_143 33 [.ref l0, .int l1, .int l2, .int l3, .int l4] [] h q) {l0 : Nat} {l1 : Int32} {l2 : Int32} {l3 : Int32} {l4 : Int32} {h : LH} : F_SG_shut_c33 k33 l0 l1 l2 l3 l4 h = some q → JR d jM_143 33 [.ref l0, .int l1, .int l2, .int l3, .int l4] [] h q := by
 unfold F_SG_shut_c33
 exact jr_iload 33 35 rfl rfl rfl
  (jr_iloadn 35 36 rfl rfl rfl
  (jr_icmp_ge 36 70 39 rfl rfl rfl
  (jr_iloadn 70 71 rfl rfl rfl
  (jr_riT 71 rfl rfl))
  (jr_aloadn 39 40 rfl rfl rfl
  (jr_gr 40 43 rfl jg_10_38_2 rfl (fun v1 =>
  jr_iloadn 43 44 rfl rfl rfl
  (jr_cVi 44 47 [] rfl rfl rfl rfl rfl rfl rfl rfl (as := [.int l1]) (F_Scene_isShut_ok (Nat.le_trans (by decide : 3 ≤ 4) hd)) (fun v2 h3 =>
  jr_if_eq 47 57 50 rfl rfl rfl
  ((F_SG_shut_b57_ok hd hk33))
  (jr_iloadn 50 51 rfl rfl rfl
  (jr_iconst 51 52 (1 : Int32) rfl jc_i_1 rfl
  (jr_iload 52 54 rfl rfl rfl
  (jr_ishl 54 55 rfl rfl
  (jr_ior 55 56 rfl rfl
  (jr_istorenL 56 57 (fun v4 => [.ref l0, .int l1, .int l2, .int v4, .int l4]) rfl rfl (fun _ => rfl) rfl (fun v4 =>
  (F_SG_shut_b57_ok hd hk33)))))))))))))))
noncomputable def F_SG_shut_l33 : Nat → Nat → Int32 → Int32 → Int32 → Int32 → LH → Option JOut
 | 0, _, _, _, _, _, _ => none
 | n + 1, l0, l1, l2, l3, l4, h => F_SG_shut_c33 (F_SG_shut_l33 n) l0 l1 l2 l3 l4 h
theorem F_SG_shut_l33_ok {d : Nat} {q : JOut} (hd : 4 ≤ d) : ∀ (n : Nat) (l0 : Nat) (l1 : Int32) (l2 : Int32) (l3 : Int32) (l4 : Int32) (h : LH), F_SG_shut_l33 n l0 l1 l2 l3 l4 h = some q → JR d jM_143 33 [.ref l0, .int l1, .int l2, .int l3, .int l4] [] h q
 | 0 => fun _ _ _ _ _ _ hq => nomatch (show (none : Option JOut) = some q from hq)
 | n + 1 => fun _ _ _ _ _ _ hq => F_SG_shut_c33_ok hd (F_SG_shut_l33_ok hd n) hq
noncomputable def F_SG_shut_b21 (l0 : Nat) (l1 : Int32) (l2 : Int32) (s0 : Nat) (s1 : Int32) (h : LH) : Option JOut :=
 jf_kd h s0 10
 (jf_th (F_SG_needArgument s0 s1 h) fun h1 =>
 jf_kd h1 l0 10
 ((F_SG_startTrial l0 h1).bind fun h2 =>
 F_SG_shut_l33  jF l0 l1 l2 (0 : Int32) (0 : Int32) h2))
set_option maxRecDepth 100000 in
theorem F_SG_shut_b21_ok {d : Nat} {q : JOut} (hd : 4 ≤ d) {l0 : Nat} {l1 : Int32} {l2 : Int32} {s0 : Nat} {s1 : Int32} {u3 : Value} {u4 : Value} {h : LH} : F_SG_shut_b21 l0 l1 l2 s0 s1 h = some q → JR d jM_143 21 [.ref l0, .int l1, .int l2, u3, u4] [.int s1, .ref s0] h q := by
 unfold F_SG_shut_b21
 exact jr_cVt 21 24 [] rfl rfl rfl rfl rfl rfl rfl rfl rfl (as := [.int s1]) (F_SG_needArgument_ok (Nat.le_trans (by decide : 1 ≤ 4) hd)) (fun h1 =>
  jr_aloadn 24 25 rfl rfl rfl
  (jr_cVv 25 28 [] rfl rfl rfl rfl rfl rfl rfl rfl (as := []) (F_SG_startTrial_ok (Nat.le_trans (by decide : 2 ≤ 4) hd)) (fun h2 =>
  jr_iconst 28 29 (0 : Int32) rfl jc_i_0 rfl
  (jr_istoren 29 30 [.ref l0, .int l1, .int l2, .int (0 : Int32), u4] rfl rfl rfl rfl
  (jr_iconst 30 31 (0 : Int32) rfl jc_i_0 rfl
  (jr_istore 31 33 [.ref l0, .int l1, .int l2, .int (0 : Int32), .int (0 : Int32)] rfl rfl rfl rfl
  ((F_SG_shut_l33_ok hd  jF _ _ _ _ _ _))))))))
noncomputable def F_SG_shut_b20 (l0 : Nat) (l1 : Int32) (l2 : Int32) (s0 : Nat) (h : LH) : Option JOut :=
 F_SG_shut_b21  l0 l1 l2 s0 (0 : Int32) h
set_option maxRecDepth 100000 in
theorem F_SG_shut_b20_ok {d : Nat} {q : JOut} (hd : 4 ≤ d) {l0 : Nat} {l1 : Int32} {l2 : Int32} {s0 : Nat} {u3 : Value} {u4 : Value} {h : LH} : F_SG_shut_b20 l0 l1 l2 s0 h = some q → JR d jM_143 20 [.ref l0, .int l1, .int l2, u3, u4] [.ref s0] h q := by
 unfold F_SG_shut_b20
 exact jr_iconst 20 21 (0 : Int32) rfl jc_i_0 rfl
  ((F_SG_shut_b21_ok hd ))
noncomputable def F_SG_shut (l0 : Nat) (l1 : Int32) (l2 : Int32) (h : LH) : Option JOut :=
 jf_kd h l0 10
 (jf_th (F_SG_needGate l0 l1 h) fun h1 =>
 if l2 < 0 then
 F_SG_shut_b20  l0 l1 l2 l0 h1
else
 if (30 : Int32) < l2 then
 F_SG_shut_b20  l0 l1 l2 l0 h1
else
 F_SG_shut_b21  l0 l1 l2 l0 (1 : Int32) h1)
set_option maxRecDepth 100000 in
theorem F_SG_shut_ok {d : Nat} (hd : 5 ≤ d) {l0 : Nat} {l1 : Int32} {l2 : Int32} {h : LH} {q : JOut} : F_SG_shut l0 l1 l2 h = some q → jl_Sem jt_T jt_Ms d 143 [.ref l0, .int l1, .int l2] h q := by
 unfold F_SG_shut
 exact jr_enter (D := 4) hd jM_143_at rfl rfl rfl (fun d hd =>
  jr_aloadn 0 1 rfl rfl rfl
  (jr_iloadn 1 2 rfl rfl rfl
  (jr_cVt 2 5 [] rfl rfl rfl rfl rfl rfl rfl rfl rfl (as := [.int l1]) (F_SG_needGate_ok (Nat.le_trans (by decide : 2 ≤ 4) hd)) (fun h1 =>
  jr_aloadn 5 6 rfl rfl rfl
  (jr_iloadn 6 7 rfl rfl rfl
  (jr_if_lt 7 20 10 rfl rfl rfl
  ((F_SG_shut_b20_ok hd ))
  (jr_iloadn 10 11 rfl rfl rfl
  (jr_bipush 11 13 (30 : Int32) rfl jc_b_30 rfl
  (jr_icmp_gt 13 20 16 rfl rfl rfl
  ((F_SG_shut_b20_ok hd ))
  (jr_iconst 16 17 (1 : Int32) rfl jc_i_1 rfl
  (jr_goto 17 21 rfl rfl
  ((F_SG_shut_b21_ok hd )))))))))))))
noncomputable def jM_144 : JMeth := (10, false, 1, jk_144, [], 6)
set_option maxRecDepth 100000 in
theorem jM_144_at : jt_Ms 144 = some jM_144 := rfl
noncomputable def F_SG_keeps_b99 (s0 : Int32) (h : LH) : Option JOut :=
 some (jo_i (s0, h))
set_option maxRecDepth 100000 in
theorem F_SG_keeps_b99_ok {d : Nat} {q : JOut} (hd : 101 ≤ d) {s0 : Int32} {u0 : Value} {u1 : Value} {u2 : Value} {u3 : Value} {u4 : Value} {u5 : Value} {h : LH} : F_SG_keeps_b99 s0 h = some q → JR d jM_144 99 [u0, u1, u2, u3, u4, u5] [.int s0] h q := by
 unfold F_SG_keeps_b99
 exact jr_riT 99 rfl rfl
noncomputable def F_SG_keeps_b58 (l0 : Nat) (l1 : Int32) (l2 : Int32) (l3 : Int32) (l4 : Int32) (l5 : Int32) (s0 : Nat) (s1 : Int32) (h : LH) : Option JOut :=
 jf_kd h s0 10
 (jf_th (F_SG_needArgument s0 s1 h) fun h1 =>
 jf_kd h1 l0 10
 ((F_SG_startTrial l0 h1).bind fun h2 =>
 jf_gr h2 l0 10 4 fun v3 =>
 jf_kd h2 v3 3
 ((F_Keep_search v3 l1 l2 l3 l4 h2).bind fun h4 =>
 if l5 = 0 then
 jf_gr h4 l0 10 4 fun v7 =>
 jf_gi h4 v7 3 6 fun v8 =>
 F_SG_keeps_b99  v8 h4
else
 jf_gr h4 l0 10 4 fun v5 =>
 jf_gi h4 v5 3 7 fun v6 =>
 F_SG_keeps_b99  v6 h4)))
set_option maxRecDepth 100000 in
theorem F_SG_keeps_b58_ok {d : Nat} {q : JOut} (hd : 101 ≤ d) {l0 : Nat} {l1 : Int32} {l2 : Int32} {l3 : Int32} {l4 : Int32} {l5 : Int32} {s0 : Nat} {s1 : Int32} {h : LH} : F_SG_keeps_b58 l0 l1 l2 l3 l4 l5 s0 s1 h = some q → JR d jM_144 58 [.ref l0, .int l1, .int l2, .int l3, .int l4, .int l5] [.int s1, .ref s0] h q := by
 unfold F_SG_keeps_b58
 exact jr_cVt 58 61 [] rfl rfl rfl rfl rfl rfl rfl rfl rfl (as := [.int s1]) (F_SG_needArgument_ok (Nat.le_trans (by decide : 1 ≤ 101) hd)) (fun h1 =>
  jr_aloadn 61 62 rfl rfl rfl
  (jr_cVv 62 65 [] rfl rfl rfl rfl rfl rfl rfl rfl (as := []) (F_SG_startTrial_ok (Nat.le_trans (by decide : 2 ≤ 101) hd)) (fun h2 =>
  jr_aloadn 65 66 rfl rfl rfl
  (jr_gr 66 69 rfl jg_10_46_2 rfl (fun v3 =>
  jr_iloadn 69 70 rfl rfl rfl
  (jr_iloadn 70 71 rfl rfl rfl
  (jr_iloadn 71 72 rfl rfl rfl
  (jr_iload 72 74 rfl rfl rfl
  (jr_cVv 74 77 [] rfl rfl rfl rfl rfl rfl rfl rfl (as := [.int l1, .int l2, .int l3, .int l4]) (F_Keep_search_ok (Nat.le_trans (by decide : 101 ≤ 101) hd)) (fun h4 =>
  jr_iload 77 79 rfl rfl rfl
  (jr_if_ne 79 92 82 rfl rfl rfl
  (jr_aloadn 92 93 rfl rfl rfl
  (jr_gr 93 96 rfl jg_10_46_2 rfl (fun v5 =>
  jr_gi 96 99 rfl jg_10_281_1 rfl (fun v6 =>
  (F_SG_keeps_b99_ok hd )))))
  (jr_aloadn 82 83 rfl rfl rfl
  (jr_gr 83 86 rfl jg_10_46_2 rfl (fun v7 =>
  jr_gi 86 89 rfl jg_10_278_1 rfl (fun v8 =>
  jr_goto 89 99 rfl rfl
  ((F_SG_keeps_b99_ok hd )))))))))))))))))
noncomputable def F_SG_keeps_b57 (l0 : Nat) (l1 : Int32) (l2 : Int32) (l3 : Int32) (l4 : Int32) (l5 : Int32) (s0 : Nat) (h : LH) : Option JOut :=
 F_SG_keeps_b58  l0 l1 l2 l3 l4 l5 s0 (0 : Int32) h
set_option maxRecDepth 100000 in
theorem F_SG_keeps_b57_ok {d : Nat} {q : JOut} (hd : 101 ≤ d) {l0 : Nat} {l1 : Int32} {l2 : Int32} {l3 : Int32} {l4 : Int32} {l5 : Int32} {s0 : Nat} {h : LH} : F_SG_keeps_b57 l0 l1 l2 l3 l4 l5 s0 h = some q → JR d jM_144 57 [.ref l0, .int l1, .int l2, .int l3, .int l4, .int l5] [.ref s0] h q := by
 unfold F_SG_keeps_b57
 exact jr_iconst 57 58 (0 : Int32) rfl jc_i_0 rfl
  ((F_SG_keeps_b58_ok hd ))
noncomputable def F_SG_keeps_b53 (l0 : Nat) (l1 : Int32) (l2 : Int32) (l3 : Int32) (l4 : Int32) (l5 : Int32) (s0 : Nat) (h : LH) : Option JOut :=
 F_SG_keeps_b58  l0 l1 l2 l3 l4 l5 s0 (1 : Int32) h
set_option maxRecDepth 100000 in
theorem F_SG_keeps_b53_ok {d : Nat} {q : JOut} (hd : 101 ≤ d) {l0 : Nat} {l1 : Int32} {l2 : Int32} {l3 : Int32} {l4 : Int32} {l5 : Int32} {s0 : Nat} {h : LH} : F_SG_keeps_b53 l0 l1 l2 l3 l4 l5 s0 h = some q → JR d jM_144 53 [.ref l0, .int l1, .int l2, .int l3, .int l4, .int l5] [.ref s0] h q := by
 unfold F_SG_keeps_b53
 exact jr_iconst 53 54 (1 : Int32) rfl jc_i_1 rfl
  (jr_goto 54 58 rfl rfl
  ((F_SG_keeps_b58_ok hd )))
noncomputable def F_SG_keeps_b25 (l0 : Nat) (l1 : Int32) (l2 : Int32) (l3 : Int32) (l4 : Int32) (l5 : Int32) (s0 : Nat) (s1 : Int32) (h : LH) : Option JOut :=
 jf_kd h s0 10
 (jf_th (F_SG_needArgument s0 s1 h) fun h1 =>
 if l4 < 0 then
 F_SG_keeps_b57  l0 l1 l2 l3 l4 l5 l0 h1
else
 if l4 < ((1 : Int32) <<< (l3 &&& 31)) then
 if l5 = 0 then
 F_SG_keeps_b53  l0 l1 l2 l3 l4 l5 l0 h1
else
 if l5 = (1 : Int32) then
 F_SG_keeps_b53  l0 l1 l2 l3 l4 l5 l0 h1
else
 F_SG_keeps_b57  l0 l1 l2 l3 l4 l5 l0 h1
else
 F_SG_keeps_b57  l0 l1 l2 l3 l4 l5 l0 h1)
set_option maxRecDepth 100000 in
theorem F_SG_keeps_b25_ok {d : Nat} {q : JOut} (hd : 101 ≤ d) {l0 : Nat} {l1 : Int32} {l2 : Int32} {l3 : Int32} {l4 : Int32} {l5 : Int32} {s0 : Nat} {s1 : Int32} {h : LH} : F_SG_keeps_b25 l0 l1 l2 l3 l4 l5 s0 s1 h = some q → JR d jM_144 25 [.ref l0, .int l1, .int l2, .int l3, .int l4, .int l5] [.int s1, .ref s0] h q := by
 unfold F_SG_keeps_b25
 exact jr_cVt 25 28 [] rfl rfl rfl rfl rfl rfl rfl rfl rfl (as := [.int s1]) (F_SG_needArgument_ok (Nat.le_trans (by decide : 1 ≤ 101) hd)) (fun h1 =>
  jr_aloadn 28 29 rfl rfl rfl
  (jr_iload 29 31 rfl rfl rfl
  (jr_if_lt 31 57 34 rfl rfl rfl
  ((F_SG_keeps_b57_ok hd ))
  (jr_iload 34 36 rfl rfl rfl
  (jr_iconst 36 37 (1 : Int32) rfl jc_i_1 rfl
  (jr_iloadn 37 38 rfl rfl rfl
  (jr_ishl 38 39 rfl rfl
  (jr_icmp_ge 39 57 42 rfl rfl rfl
  ((F_SG_keeps_b57_ok hd ))
  (jr_iload 42 44 rfl rfl rfl
  (jr_if_eq 44 53 47 rfl rfl rfl
  ((F_SG_keeps_b53_ok hd ))
  (jr_iload 47 49 rfl rfl rfl
  (jr_iconst 49 50 (1 : Int32) rfl jc_i_1 rfl
  (jr_icmp_ne 50 57 53 rfl rfl rfl
  ((F_SG_keeps_b57_ok hd ))
  ((F_SG_keeps_b53_ok hd )))))))))))))))
noncomputable def F_SG_keeps_b24 (l0 : Nat) (l1 : Int32) (l2 : Int32) (l3 : Int32) (l4 : Int32) (l5 : Int32) (s0 : Nat) (h : LH) : Option JOut :=
 F_SG_keeps_b25  l0 l1 l2 l3 l4 l5 s0 (0 : Int32) h
set_option maxRecDepth 100000 in
theorem F_SG_keeps_b24_ok {d : Nat} {q : JOut} (hd : 101 ≤ d) {l0 : Nat} {l1 : Int32} {l2 : Int32} {l3 : Int32} {l4 : Int32} {l5 : Int32} {s0 : Nat} {h : LH} : F_SG_keeps_b24 l0 l1 l2 l3 l4 l5 s0 h = some q → JR d jM_144 24 [.ref l0, .int l1, .int l2, .int l3, .int l4, .int l5] [.ref s0] h q := by
 unfold F_SG_keeps_b24
 exact jr_iconst 24 25 (0 : Int32) rfl jc_i_0 rfl
  ((F_SG_keeps_b25_ok hd ))
noncomputable def F_SG_keeps (l0 : Nat) (l1 : Int32) (l2 : Int32) (l3 : Int32) (l4 : Int32) (l5 : Int32) (h : LH) : Option JOut :=
 jf_kd h l0 10
 (jf_th (F_SG_needGate l0 l1 h) fun h1 =>
 jf_kd h1 l0 10
 (jf_th (F_SG_needWood l0 l2 h1) fun h2 =>
 if l3 < 0 then
 F_SG_keeps_b24  l0 l1 l2 l3 l4 l5 l0 h2
else
 if (5 : Int32) < l3 then
 F_SG_keeps_b24  l0 l1 l2 l3 l4 l5 l0 h2
else
 F_SG_keeps_b25  l0 l1 l2 l3 l4 l5 l0 (1 : Int32) h2))
set_option maxRecDepth 100000 in
theorem F_SG_keeps_ok {d : Nat} (hd : 102 ≤ d) {l0 : Nat} {l1 : Int32} {l2 : Int32} {l3 : Int32} {l4 : Int32} {l5 : Int32} {h : LH} {q : JOut} : F_SG_keeps l0 l1 l2 l3 l4 l5 h = some q → jl_Sem jt_T jt_Ms d 144 [.ref l0, .int l1, .int l2, .int l3, .int l4, .int l5] h q := by
 unfold F_SG_keeps
 exact jr_enter (D := 101) hd jM_144_at rfl rfl rfl (fun d hd =>
  jr_aloadn 0 1 rfl rfl rfl
  (jr_iloadn 1 2 rfl rfl rfl
  (jr_cVt 2 5 [] rfl rfl rfl rfl rfl rfl rfl rfl rfl (as := [.int l1]) (F_SG_needGate_ok (Nat.le_trans (by decide : 2 ≤ 101) hd)) (fun h1 =>
  jr_aloadn 5 6 rfl rfl rfl
  (jr_iloadn 6 7 rfl rfl rfl
  (jr_cVt 7 10 [] rfl rfl rfl rfl rfl rfl rfl rfl rfl (as := [.int l2]) (F_SG_needWood_ok (Nat.le_trans (by decide : 2 ≤ 101) hd)) (fun h2 =>
  jr_aloadn 10 11 rfl rfl rfl
  (jr_iloadn 11 12 rfl rfl rfl
  (jr_if_lt 12 24 15 rfl rfl rfl
  ((F_SG_keeps_b24_ok hd ))
  (jr_iloadn 15 16 rfl rfl rfl
  (jr_iconst 16 17 (5 : Int32) rfl jc_i_5 rfl
  (jr_icmp_gt 17 24 20 rfl rfl rfl
  ((F_SG_keeps_b24_ok hd ))
  (jr_iconst 20 21 (1 : Int32) rfl jc_i_1 rfl
  (jr_goto 21 25 rfl rfl
  ((F_SG_keeps_b25_ok hd ))))))))))))))))
noncomputable def jM_146 : JMeth := (10, false, 1, jk_146, [], 6)
set_option maxRecDepth 100000 in
theorem jM_146_at : jt_Ms 146 = some jM_146 := rfl
noncomputable def F_SG_openGateWithin_b57 (k14 : Nat → Int32 → Int32 → Int32 → Int32 → LH → Option (Int32 × LH)) (l0 : Nat) (l1 : Int32) (l2 : Int32) (l3 : Int32) (l4 : Int32) (h : LH) : Option (Int32 × LH) :=
 k14 l0 l1 l2 l3 (l4 + (1 : Int32)) h
set_option maxRecDepth 100000 in
theorem F_SG_openGateWithin_b57_ok {d : Nat} {q : (Int32 × LH)} {k14 : Nat → Int32 → Int32 → Int32 → Int32 → LH → Option (Int32 × LH)} (hd : 3 ≤ d) (hk14 : ∀ (l0 : Nat) (l1 : Int32) (l2 : Int32) (l3 : Int32) (l4 : Int32) (u5 : Value) (h : LH), k14 l0 l1 l2 l3 l4 h = some q → JR d jM_146 14 [.ref l0, .int l1, .int l2, .int l3, .int l4, u5] [] h (jo_i q)) {l0 : Nat} {l1 : Int32} {l2 : Int32} {l3 : Int32} {l4 : Int32} {u5 : Value} {h : LH} : F_SG_openGateWithin_b57 k14 l0 l1 l2 l3 l4 h = some q → JR d jM_146 57 [.ref l0, .int l1, .int l2, .int l3, .int l4, u5] [] h (jo_i q) := by
 unfold F_SG_openGateWithin_b57
 exact jr_iinc 57 60 [.ref l0, .int l1, .int l2, .int l3, .int (l4 + (1 : Int32)), u5] rfl jc_i_1 rfl rfl rfl rfl
  (jr_goto 60 14 rfl rfl
  ((hk14 _ _ _ _ _ _ _)))
noncomputable def F_SG_openGateWithin_c14 (k14 : Nat → Int32 → Int32 → Int32 → Int32 → LH → Option (Int32 × LH)) (l0 : Nat) (l1 : Int32) (l2 : Int32) (l3 : Int32) (l4 : Int32) (h : LH) : Option (Int32 × LH) :=
 if l4 < l3 then
 jf_let (if 0 ≤ (l4 - l1) then (l4 - l1) else 0 - (l4 - l1)) fun v1 =>
 if l2 < (if (l3 - v1) < v1 then (l3 - v1) else v1) then
 F_SG_openGateWithin_b57 k14 l0 l1 l2 l3 l4 h
else
 jf_gr h l0 10 3 fun v2 =>
 jf_kd h v2 6
 (jf_bi (F_Scene_isShut v2 l4 h) fun v3 h4 =>
 if v3 = 0 then
 some (l4, h4)
else
 F_SG_openGateWithin_b57 k14 l0 l1 l2 l3 l4 h4)
else
 some ((-1 : Int32), h)
set_option maxRecDepth 100000 in
theorem F_SG_openGateWithin_c14_ok {d : Nat} {q : (Int32 × LH)} {k14 : Nat → Int32 → Int32 → Int32 → Int32 → LH → Option (Int32 × LH)} (hd : 3 ≤ d) (hk14 : ∀ (l0 : Nat) (l1 : Int32) (l2 : Int32) (l3 : Int32) (l4 : Int32) (u5 : Value) (h : LH), k14 l0 l1 l2 l3 l4 h = some q → JR d jM_146 14 [.ref l0, .int l1, .int l2, .int l3, .int l4, u5] [] h (jo_i q)) {l0 : Nat} {l1 : Int32} {l2 : Int32} {l3 : Int32} {l4 : Int32} {u5 : Value} {h : LH} : F_SG_openGateWithin_c14 k14 l0 l1 l2 l3 l4 h = some q → JR d jM_146 14 [.ref l0, .int l1, .int l2, .int l3, .int l4, u5] [] h (jo_i q) := by
 unfold F_SG_openGateWithin_c14
 exact jr_iload 14 16 rfl rfl rfl
  (jr_iloadn 16 17 rfl rfl rfl
  (jr_icmp_ge 17 63 20 rfl rfl rfl
  (jr_iconst 63 64 (-1 : Int32) rfl jc_i_m1 rfl
  (jr_ri 64 rfl rfl))
  (jr_iload 20 22 rfl rfl rfl
  (jr_iloadn 22 23 rfl rfl rfl
  (jr_isub 23 24 rfl rfl
  (jr_abs 24 27 rfl rfl rfl rfl
  (jr_istoreL 27 29 (fun v1 => [.ref l0, .int l1, .int l2, .int l3, .int l4, .int v1]) rfl rfl (fun _ => rfl) rfl (fun v1 =>
  jr_iload 29 31 rfl rfl rfl
  (jr_iloadn 31 32 rfl rfl rfl
  (jr_iload 32 34 rfl rfl rfl
  (jr_isub 34 35 rfl rfl
  (jr_min 35 38 rfl rfl rfl rfl
  (jr_iloadn 38 39 rfl rfl rfl
  (jr_icmp_gt 39 57 42 rfl rfl rfl
  ((F_SG_openGateWithin_b57_ok hd hk14))
  (jr_aloadn 42 43 rfl rfl rfl
  (jr_gr 43 46 rfl jg_10_38_2 rfl (fun v2 =>
  jr_iload 46 48 rfl rfl rfl
  (jr_cVi 48 51 [] rfl rfl rfl rfl rfl rfl rfl rfl (as := [.int l4]) (F_Scene_isShut_ok (Nat.le_trans (by decide : 3 ≤ 3) hd)) (fun v3 h4 =>
  jr_if_ne 51 57 54 rfl rfl rfl
  ((F_SG_openGateWithin_b57_ok hd hk14))
  (jr_iload 54 56 rfl rfl rfl
  (jr_ri 56 rfl rfl)))))))))))))))))))))
noncomputable def F_SG_openGateWithin_l14 : Nat → Nat → Int32 → Int32 → Int32 → Int32 → LH → Option (Int32 × LH)
 | 0, _, _, _, _, _, _ => none
 | n + 1, l0, l1, l2, l3, l4, h => F_SG_openGateWithin_c14 (F_SG_openGateWithin_l14 n) l0 l1 l2 l3 l4 h
theorem F_SG_openGateWithin_l14_ok {d : Nat} {q : (Int32 × LH)} (hd : 3 ≤ d) : ∀ (n : Nat) (l0 : Nat) (l1 : Int32) (l2 : Int32) (l3 : Int32) (l4 : Int32) (u5 : Value) (h : LH), F_SG_openGateWithin_l14 n l0 l1 l2 l3 l4 h = some q → JR d jM_146 14 [.ref l0, .int l1, .int l2, .int l3, .int l4, u5] [] h (jo_i q)
 | 0 => fun _ _ _ _ _ _ _ hq => nomatch (show (none : Option (Int32 × LH)) = some q from hq)
 | n + 1 => fun _ _ _ _ _ _ _ hq => F_SG_openGateWithin_c14_ok hd (F_SG_openGateWithin_l14_ok hd n) hq
noncomputable def F_SG_openGateWithin (l0 : Nat) (l1 : Int32) (l2 : Int32) (h : LH) : Option (Int32 × LH) :=
 jf_gr h l0 10 2 fun v1 =>
 jf_gr h v1 6 1 fun v2 =>
 jf_gi h v2 8 0 fun v3 =>
 F_SG_openGateWithin_l14  jF l0 l1 l2 v3 (0 : Int32) h
set_option maxRecDepth 100000 in
theorem F_SG_openGateWithin_ok {d : Nat} (hd : 4 ≤ d) {l0 : Nat} {l1 : Int32} {l2 : Int32} {h : LH} {q : (Int32 × LH)} : F_SG_openGateWithin l0 l1 l2 h = some q → jl_Sem jt_T jt_Ms d 146 [.ref l0, .int l1, .int l2] h (jo_i q) := by
 unfold F_SG_openGateWithin
 exact jr_enter (D := 3) hd jM_146_at rfl rfl rfl (fun d hd =>
  jr_aloadn 0 1 rfl rfl rfl
  (jr_gr 1 4 rfl jg_10_34_2 rfl (fun v1 =>
  jr_gr 4 7 rfl jg_10_120_2 rfl (fun v2 =>
  jr_gi 7 10 rfl jg_10_144_1 rfl (fun v3 =>
  jr_istoren 10 11 [.ref l0, .int l1, .int l2, .int v3, .retAddr 0, .retAddr 0] rfl rfl rfl rfl
  (jr_iconst 11 12 (0 : Int32) rfl jc_i_0 rfl
  (jr_istore 12 14 [.ref l0, .int l1, .int l2, .int v3, .int (0 : Int32), .retAddr 0] rfl rfl rfl rfl
  ((F_SG_openGateWithin_l14_ok hd  jF _ _ _ _ _ _ _)))))))))
noncomputable def jM_145 : JMeth := (10, false, 1, jk_145, [], 5)
set_option maxRecDepth 100000 in
theorem jM_145_at : jt_Ms 145 = some jM_145 := rfl
noncomputable def F_SG_thief_b59 (s0 : Int32) (h : LH) : Option JOut :=
 some (jo_i (s0, h))
set_option maxRecDepth 100000 in
theorem F_SG_thief_b59_ok {d : Nat} {q : JOut} (hd : 4 ≤ d) {s0 : Int32} {u0 : Value} {u1 : Value} {u2 : Value} {u3 : Value} {u4 : Value} {h : LH} : F_SG_thief_b59 s0 h = some q → JR d jM_145 59 [u0, u1, u2, u3, u4] [.int s0] h q := by
 unfold F_SG_thief_b59
 exact jr_riT 59 rfl rfl
noncomputable def F_SG_thief_c29 (k29 : Nat → Int32 → Int32 → Int32 → LH → Option JOut) (l0 : Nat) (l1 : Int32) (l2 : Int32) (l3 : Int32) (h : LH) : Option JOut :=
 if l3 < (48 : Int32) then
 jf_kd h l0 10
 (jf_bi (F_SG_openGateWithin l0 l1 l3 h) fun v1 h2 =>
 if v1 = (-1 : Int32) then
 jf_gr h2 l0 10 3 fun v3 =>
 jf_kd h2 v3 6
 ((F_Scene_pass v3 h2).bind fun h4 =>
 k29 l0 l1 l2 (l3 + (1 : Int32)) h4)
else
 if l2 = 0 then
 F_SG_thief_b59  l3 h2
else
 F_SG_thief_b59  v1 h2)
else
 some (jo_i ((-1 : Int32), h))
set_option maxRecDepth 100000 in
theorem F_SG_thief_c29_ok {d : Nat} {q : JOut} {k29 : Nat → Int32 → Int32 → Int32 → LH → Option JOut} (hd : 4 ≤ d) (hk29 : ∀ (l0 : Nat) (l1 : Int32) (l2 : Int32) (l3 : Int32) (u4 : Value) (h : LH), k29 l0 l1 l2 l3 h = some q → JR d jM_145 29 [.ref l0, .int l1, .int l2, .int l3, u4] [] h q) {l0 : Nat} {l1 : Int32} {l2 : Int32} {l3 : Int32} {u4 : Value} {h : LH} : F_SG_thief_c29 k29 l0 l1 l2 l3 h = some q → JR d jM_145 29 [.ref l0, .int l1, .int l2, .int l3, u4] [] h q := by
 unfold F_SG_thief_c29
 exact jr_iloadn 29 30 rfl rfl rfl
  (jr_bipush 30 32 (48 : Int32) rfl jc_b_48 rfl
  (jr_icmp_ge 32 73 35 rfl rfl rfl
  (jr_iconst 73 74 (-1 : Int32) rfl jc_i_m1 rfl
  (jr_riT 74 rfl rfl))
  (jr_aloadn 35 36 rfl rfl rfl
  (jr_iloadn 36 37 rfl rfl rfl
  (jr_iloadn 37 38 rfl rfl rfl
  (jr_cVi 38 41 [] rfl rfl rfl rfl rfl rfl rfl rfl (as := [.int l1, .int l3]) (F_SG_openGateWithin_ok (Nat.le_trans (by decide : 4 ≤ 4) hd)) (fun v1 h2 =>
  jr_istore 41 43 [.ref l0, .int l1, .int l2, .int l3, .int v1] rfl rfl rfl rfl
  (jr_iload 43 45 rfl rfl rfl
  (jr_iconst 45 46 (-1 : Int32) rfl jc_i_m1 rfl
  (jr_icmp_eq 46 60 49 rfl rfl rfl
  (jr_aloadn 60 61 rfl rfl rfl
  (jr_gr 61 64 rfl jg_10_38_2 rfl (fun v3 =>
  jr_cVv 64 67 [] rfl rfl rfl rfl rfl rfl rfl rfl (as := []) (F_Scene_pass_ok (Nat.le_trans (by decide : 4 ≤ 4) hd)) (fun h4 =>
  jr_iinc 67 70 [.ref l0, .int l1, .int l2, .int (l3 + (1 : Int32)), .int v1] rfl jc_i_1 rfl rfl rfl rfl
  (jr_goto 70 29 rfl rfl
  ((hk29 _ _ _ _ _ _)))))))
  (jr_iloadn 49 50 rfl rfl rfl
  (jr_if_ne 50 57 53 rfl rfl rfl
  (jr_iload 57 59 rfl rfl rfl
  ((F_SG_thief_b59_ok hd )))
  (jr_iloadn 53 54 rfl rfl rfl
  (jr_goto 54 59 rfl rfl
  ((F_SG_thief_b59_ok hd ))))))))))))))))
noncomputable def F_SG_thief_l29 : Nat → Nat → Int32 → Int32 → Int32 → LH → Option JOut
 | 0, _, _, _, _, _ => none
 | n + 1, l0, l1, l2, l3, h => F_SG_thief_c29 (F_SG_thief_l29 n) l0 l1 l2 l3 h
theorem F_SG_thief_l29_ok {d : Nat} {q : JOut} (hd : 4 ≤ d) : ∀ (n : Nat) (l0 : Nat) (l1 : Int32) (l2 : Int32) (l3 : Int32) (u4 : Value) (h : LH), F_SG_thief_l29 n l0 l1 l2 l3 h = some q → JR d jM_145 29 [.ref l0, .int l1, .int l2, .int l3, u4] [] h q
 | 0 => fun _ _ _ _ _ _ hq => nomatch (show (none : Option JOut) = some q from hq)
 | n + 1 => fun _ _ _ _ _ _ hq => F_SG_thief_c29_ok hd (F_SG_thief_l29_ok hd n) hq
noncomputable def F_SG_thief_b20 (l0 : Nat) (l1 : Int32) (l2 : Int32) (s0 : Nat) (s1 : Int32) (h : LH) : Option JOut :=
 jf_kd h s0 10
 (jf_th (F_SG_needArgument s0 s1 h) fun h1 =>
 jf_kd h1 l0 10
 ((F_SG_startTrial l0 h1).bind fun h2 =>
 F_SG_thief_l29  jF l0 l1 l2 (0 : Int32) h2))
set_option maxRecDepth 100000 in
theorem F_SG_thief_b20_ok {d : Nat} {q : JOut} (hd : 4 ≤ d) {l0 : Nat} {l1 : Int32} {l2 : Int32} {s0 : Nat} {s1 : Int32} {u3 : Value} {u4 : Value} {h : LH} : F_SG_thief_b20 l0 l1 l2 s0 s1 h = some q → JR d jM_145 20 [.ref l0, .int l1, .int l2, u3, u4] [.int s1, .ref s0] h q := by
 unfold F_SG_thief_b20
 exact jr_cVt 20 23 [] rfl rfl rfl rfl rfl rfl rfl rfl rfl (as := [.int s1]) (F_SG_needArgument_ok (Nat.le_trans (by decide : 1 ≤ 4) hd)) (fun h1 =>
  jr_aloadn 23 24 rfl rfl rfl
  (jr_cVv 24 27 [] rfl rfl rfl rfl rfl rfl rfl rfl (as := []) (F_SG_startTrial_ok (Nat.le_trans (by decide : 2 ≤ 4) hd)) (fun h2 =>
  jr_iconst 27 28 (0 : Int32) rfl jc_i_0 rfl
  (jr_istoren 28 29 [.ref l0, .int l1, .int l2, .int (0 : Int32), u4] rfl rfl rfl rfl
  ((F_SG_thief_l29_ok hd  jF _ _ _ _ _ _))))))
noncomputable def F_SG_thief_b15 (l0 : Nat) (l1 : Int32) (l2 : Int32) (s0 : Nat) (h : LH) : Option JOut :=
 F_SG_thief_b20  l0 l1 l2 s0 (1 : Int32) h
set_option maxRecDepth 100000 in
theorem F_SG_thief_b15_ok {d : Nat} {q : JOut} (hd : 4 ≤ d) {l0 : Nat} {l1 : Int32} {l2 : Int32} {s0 : Nat} {u3 : Value} {u4 : Value} {h : LH} : F_SG_thief_b15 l0 l1 l2 s0 h = some q → JR d jM_145 15 [.ref l0, .int l1, .int l2, u3, u4] [.ref s0] h q := by
 unfold F_SG_thief_b15
 exact jr_iconst 15 16 (1 : Int32) rfl jc_i_1 rfl
  (jr_goto 16 20 rfl rfl
  ((F_SG_thief_b20_ok hd )))
noncomputable def F_SG_thief (l0 : Nat) (l1 : Int32) (l2 : Int32) (h : LH) : Option JOut :=
 jf_kd h l0 10
 (jf_th (F_SG_needGate l0 l1 h) fun h1 =>
 if l2 = 0 then
 F_SG_thief_b15  l0 l1 l2 l0 h1
else
 if l2 = (1 : Int32) then
 F_SG_thief_b15  l0 l1 l2 l0 h1
else
 F_SG_thief_b20  l0 l1 l2 l0 (0 : Int32) h1)
set_option maxRecDepth 100000 in
theorem F_SG_thief_ok {d : Nat} (hd : 5 ≤ d) {l0 : Nat} {l1 : Int32} {l2 : Int32} {h : LH} {q : JOut} : F_SG_thief l0 l1 l2 h = some q → jl_Sem jt_T jt_Ms d 145 [.ref l0, .int l1, .int l2] h q := by
 unfold F_SG_thief
 exact jr_enter (D := 4) hd jM_145_at rfl rfl rfl (fun d hd =>
  jr_aloadn 0 1 rfl rfl rfl
  (jr_iloadn 1 2 rfl rfl rfl
  (jr_cVt 2 5 [] rfl rfl rfl rfl rfl rfl rfl rfl rfl (as := [.int l1]) (F_SG_needGate_ok (Nat.le_trans (by decide : 2 ≤ 4) hd)) (fun h1 =>
  jr_aloadn 5 6 rfl rfl rfl
  (jr_iloadn 6 7 rfl rfl rfl
  (jr_if_eq 7 15 10 rfl rfl rfl
  ((F_SG_thief_b15_ok hd ))
  (jr_iloadn 10 11 rfl rfl rfl
  (jr_iconst 11 12 (1 : Int32) rfl jc_i_1 rfl
  (jr_icmp_ne 12 19 15 rfl rfl rfl
  (jr_iconst 19 20 (0 : Int32) rfl jc_i_0 rfl
  ((F_SG_thief_b20_ok hd )))
  ((F_SG_thief_b15_ok hd )))))))))))
noncomputable def jM_147 : JMeth := (10, false, 1, jk_147, [], 3)
set_option maxRecDepth 100000 in
theorem jM_147_at : jt_Ms 147 = some jM_147 := rfl
noncomputable def F_SG_guard_b77 (s0 : Int32) (h : LH) : Option JOut :=
 some (jo_i (s0, h))
set_option maxRecDepth 100000 in
theorem F_SG_guard_b77_ok {d : Nat} {q : JOut} (hd : 6 ≤ d) {s0 : Int32} {u0 : Value} {u1 : Value} {u2 : Value} {h : LH} : F_SG_guard_b77 s0 h = some q → JR d jM_147 77 [u0, u1, u2] [.int s0] h q := by
 unfold F_SG_guard_b77
 exact jr_riT 77 rfl rfl
noncomputable def F_SG_guard_b26 (l0 : Nat) (l1 : Int32) (l2 : Int32) (s0 : Nat) (s1 : Int32) (h : LH) : Option JOut :=
 jf_kd h s0 10
 (jf_th (F_SG_needArgument s0 s1 h) fun h1 =>
 jf_kd h1 l0 10
 ((F_SG_startTrial l0 h1).bind fun h2 =>
 jf_gr h2 l0 10 5 fun v3 =>
 jf_kd h2 v3 9
 ((F_Watch_play v3 l1 h2).bind fun h4 =>
 if l2 = 0 then
 jf_gr h4 l0 10 5 fun v9 =>
 jf_gi h4 v9 9 5 fun v10 =>
 F_SG_guard_b77  v10 h4
else
 if l2 = (1 : Int32) then
 jf_gr h4 l0 10 5 fun v7 =>
 jf_gi h4 v7 9 6 fun v8 =>
 F_SG_guard_b77  v8 h4
else
 jf_gr h4 l0 10 5 fun v5 =>
 jf_gi h4 v5 9 7 fun v6 =>
 F_SG_guard_b77  v6 h4)))
set_option maxRecDepth 100000 in
theorem F_SG_guard_b26_ok {d : Nat} {q : JOut} (hd : 6 ≤ d) {l0 : Nat} {l1 : Int32} {l2 : Int32} {s0 : Nat} {s1 : Int32} {h : LH} : F_SG_guard_b26 l0 l1 l2 s0 s1 h = some q → JR d jM_147 26 [.ref l0, .int l1, .int l2] [.int s1, .ref s0] h q := by
 unfold F_SG_guard_b26
 exact jr_cVt 26 29 [] rfl rfl rfl rfl rfl rfl rfl rfl rfl (as := [.int s1]) (F_SG_needArgument_ok (Nat.le_trans (by decide : 1 ≤ 6) hd)) (fun h1 =>
  jr_aloadn 29 30 rfl rfl rfl
  (jr_cVv 30 33 [] rfl rfl rfl rfl rfl rfl rfl rfl (as := []) (F_SG_startTrial_ok (Nat.le_trans (by decide : 2 ≤ 6) hd)) (fun h2 =>
  jr_aloadn 33 34 rfl rfl rfl
  (jr_gr 34 37 rfl jg_10_53_2 rfl (fun v3 =>
  jr_iloadn 37 38 rfl rfl rfl
  (jr_cVv 38 41 [] rfl rfl rfl rfl rfl rfl rfl rfl (as := [.int l1]) (F_Watch_play_ok (Nat.le_trans (by decide : 6 ≤ 6) hd)) (fun h4 =>
  jr_iloadn 41 42 rfl rfl rfl
  (jr_if_ne 42 55 45 rfl rfl rfl
  (jr_iloadn 55 56 rfl rfl rfl
  (jr_iconst 56 57 (1 : Int32) rfl jc_i_1 rfl
  (jr_icmp_ne 57 70 60 rfl rfl rfl
  (jr_aloadn 70 71 rfl rfl rfl
  (jr_gr 71 74 rfl jg_10_53_2 rfl (fun v5 =>
  jr_gi 74 77 rfl jg_10_296_1 rfl (fun v6 =>
  (F_SG_guard_b77_ok hd )))))
  (jr_aloadn 60 61 rfl rfl rfl
  (jr_gr 61 64 rfl jg_10_53_2 rfl (fun v7 =>
  jr_gi 64 67 rfl jg_10_293_1 rfl (fun v8 =>
  jr_goto 67 77 rfl rfl
  ((F_SG_guard_b77_ok hd )))))))))
  (jr_aloadn 45 46 rfl rfl rfl
  (jr_gr 46 49 rfl jg_10_53_2 rfl (fun v9 =>
  jr_gi 49 52 rfl jg_10_290_1 rfl (fun v10 =>
  jr_goto 52 77 rfl rfl
  ((F_SG_guard_b77_ok hd ))))))))))))))
noncomputable def F_SG_guard_b25 (l0 : Nat) (l1 : Int32) (l2 : Int32) (s0 : Nat) (h : LH) : Option JOut :=
 F_SG_guard_b26  l0 l1 l2 s0 (0 : Int32) h
set_option maxRecDepth 100000 in
theorem F_SG_guard_b25_ok {d : Nat} {q : JOut} (hd : 6 ≤ d) {l0 : Nat} {l1 : Int32} {l2 : Int32} {s0 : Nat} {h : LH} : F_SG_guard_b25 l0 l1 l2 s0 h = some q → JR d jM_147 25 [.ref l0, .int l1, .int l2] [.ref s0] h q := by
 unfold F_SG_guard_b25
 exact jr_iconst 25 26 (0 : Int32) rfl jc_i_0 rfl
  ((F_SG_guard_b26_ok hd ))
noncomputable def F_SG_guard (l0 : Nat) (l1 : Int32) (l2 : Int32) (h : LH) : Option JOut :=
 if l1 < (1 : Int32) then
 F_SG_guard_b25  l0 l1 l2 l0 h
else
 if (24 : Int32) < l1 then
 F_SG_guard_b25  l0 l1 l2 l0 h
else
 if l2 < 0 then
 F_SG_guard_b25  l0 l1 l2 l0 h
else
 if (2 : Int32) < l2 then
 F_SG_guard_b25  l0 l1 l2 l0 h
else
 F_SG_guard_b26  l0 l1 l2 l0 (1 : Int32) h
set_option maxRecDepth 100000 in
theorem F_SG_guard_ok {d : Nat} (hd : 7 ≤ d) {l0 : Nat} {l1 : Int32} {l2 : Int32} {h : LH} {q : JOut} : F_SG_guard l0 l1 l2 h = some q → jl_Sem jt_T jt_Ms d 147 [.ref l0, .int l1, .int l2] h q := by
 unfold F_SG_guard
 exact jr_enter (D := 6) hd jM_147_at rfl rfl rfl (fun d hd =>
  jr_aloadn 0 1 rfl rfl rfl
  (jr_iloadn 1 2 rfl rfl rfl
  (jr_iconst 2 3 (1 : Int32) rfl jc_i_1 rfl
  (jr_icmp_lt 3 25 6 rfl rfl rfl
  ((F_SG_guard_b25_ok hd ))
  (jr_iloadn 6 7 rfl rfl rfl
  (jr_bipush 7 9 (24 : Int32) rfl jc_b_24 rfl
  (jr_icmp_gt 9 25 12 rfl rfl rfl
  ((F_SG_guard_b25_ok hd ))
  (jr_iloadn 12 13 rfl rfl rfl
  (jr_if_lt 13 25 16 rfl rfl rfl
  ((F_SG_guard_b25_ok hd ))
  (jr_iloadn 16 17 rfl rfl rfl
  (jr_iconst 17 18 (2 : Int32) rfl jc_i_2 rfl
  (jr_icmp_gt 18 25 21 rfl rfl rfl
  ((F_SG_guard_b25_ok hd ))
  (jr_iconst 21 22 (1 : Int32) rfl jc_i_1 rfl
  (jr_goto 22 26 rfl rfl
  ((F_SG_guard_b26_ok hd ))))))))))))))))
noncomputable def jM_149 : JMeth := (10, false, 2, jk_149, [], 2)
set_option maxRecDepth 100000 in
theorem jM_149_at : jt_Ms 149 = some jM_149 := rfl
noncomputable def F_SG_areGates_b25 (s0 : Int32) (h : LH) : Option (Int32 × LH) :=
 jf_rz s0 (some (s0, h))
set_option maxRecDepth 100000 in
theorem F_SG_areGates_b25_ok {d : Nat} {q : (Int32 × LH)} (hd : 0 ≤ d) {s0 : Int32} {u0 : Value} {u1 : Value} {h : LH} : F_SG_areGates_b25 s0 h = some q → JR d jM_149 25 [u0, u1] [.int s0] h (jo_i q) := by
 unfold F_SG_areGates_b25
 exact jr_rz 25 rfl rfl
noncomputable def F_SG_areGates_b24 (h : LH) : Option (Int32 × LH) :=
 F_SG_areGates_b25  (0 : Int32) h
set_option maxRecDepth 100000 in
theorem F_SG_areGates_b24_ok {d : Nat} {q : (Int32 × LH)} (hd : 0 ≤ d) {u0 : Value} {u1 : Value} {h : LH} : F_SG_areGates_b24 h = some q → JR d jM_149 24 [u0, u1] [] h (jo_i q) := by
 unfold F_SG_areGates_b24
 exact jr_iconst 24 25 (0 : Int32) rfl jc_i_0 rfl
  ((F_SG_areGates_b25_ok hd ))
noncomputable def F_SG_areGates (l0 : Nat) (l1 : Int32) (h : LH) : Option (Int32 × LH) :=
 if l1 < 0 then
 F_SG_areGates_b24  h
else
 jf_gr h l0 10 2 fun v1 =>
 jf_gr h v1 6 1 fun v2 =>
 jf_gi h v2 8 0 fun v3 =>
 if l1 < ((1 : Int32) <<< (v3 &&& 31)) then
 F_SG_areGates_b25  (1 : Int32) h
else
 F_SG_areGates_b24  h
set_option maxRecDepth 100000 in
theorem F_SG_areGates_ok {d : Nat} (hd : 1 ≤ d) {l0 : Nat} {l1 : Int32} {h : LH} {q : (Int32 × LH)} : F_SG_areGates l0 l1 h = some q → jl_Sem jt_T jt_Ms d 149 [.ref l0, .int l1] h (jo_i q) := by
 unfold F_SG_areGates
 exact jr_enter (D := 0) hd jM_149_at rfl rfl rfl (fun d hd =>
  jr_iloadn 0 1 rfl rfl rfl
  (jr_if_lt 1 24 4 rfl rfl rfl
  ((F_SG_areGates_b24_ok hd ))
  (jr_iloadn 4 5 rfl rfl rfl
  (jr_iconst 5 6 (1 : Int32) rfl jc_i_1 rfl
  (jr_aloadn 6 7 rfl rfl rfl
  (jr_gr 7 10 rfl jg_10_34_2 rfl (fun v1 =>
  jr_gr 10 13 rfl jg_10_120_2 rfl (fun v2 =>
  jr_gi 13 16 rfl jg_10_144_1 rfl (fun v3 =>
  jr_ishl 16 17 rfl rfl
  (jr_icmp_ge 17 24 20 rfl rfl rfl
  ((F_SG_areGates_b24_ok hd ))
  (jr_iconst 20 21 (1 : Int32) rfl jc_i_1 rfl
  (jr_goto 21 25 rfl rfl
  ((F_SG_areGates_b25_ok hd ))))))))))))))
noncomputable def jM_148 : JMeth := (10, false, 1, jk_148, [], 8)
set_option maxRecDepth 100000 in
theorem jM_148_at : jt_Ms 148 = some jM_148 := rfl
noncomputable def F_SG_lean_b100 (s0 : Int32) (h : LH) : Option JOut :=
 some (jo_i (s0, h))
set_option maxRecDepth 100000 in
theorem F_SG_lean_b100_ok {d : Nat} {q : JOut} (hd : 3 ≤ d) {s0 : Int32} {u0 : Value} {u1 : Value} {u2 : Value} {u3 : Value} {u4 : Value} {u5 : Value} {u6 : Value} {u7 : Value} {h : LH} : F_SG_lean_b100 s0 h = some q → JR d jM_148 100 [u0, u1, u2, u3, u4, u5, u6, u7] [.int s0] h q := by
 unfold F_SG_lean_b100
 exact jr_riT 100 rfl rfl
noncomputable def F_SG_lean_b83 (k49 : Nat → Int32 → Int32 → Int32 → Int32 → Int32 → Int32 → LH → Option JOut) (l0 : Nat) (l1 : Int32) (l2 : Int32) (l3 : Int32) (l4 : Int32) (l5 : Int32) (l6 : Int32) (h : LH) : Option JOut :=
 k49 l0 l1 l2 l3 l4 l5 (l6 + (1 : Int32)) h
set_option maxRecDepth 100000 in
theorem F_SG_lean_b83_ok {d : Nat} {q : JOut} {k49 : Nat → Int32 → Int32 → Int32 → Int32 → Int32 → Int32 → LH → Option JOut} (hd : 3 ≤ d) (hk49 : ∀ (l0 : Nat) (l1 : Int32) (l2 : Int32) (l3 : Int32) (l4 : Int32) (l5 : Int32) (l6 : Int32) (u7 : Value) (h : LH), k49 l0 l1 l2 l3 l4 l5 l6 h = some q → JR d jM_148 49 [.ref l0, .int l1, .int l2, .int l3, .int l4, .int l5, .int l6, u7] [] h q) {l0 : Nat} {l1 : Int32} {l2 : Int32} {l3 : Int32} {l4 : Int32} {l5 : Int32} {l6 : Int32} {u7 : Value} {h : LH} : F_SG_lean_b83 k49 l0 l1 l2 l3 l4 l5 l6 h = some q → JR d jM_148 83 [.ref l0, .int l1, .int l2, .int l3, .int l4, .int l5, .int l6, u7] [] h q := by
 unfold F_SG_lean_b83
 exact jr_iinc 83 86 [.ref l0, .int l1, .int l2, .int l3, .int l4, .int l5, .int (l6 + (1 : Int32)), u7] rfl jc_i_1 rfl rfl rfl rfl
  (jr_goto 86 49 rfl rfl
  ((hk49 _ _ _ _ _ _ _ _ _)))
noncomputable def F_SG_lean_c49 (k49 : Nat → Int32 → Int32 → Int32 → Int32 → Int32 → Int32 → LH → Option JOut) (l0 : Nat) (l1 : Int32) (l2 : Int32) (l3 : Int32) (l4 : Int32) (l5 : Int32) (l6 : Int32) (h : LH) : Option JOut :=
 if (3 : Int32) < l6 then
 if l3 = 0 then
 F_SG_lean_b100  l4 h
else
 F_SG_lean_b100  l5 h
else
 jf_gr h l0 10 2 fun v1 =>
 jf_kd h v1 6
 (jf_bi (F_Scene_smokeByLean v1 l1 l6 l2 h) fun v2 h3 =>
 if v2 < l5 then
 F_SG_lean_b83 k49 l0 l1 l2 l3 l6 v2 l6 h3
else
 F_SG_lean_b83 k49 l0 l1 l2 l3 l4 l5 l6 h3)
set_option maxRecDepth 100000 in
theorem F_SG_lean_c49_ok {d : Nat} {q : JOut} {k49 : Nat → Int32 → Int32 → Int32 → Int32 → Int32 → Int32 → LH → Option JOut} (hd : 3 ≤ d) (hk49 : ∀ (l0 : Nat) (l1 : Int32) (l2 : Int32) (l3 : Int32) (l4 : Int32) (l5 : Int32) (l6 : Int32) (u7 : Value) (h : LH), k49 l0 l1 l2 l3 l4 l5 l6 h = some q → JR d jM_148 49 [.ref l0, .int l1, .int l2, .int l3, .int l4, .int l5, .int l6, u7] [] h q) {l0 : Nat} {l1 : Int32} {l2 : Int32} {l3 : Int32} {l4 : Int32} {l5 : Int32} {l6 : Int32} {u7 : Value} {h : LH} : F_SG_lean_c49 k49 l0 l1 l2 l3 l4 l5 l6 h = some q → JR d jM_148 49 [.ref l0, .int l1, .int l2, .int l3, .int l4, .int l5, .int l6, u7] [] h q := by
 unfold F_SG_lean_c49
 exact jr_iload 49 51 rfl rfl rfl
  (jr_iconst 51 52 (3 : Int32) rfl jc_i_3 rfl
  (jr_icmp_gt 52 89 55 rfl rfl rfl
  (jr_iloadn 89 90 rfl rfl rfl
  (jr_if_ne 90 98 93 rfl rfl rfl
  (jr_iload 98 100 rfl rfl rfl
  ((F_SG_lean_b100_ok hd )))
  (jr_iload 93 95 rfl rfl rfl
  (jr_goto 95 100 rfl rfl
  ((F_SG_lean_b100_ok hd ))))))
  (jr_aloadn 55 56 rfl rfl rfl
  (jr_gr 56 59 rfl jg_10_34_2 rfl (fun v1 =>
  jr_iloadn 59 60 rfl rfl rfl
  (jr_iload 60 62 rfl rfl rfl
  (jr_iloadn 62 63 rfl rfl rfl
  (jr_cVi 63 66 [] rfl rfl rfl rfl rfl rfl rfl rfl (as := [.int l1, .int l6, .int l2]) (F_Scene_smokeByLean_ok (Nat.le_trans (by decide : 3 ≤ 3) hd)) (fun v2 h3 =>
  jr_istore 66 68 [.ref l0, .int l1, .int l2, .int l3, .int l4, .int l5, .int l6, .int v2] rfl rfl rfl rfl
  (jr_iload 68 70 rfl rfl rfl
  (jr_iload 70 72 rfl rfl rfl
  (jr_icmp_ge 72 83 75 rfl rfl rfl
  ((F_SG_lean_b83_ok hd hk49))
  (jr_iload 75 77 rfl rfl rfl
  (jr_istore 77 79 [.ref l0, .int l1, .int l2, .int l3, .int l4, .int v2, .int l6, .int v2] rfl rfl rfl rfl
  (jr_iload 79 81 rfl rfl rfl
  (jr_istore 81 83 [.ref l0, .int l1, .int l2, .int l3, .int l6, .int v2, .int l6, .int v2] rfl rfl rfl rfl
  ((F_SG_lean_b83_ok hd hk49))))))))))))))))))
noncomputable def F_SG_lean_l49 : Nat → Nat → Int32 → Int32 → Int32 → Int32 → Int32 → Int32 → LH → Option JOut
 | 0, _, _, _, _, _, _, _, _ => none
 | n + 1, l0, l1, l2, l3, l4, l5, l6, h => F_SG_lean_c49 (F_SG_lean_l49 n) l0 l1 l2 l3 l4 l5 l6 h
theorem F_SG_lean_l49_ok {d : Nat} {q : JOut} (hd : 3 ≤ d) : ∀ (n : Nat) (l0 : Nat) (l1 : Int32) (l2 : Int32) (l3 : Int32) (l4 : Int32) (l5 : Int32) (l6 : Int32) (u7 : Value) (h : LH), F_SG_lean_l49 n l0 l1 l2 l3 l4 l5 l6 h = some q → JR d jM_148 49 [.ref l0, .int l1, .int l2, .int l3, .int l4, .int l5, .int l6, u7] [] h q
 | 0 => fun _ _ _ _ _ _ _ _ _ hq => nomatch (show (none : Option JOut) = some q from hq)
 | n + 1 => fun _ _ _ _ _ _ _ _ _ hq => F_SG_lean_c49_ok hd (F_SG_lean_l49_ok hd n) hq
noncomputable def F_SG_lean_b28 (l0 : Nat) (l1 : Int32) (l2 : Int32) (l3 : Int32) (s0 : Nat) (s1 : Int32) (h : LH) : Option JOut :=
 jf_kd h s0 10
 (jf_th (F_SG_needArgument s0 s1 h) fun h1 =>
 jf_gr h1 l0 10 2 fun v2 =>
 jf_kd h1 v2 6
 (jf_bi (F_Scene_smokeByLean v2 l1 (0 : Int32) l2 h1) fun v3 h4 =>
 F_SG_lean_l49  jF l0 l1 l2 l3 (0 : Int32) v3 (1 : Int32) h4))
set_option maxRecDepth 100000 in
theorem F_SG_lean_b28_ok {d : Nat} {q : JOut} (hd : 3 ≤ d) {l0 : Nat} {l1 : Int32} {l2 : Int32} {l3 : Int32} {s0 : Nat} {s1 : Int32} {u4 : Value} {u5 : Value} {u6 : Value} {u7 : Value} {h : LH} : F_SG_lean_b28 l0 l1 l2 l3 s0 s1 h = some q → JR d jM_148 28 [.ref l0, .int l1, .int l2, .int l3, u4, u5, u6, u7] [.int s1, .ref s0] h q := by
 unfold F_SG_lean_b28
 exact jr_cVt 28 31 [] rfl rfl rfl rfl rfl rfl rfl rfl rfl (as := [.int s1]) (F_SG_needArgument_ok (Nat.le_trans (by decide : 1 ≤ 3) hd)) (fun h1 =>
  jr_iconst 31 32 (0 : Int32) rfl jc_i_0 rfl
  (jr_istore 32 34 [.ref l0, .int l1, .int l2, .int l3, .int (0 : Int32), u5, u6, u7] rfl rfl rfl rfl
  (jr_aloadn 34 35 rfl rfl rfl
  (jr_gr 35 38 rfl jg_10_34_2 rfl (fun v2 =>
  jr_iloadn 38 39 rfl rfl rfl
  (jr_iconst 39 40 (0 : Int32) rfl jc_i_0 rfl
  (jr_iloadn 40 41 rfl rfl rfl
  (jr_cVi 41 44 [] rfl rfl rfl rfl rfl rfl rfl rfl (as := [.int l1, .int (0 : Int32), .int l2]) (F_Scene_smokeByLean_ok (Nat.le_trans (by decide : 3 ≤ 3) hd)) (fun v3 h4 =>
  jr_istore 44 46 [.ref l0, .int l1, .int l2, .int l3, .int (0 : Int32), .int v3, u6, u7] rfl rfl rfl rfl
  (jr_iconst 46 47 (1 : Int32) rfl jc_i_1 rfl
  (jr_istore 47 49 [.ref l0, .int l1, .int l2, .int l3, .int (0 : Int32), .int v3, .int (1 : Int32), u7] rfl rfl rfl rfl
  ((F_SG_lean_l49_ok hd  jF _ _ _ _ _ _ _ _ _)))))))))))))
noncomputable def F_SG_lean_b27 (l0 : Nat) (l1 : Int32) (l2 : Int32) (l3 : Int32) (s0 : Nat) (h : LH) : Option JOut :=
 F_SG_lean_b28  l0 l1 l2 l3 s0 (0 : Int32) h
set_option maxRecDepth 100000 in
theorem F_SG_lean_b27_ok {d : Nat} {q : JOut} (hd : 3 ≤ d) {l0 : Nat} {l1 : Int32} {l2 : Int32} {l3 : Int32} {s0 : Nat} {u4 : Value} {u5 : Value} {u6 : Value} {u7 : Value} {h : LH} : F_SG_lean_b27 l0 l1 l2 l3 s0 h = some q → JR d jM_148 27 [.ref l0, .int l1, .int l2, .int l3, u4, u5, u6, u7] [.ref s0] h q := by
 unfold F_SG_lean_b27
 exact jr_iconst 27 28 (0 : Int32) rfl jc_i_0 rfl
  ((F_SG_lean_b28_ok hd ))
noncomputable def F_SG_lean_b23 (l0 : Nat) (l1 : Int32) (l2 : Int32) (l3 : Int32) (s0 : Nat) (h : LH) : Option JOut :=
 F_SG_lean_b28  l0 l1 l2 l3 s0 (1 : Int32) h
set_option maxRecDepth 100000 in
theorem F_SG_lean_b23_ok {d : Nat} {q : JOut} (hd : 3 ≤ d) {l0 : Nat} {l1 : Int32} {l2 : Int32} {l3 : Int32} {s0 : Nat} {u4 : Value} {u5 : Value} {u6 : Value} {u7 : Value} {h : LH} : F_SG_lean_b23 l0 l1 l2 l3 s0 h = some q → JR d jM_148 23 [.ref l0, .int l1, .int l2, .int l3, u4, u5, u6, u7] [.ref s0] h q := by
 unfold F_SG_lean_b23
 exact jr_iconst 23 24 (1 : Int32) rfl jc_i_1 rfl
  (jr_goto 24 28 rfl rfl
  ((F_SG_lean_b28_ok hd )))
noncomputable def F_SG_lean (l0 : Nat) (l1 : Int32) (l2 : Int32) (l3 : Int32) (h : LH) : Option JOut :=
 jf_kd h l0 10
 (jf_th (F_SG_needGate l0 l1 h) fun h1 =>
 jf_kd h1 l0 10
 (jf_bi (F_SG_areGates l0 l2 h1) fun v2 h3 =>
 if v2 = 0 then
 F_SG_lean_b27  l0 l1 l2 l3 l0 h3
else
 if l3 = 0 then
 F_SG_lean_b23  l0 l1 l2 l3 l0 h3
else
 if l3 = (1 : Int32) then
 F_SG_lean_b23  l0 l1 l2 l3 l0 h3
else
 F_SG_lean_b27  l0 l1 l2 l3 l0 h3))
set_option maxRecDepth 100000 in
theorem F_SG_lean_ok {d : Nat} (hd : 4 ≤ d) {l0 : Nat} {l1 : Int32} {l2 : Int32} {l3 : Int32} {h : LH} {q : JOut} : F_SG_lean l0 l1 l2 l3 h = some q → jl_Sem jt_T jt_Ms d 148 [.ref l0, .int l1, .int l2, .int l3] h q := by
 unfold F_SG_lean
 exact jr_enter (D := 3) hd jM_148_at rfl rfl rfl (fun d hd =>
  jr_aloadn 0 1 rfl rfl rfl
  (jr_iloadn 1 2 rfl rfl rfl
  (jr_cVt 2 5 [] rfl rfl rfl rfl rfl rfl rfl rfl rfl (as := [.int l1]) (F_SG_needGate_ok (Nat.le_trans (by decide : 2 ≤ 3) hd)) (fun h1 =>
  jr_aloadn 5 6 rfl rfl rfl
  (jr_aloadn 6 7 rfl rfl rfl
  (jr_iloadn 7 8 rfl rfl rfl
  (jr_cVi 8 11 [.ref l0] rfl rfl rfl rfl rfl rfl rfl rfl (as := [.int l2]) (F_SG_areGates_ok (Nat.le_trans (by decide : 1 ≤ 3) hd)) (fun v2 h3 =>
  jr_if_eq 11 27 14 rfl rfl rfl
  ((F_SG_lean_b27_ok hd ))
  (jr_iloadn 14 15 rfl rfl rfl
  (jr_if_eq 15 23 18 rfl rfl rfl
  ((F_SG_lean_b23_ok hd ))
  (jr_iloadn 18 19 rfl rfl rfl
  (jr_iconst 19 20 (1 : Int32) rfl jc_i_1 rfl
  (jr_icmp_ne 20 27 23 rfl rfl rfl
  ((F_SG_lean_b27_ok hd ))
  ((F_SG_lean_b23_ok hd )))))))))))))))
noncomputable def jM_150 : JMeth := (10, false, 1, jk_150, [], 2)
set_option maxRecDepth 100000 in
theorem jM_150_at : jt_Ms 150 = some jM_150 := rfl
noncomputable def F_SG_burnt (l0 : Nat) (l1 : Int32) (h : LH) : Option JOut :=
 jf_kd h l0 10
 (jf_th (F_SG_needGate l0 l1 h) fun h1 =>
 jf_gr h1 l0 10 12 fun v2 =>
 jf_gr h1 l0 10 2 fun v3 =>
 jf_kd h1 v2 0
 (jf_bi (F_Book_fitsOf v2 v3 l1 h1) fun v4 h5 =>
 some (jo_i (v4, h5))))
set_option maxRecDepth 100000 in
theorem F_SG_burnt_ok {d : Nat} (hd : 5 ≤ d) {l0 : Nat} {l1 : Int32} {h : LH} {q : JOut} : F_SG_burnt l0 l1 h = some q → jl_Sem jt_T jt_Ms d 150 [.ref l0, .int l1] h q := by
 unfold F_SG_burnt
 exact jr_enter (D := 4) hd jM_150_at rfl rfl rfl (fun d hd =>
  jr_aloadn 0 1 rfl rfl rfl
  (jr_iloadn 1 2 rfl rfl rfl
  (jr_cVt 2 5 [] rfl rfl rfl rfl rfl rfl rfl rfl rfl (as := [.int l1]) (F_SG_needGate_ok (Nat.le_trans (by decide : 2 ≤ 4) hd)) (fun h1 =>
  jr_aloadn 5 6 rfl rfl rfl
  (jr_gr 6 9 rfl jg_10_91_2 rfl (fun v2 =>
  jr_aloadn 9 10 rfl rfl rfl
  (jr_gr 10 13 rfl jg_10_34_2 rfl (fun v3 =>
  jr_iloadn 13 14 rfl rfl rfl
  (jr_cVi 14 17 [] rfl rfl rfl rfl rfl rfl rfl rfl (as := [.ref v3, .int l1]) (F_Book_fitsOf_ok (Nat.le_trans (by decide : 4 ≤ 4) hd)) (fun v4 h5 =>
  jr_riT 17 rfl rfl))))))))))
noncomputable def jM_151 : JMeth := (10, false, 1, jk_151, [], 5)
set_option maxRecDepth 100000 in
theorem jM_151_at : jt_Ms 151 = some jM_151 := rfl
noncomputable def F_SG_fits_b99 (s0 : Int32) (h : LH) : Option JOut :=
 some (jo_i (s0, h))
set_option maxRecDepth 100000 in
theorem F_SG_fits_b99_ok {d : Nat} {q : JOut} (hd : 4 ≤ d) {s0 : Int32} {u0 : Value} {u1 : Value} {u2 : Value} {u3 : Value} {u4 : Value} {h : LH} : F_SG_fits_b99 s0 h = some q → JR d jM_151 99 [u0, u1, u2, u3, u4] [.int s0] h q := by
 unfold F_SG_fits_b99
 exact jr_riT 99 rfl rfl
noncomputable def F_SG_fits_b69 (k22 : Nat → Int32 → Int32 → Int32 → LH → Option JOut) (l0 : Nat) (l1 : Int32) (l2 : Int32) (l3 : Int32) (h : LH) : Option JOut :=
 jf_gr h l0 10 12 fun v1 =>
 jf_gr h l0 10 2 fun v2 =>
 jf_kd h v1 0
 (jf_bi (F_Book_fitsOf v1 v2 l3 h) fun v3 h4 =>
 jf_let (l2 + v3) fun v5 =>
 k22 l0 l1 v5 (l3 + (1 : Int32)) h4)
set_option maxRecDepth 100000 in
theorem F_SG_fits_b69_ok {d : Nat} {q : JOut} {k22 : Nat → Int32 → Int32 → Int32 → LH → Option JOut} (hd : 4 ≤ d) (hk22 : ∀ (l0 : Nat) (l1 : Int32) (l2 : Int32) (l3 : Int32) (u4 : Value) (h : LH), k22 l0 l1 l2 l3 h = some q → JR d jM_151 22 [.ref l0, .int l1, .int l2, .int l3, u4] [] h q) {l0 : Nat} {l1 : Int32} {l2 : Int32} {l3 : Int32} {u4 : Value} {h : LH} : F_SG_fits_b69 k22 l0 l1 l2 l3 h = some q → JR d jM_151 69 [.ref l0, .int l1, .int l2, .int l3, u4] [] h q := by
 unfold F_SG_fits_b69
 exact jr_iloadn 69 70 rfl rfl rfl
  (jr_aloadn 70 71 rfl rfl rfl
  (jr_gr 71 74 rfl jg_10_91_2 rfl (fun v1 =>
  jr_aloadn 74 75 rfl rfl rfl
  (jr_gr 75 78 rfl jg_10_34_2 rfl (fun v2 =>
  jr_iloadn 78 79 rfl rfl rfl
  (jr_cVi 79 82 [.int l2] rfl rfl rfl rfl rfl rfl rfl rfl (as := [.ref v2, .int l3]) (F_Book_fitsOf_ok (Nat.le_trans (by decide : 4 ≤ 4) hd)) (fun v3 h4 =>
  jr_iadd 82 83 rfl rfl
  (jr_istorenL 83 84 (fun v5 => [.ref l0, .int l1, .int v5, .int l3, u4]) rfl rfl (fun _ => rfl) rfl (fun v5 =>
  jr_iinc 84 87 [.ref l0, .int l1, .int v5, .int (l3 + (1 : Int32)), u4] rfl jc_i_1 rfl rfl rfl rfl
  (jr_goto 87 22 rfl rfl
  ((hk22 _ _ _ _ _ _))))))))))))
noncomputable def F_SG_fits_c22 (k22 : Nat → Int32 → Int32 → Int32 → LH → Option JOut) (l0 : Nat) (l1 : Int32) (l2 : Int32) (l3 : Int32) (h : LH) : Option JOut :=
 jf_gr h l0 10 2 fun v1 =>
 jf_gr h v1 6 1 fun v2 =>
 jf_gi h v2 8 0 fun v3 =>
 if l3 < v3 then
 jf_gr h l0 10 12 fun v4 =>
 jf_gr h l0 10 2 fun v5 =>
 jf_kd h v4 0
 (jf_bi (F_Book_firstFit v4 v5 l3 h) fun v6 h7 =>
 if l1 = (1 : Int32) then
 if v6 = (-1 : Int32) then
 F_SG_fits_b69 k22 l0 l1 l2 l3 h7
else
 some (jo_i ((((64 : Int32) * l3) + v6), h7))
else
 F_SG_fits_b69 k22 l0 l1 l2 l3 h7)
else
 if l1 = 0 then
 F_SG_fits_b99  l2 h
else
 F_SG_fits_b99  (-1 : Int32) h
set_option maxRecDepth 100000 in
theorem F_SG_fits_c22_ok {d : Nat} {q : JOut} {k22 : Nat → Int32 → Int32 → Int32 → LH → Option JOut} (hd : 4 ≤ d) (hk22 : ∀ (l0 : Nat) (l1 : Int32) (l2 : Int32) (l3 : Int32) (u4 : Value) (h : LH), k22 l0 l1 l2 l3 h = some q → JR d jM_151 22 [.ref l0, .int l1, .int l2, .int l3, u4] [] h q) {l0 : Nat} {l1 : Int32} {l2 : Int32} {l3 : Int32} {u4 : Value} {h : LH} : F_SG_fits_c22 k22 l0 l1 l2 l3 h = some q → JR d jM_151 22 [.ref l0, .int l1, .int l2, .int l3, u4] [] h q := by
 unfold F_SG_fits_c22
 exact jr_iloadn 22 23 rfl rfl rfl
  (jr_aloadn 23 24 rfl rfl rfl
  (jr_gr 24 27 rfl jg_10_34_2 rfl (fun v1 =>
  jr_gr 27 30 rfl jg_10_120_2 rfl (fun v2 =>
  jr_gi 30 33 rfl jg_10_144_1 rfl (fun v3 =>
  jr_icmp_ge 33 90 36 rfl rfl rfl
  (jr_iloadn 90 91 rfl rfl rfl
  (jr_if_ne 91 98 94 rfl rfl rfl
  (jr_iconst 98 99 (-1 : Int32) rfl jc_i_m1 rfl
  ((F_SG_fits_b99_ok hd )))
  (jr_iloadn 94 95 rfl rfl rfl
  (jr_goto 95 99 rfl rfl
  ((F_SG_fits_b99_ok hd ))))))
  (jr_aloadn 36 37 rfl rfl rfl
  (jr_gr 37 40 rfl jg_10_91_2 rfl (fun v4 =>
  jr_aloadn 40 41 rfl rfl rfl
  (jr_gr 41 44 rfl jg_10_34_2 rfl (fun v5 =>
  jr_iloadn 44 45 rfl rfl rfl
  (jr_cVi 45 48 [] rfl rfl rfl rfl rfl rfl rfl rfl (as := [.ref v5, .int l3]) (F_Book_firstFit_ok (Nat.le_trans (by decide : 4 ≤ 4) hd)) (fun v6 h7 =>
  jr_istore 48 50 [.ref l0, .int l1, .int l2, .int l3, .int v6] rfl rfl rfl rfl
  (jr_iloadn 50 51 rfl rfl rfl
  (jr_iconst 51 52 (1 : Int32) rfl jc_i_1 rfl
  (jr_icmp_ne 52 69 55 rfl rfl rfl
  ((F_SG_fits_b69_ok hd hk22))
  (jr_iload 55 57 rfl rfl rfl
  (jr_iconst 57 58 (-1 : Int32) rfl jc_i_m1 rfl
  (jr_icmp_eq 58 69 61 rfl rfl rfl
  ((F_SG_fits_b69_ok hd hk22))
  (jr_bipush 61 63 (64 : Int32) rfl jc_b_64 rfl
  (jr_iloadn 63 64 rfl rfl rfl
  (jr_imul 64 65 rfl rfl
  (jr_iload 65 67 rfl rfl rfl
  (jr_iadd 67 68 rfl rfl
  (jr_riT 68 rfl rfl))))))))))))))))))))))))
noncomputable def F_SG_fits_l22 : Nat → Nat → Int32 → Int32 → Int32 → LH → Option JOut
 | 0, _, _, _, _, _ => none
 | n + 1, l0, l1, l2, l3, h => F_SG_fits_c22 (F_SG_fits_l22 n) l0 l1 l2 l3 h
theorem F_SG_fits_l22_ok {d : Nat} {q : JOut} (hd : 4 ≤ d) : ∀ (n : Nat) (l0 : Nat) (l1 : Int32) (l2 : Int32) (l3 : Int32) (u4 : Value) (h : LH), F_SG_fits_l22 n l0 l1 l2 l3 h = some q → JR d jM_151 22 [.ref l0, .int l1, .int l2, .int l3, u4] [] h q
 | 0 => fun _ _ _ _ _ _ hq => nomatch (show (none : Option JOut) = some q from hq)
 | n + 1 => fun _ _ _ _ _ _ hq => F_SG_fits_c22_ok hd (F_SG_fits_l22_ok hd n) hq
noncomputable def F_SG_fits_b15 (l0 : Nat) (l1 : Int32) (s0 : Nat) (s1 : Int32) (h : LH) : Option JOut :=
 jf_kd h s0 10
 (jf_th (F_SG_needArgument s0 s1 h) fun h1 =>
 F_SG_fits_l22  jF l0 l1 (0 : Int32) (0 : Int32) h1)
set_option maxRecDepth 100000 in
theorem F_SG_fits_b15_ok {d : Nat} {q : JOut} (hd : 4 ≤ d) {l0 : Nat} {l1 : Int32} {s0 : Nat} {s1 : Int32} {u2 : Value} {u3 : Value} {u4 : Value} {h : LH} : F_SG_fits_b15 l0 l1 s0 s1 h = some q → JR d jM_151 15 [.ref l0, .int l1, u2, u3, u4] [.int s1, .ref s0] h q := by
 unfold F_SG_fits_b15
 exact jr_cVt 15 18 [] rfl rfl rfl rfl rfl rfl rfl rfl rfl (as := [.int s1]) (F_SG_needArgument_ok (Nat.le_trans (by decide : 1 ≤ 4) hd)) (fun h1 =>
  jr_iconst 18 19 (0 : Int32) rfl jc_i_0 rfl
  (jr_istoren 19 20 [.ref l0, .int l1, .int (0 : Int32), u3, u4] rfl rfl rfl rfl
  (jr_iconst 20 21 (0 : Int32) rfl jc_i_0 rfl
  (jr_istoren 21 22 [.ref l0, .int l1, .int (0 : Int32), .int (0 : Int32), u4] rfl rfl rfl rfl
  ((F_SG_fits_l22_ok hd  jF _ _ _ _ _ _))))))
noncomputable def F_SG_fits_b10 (l0 : Nat) (l1 : Int32) (s0 : Nat) (h : LH) : Option JOut :=
 F_SG_fits_b15  l0 l1 s0 (1 : Int32) h
set_option maxRecDepth 100000 in
theorem F_SG_fits_b10_ok {d : Nat} {q : JOut} (hd : 4 ≤ d) {l0 : Nat} {l1 : Int32} {s0 : Nat} {u2 : Value} {u3 : Value} {u4 : Value} {h : LH} : F_SG_fits_b10 l0 l1 s0 h = some q → JR d jM_151 10 [.ref l0, .int l1, u2, u3, u4] [.ref s0] h q := by
 unfold F_SG_fits_b10
 exact jr_iconst 10 11 (1 : Int32) rfl jc_i_1 rfl
  (jr_goto 11 15 rfl rfl
  ((F_SG_fits_b15_ok hd )))
noncomputable def F_SG_fits (l0 : Nat) (l1 : Int32) (h : LH) : Option JOut :=
 if l1 = 0 then
 F_SG_fits_b10  l0 l1 l0 h
else
 if l1 = (1 : Int32) then
 F_SG_fits_b10  l0 l1 l0 h
else
 F_SG_fits_b15  l0 l1 l0 (0 : Int32) h
set_option maxRecDepth 100000 in
theorem F_SG_fits_ok {d : Nat} (hd : 5 ≤ d) {l0 : Nat} {l1 : Int32} {h : LH} {q : JOut} : F_SG_fits l0 l1 h = some q → jl_Sem jt_T jt_Ms d 151 [.ref l0, .int l1] h q := by
 unfold F_SG_fits
 exact jr_enter (D := 4) hd jM_151_at rfl rfl rfl (fun d hd =>
  jr_aloadn 0 1 rfl rfl rfl
  (jr_iloadn 1 2 rfl rfl rfl
  (jr_if_eq 2 10 5 rfl rfl rfl
  ((F_SG_fits_b10_ok hd ))
  (jr_iloadn 5 6 rfl rfl rfl
  (jr_iconst 6 7 (1 : Int32) rfl jc_i_1 rfl
  (jr_icmp_ne 7 14 10 rfl rfl rfl
  (jr_iconst 14 15 (0 : Int32) rfl jc_i_0 rfl
  ((F_SG_fits_b15_ok hd )))
  ((F_SG_fits_b10_ok hd ))))))))
noncomputable def jM_152 : JMeth := (10, false, 1, jk_152, [], 6)
set_option maxRecDepth 100000 in
theorem jM_152_at : jt_Ms 152 = some jM_152 := rfl
noncomputable def F_SG_nose_b106 (s0 : Int32) (h : LH) : Option JOut :=
 some (jo_i (s0, h))
set_option maxRecDepth 100000 in
theorem F_SG_nose_b106_ok {d : Nat} {q : JOut} (hd : 4 ≤ d) {s0 : Int32} {u0 : Value} {u1 : Value} {u2 : Value} {u3 : Value} {u4 : Value} {u5 : Value} {h : LH} : F_SG_nose_b106 s0 h = some q → JR d jM_152 106 [u0, u1, u2, u3, u4, u5] [.int s0] h q := by
 unfold F_SG_nose_b106
 exact jr_riT 106 rfl rfl
noncomputable def F_SG_nose_b91 (k36 : Nat → Int32 → Int32 → Int32 → Int32 → LH → Option JOut) (l0 : Nat) (l1 : Int32) (l2 : Int32) (l3 : Int32) (l4 : Int32) (h : LH) : Option JOut :=
 k36 l0 l1 l2 l3 (l4 + (1 : Int32)) h
set_option maxRecDepth 100000 in
theorem F_SG_nose_b91_ok {d : Nat} {q : JOut} {k36 : Nat → Int32 → Int32 → Int32 → Int32 → LH → Option JOut} (hd : 4 ≤ d) (hk36 : ∀ (l0 : Nat) (l1 : Int32) (l2 : Int32) (l3 : Int32) (l4 : Int32) (u5 : Value) (h : LH), k36 l0 l1 l2 l3 l4 h = some q → JR d jM_152 36 [.ref l0, .int l1, .int l2, .int l3, .int l4, u5] [] h q) {l0 : Nat} {l1 : Int32} {l2 : Int32} {l3 : Int32} {l4 : Int32} {u5 : Value} {h : LH} : F_SG_nose_b91 k36 l0 l1 l2 l3 l4 h = some q → JR d jM_152 91 [.ref l0, .int l1, .int l2, .int l3, .int l4, u5] [] h q := by
 unfold F_SG_nose_b91
 exact jr_iinc 91 94 [.ref l0, .int l1, .int l2, .int l3, .int (l4 + (1 : Int32)), u5] rfl jc_i_1 rfl rfl rfl rfl
  (jr_goto 94 36 rfl rfl
  ((hk36 _ _ _ _ _ _ _)))
noncomputable def F_SG_nose_b85 (k36 : Nat → Int32 → Int32 → Int32 → Int32 → LH → Option JOut) (l0 : Nat) (l1 : Int32) (l4 : Int32) (l5 : Int32) (h : LH) : Option JOut :=
 F_SG_nose_b91 k36 l0 l1 l4 l5 l4 h
set_option maxRecDepth 100000 in
theorem F_SG_nose_b85_ok {d : Nat} {q : JOut} {k36 : Nat → Int32 → Int32 → Int32 → Int32 → LH → Option JOut} (hd : 4 ≤ d) (hk36 : ∀ (l0 : Nat) (l1 : Int32) (l2 : Int32) (l3 : Int32) (l4 : Int32) (u5 : Value) (h : LH), k36 l0 l1 l2 l3 l4 h = some q → JR d jM_152 36 [.ref l0, .int l1, .int l2, .int l3, .int l4, u5] [] h q) {l0 : Nat} {l1 : Int32} {l4 : Int32} {l5 : Int32} {u2 : Value} {u3 : Value} {h : LH} : F_SG_nose_b85 k36 l0 l1 l4 l5 h = some q → JR d jM_152 85 [.ref l0, .int l1, u2, u3, .int l4, .int l5] [] h q := by
 unfold F_SG_nose_b85
 exact jr_iload 85 87 rfl rfl rfl
  (jr_istoren 87 88 [.ref l0, .int l1, .int l4, u3, .int l4, .int l5] rfl rfl rfl rfl
  (jr_iload 88 90 rfl rfl rfl
  (jr_istoren 90 91 [.ref l0, .int l1, .int l4, .int l5, .int l4, .int l5] rfl rfl rfl rfl
  ((F_SG_nose_b91_ok hd hk36)))))
noncomputable def F_SG_nose_c36 (k36 : Nat → Int32 → Int32 → Int32 → Int32 → LH → Option JOut) (l0 : Nat) (l1 : Int32) (l2 : Int32) (l3 : Int32) (l4 : Int32) (h : LH) : Option JOut :=
 jf_gr h l0 10 2 fun v1 =>
 jf_gr h v1 6 1 fun v2 =>
 jf_gi h v2 8 0 fun v3 =>
 if l4 < v3 then
 jf_gr h l0 10 12 fun v4 =>
 jf_kd h v4 0
 (jf_bi (F_Book_worstSmell v4 l4 h) fun v5 h6 =>
 jf_gr h6 l0 10 12 fun v7 =>
 jf_kd h6 v7 0
 (jf_bi (F_Book_has v7 l4 h6) fun v8 h9 =>
 if v8 = 0 then
 if l2 = (-1 : Int32) then
 F_SG_nose_b85 k36 l0 l1 l4 v5 h9
else
 if v5 < l3 then
 F_SG_nose_b85 k36 l0 l1 l4 v5 h9
else
 F_SG_nose_b91 k36 l0 l1 l2 l3 l4 h9
else
 F_SG_nose_b91 k36 l0 l1 l2 l3 l4 h9))
else
 if l1 = 0 then
 F_SG_nose_b106  l2 h
else
 F_SG_nose_b106  l3 h
set_option maxRecDepth 100000 in
theorem F_SG_nose_c36_ok {d : Nat} {q : JOut} {k36 : Nat → Int32 → Int32 → Int32 → Int32 → LH → Option JOut} (hd : 4 ≤ d) (hk36 : ∀ (l0 : Nat) (l1 : Int32) (l2 : Int32) (l3 : Int32) (l4 : Int32) (u5 : Value) (h : LH), k36 l0 l1 l2 l3 l4 h = some q → JR d jM_152 36 [.ref l0, .int l1, .int l2, .int l3, .int l4, u5] [] h q) {l0 : Nat} {l1 : Int32} {l2 : Int32} {l3 : Int32} {l4 : Int32} {u5 : Value} {h : LH} : F_SG_nose_c36 k36 l0 l1 l2 l3 l4 h = some q → JR d jM_152 36 [.ref l0, .int l1, .int l2, .int l3, .int l4, u5] [] h q := by
 unfold F_SG_nose_c36
 exact jr_iload 36 38 rfl rfl rfl
  (jr_aloadn 38 39 rfl rfl rfl
  (jr_gr 39 42 rfl jg_10_34_2 rfl (fun v1 =>
  jr_gr 42 45 rfl jg_10_120_2 rfl (fun v2 =>
  jr_gi 45 48 rfl jg_10_144_1 rfl (fun v3 =>
  jr_icmp_ge 48 97 51 rfl rfl rfl
  (jr_iloadn 97 98 rfl rfl rfl
  (jr_if_ne 98 105 101 rfl rfl rfl
  (jr_iloadn 105 106 rfl rfl rfl
  ((F_SG_nose_b106_ok hd )))
  (jr_iloadn 101 102 rfl rfl rfl
  (jr_goto 102 106 rfl rfl
  ((F_SG_nose_b106_ok hd ))))))
  (jr_aloadn 51 52 rfl rfl rfl
  (jr_gr 52 55 rfl jg_10_91_2 rfl (fun v4 =>
  jr_iload 55 57 rfl rfl rfl
  (jr_cVi 57 60 [] rfl rfl rfl rfl rfl rfl rfl rfl (as := [.int l4]) (F_Book_worstSmell_ok (Nat.le_trans (by decide : 1 ≤ 4) hd)) (fun v5 h6 =>
  jr_istore 60 62 [.ref l0, .int l1, .int l2, .int l3, .int l4, .int v5] rfl rfl rfl rfl
  (jr_aloadn 62 63 rfl rfl rfl
  (jr_gr 63 66 rfl jg_10_91_2 rfl (fun v7 =>
  jr_iload 66 68 rfl rfl rfl
  (jr_cVi 68 71 [] rfl rfl rfl rfl rfl rfl rfl rfl (as := [.int l4]) (F_Book_has_ok (Nat.le_trans (by decide : 1 ≤ 4) hd)) (fun v8 h9 =>
  jr_if_ne 71 91 74 rfl rfl rfl
  ((F_SG_nose_b91_ok hd hk36))
  (jr_iloadn 74 75 rfl rfl rfl
  (jr_iconst 75 76 (-1 : Int32) rfl jc_i_m1 rfl
  (jr_icmp_eq 76 85 79 rfl rfl rfl
  ((F_SG_nose_b85_ok hd hk36))
  (jr_iload 79 81 rfl rfl rfl
  (jr_iloadn 81 82 rfl rfl rfl
  (jr_icmp_ge 82 91 85 rfl rfl rfl
  ((F_SG_nose_b91_ok hd hk36))
  ((F_SG_nose_b85_ok hd hk36)))))))))))))))))))))))
noncomputable def F_SG_nose_l36 : Nat → Nat → Int32 → Int32 → Int32 → Int32 → LH → Option JOut
 | 0, _, _, _, _, _, _ => none
 | n + 1, l0, l1, l2, l3, l4, h => F_SG_nose_c36 (F_SG_nose_l36 n) l0 l1 l2 l3 l4 h
theorem F_SG_nose_l36_ok {d : Nat} {q : JOut} (hd : 4 ≤ d) : ∀ (n : Nat) (l0 : Nat) (l1 : Int32) (l2 : Int32) (l3 : Int32) (l4 : Int32) (u5 : Value) (h : LH), F_SG_nose_l36 n l0 l1 l2 l3 l4 h = some q → JR d jM_152 36 [.ref l0, .int l1, .int l2, .int l3, .int l4, u5] [] h q
 | 0 => fun _ _ _ _ _ _ _ hq => nomatch (show (none : Option JOut) = some q from hq)
 | n + 1 => fun _ _ _ _ _ _ _ hq => F_SG_nose_c36_ok hd (F_SG_nose_l36_ok hd n) hq
noncomputable def F_SG_nose_b15 (l0 : Nat) (l1 : Int32) (s0 : Nat) (s1 : Int32) (h : LH) : Option JOut :=
 jf_kd h s0 10
 (jf_th (F_SG_needArgument s0 s1 h) fun h1 =>
 jf_gr h1 l0 10 12 fun v2 =>
 jf_gr h1 l0 10 2 fun v3 =>
 jf_kd h1 v2 0
 ((F_Book_tallySmells v2 v3 h1).bind fun h4 =>
 F_SG_nose_l36  jF l0 l1 (-1 : Int32) (-1 : Int32) (0 : Int32) h4))
set_option maxRecDepth 100000 in
theorem F_SG_nose_b15_ok {d : Nat} {q : JOut} (hd : 4 ≤ d) {l0 : Nat} {l1 : Int32} {s0 : Nat} {s1 : Int32} {u2 : Value} {u3 : Value} {u4 : Value} {u5 : Value} {h : LH} : F_SG_nose_b15 l0 l1 s0 s1 h = some q → JR d jM_152 15 [.ref l0, .int l1, u2, u3, u4, u5] [.int s1, .ref s0] h q := by
 unfold F_SG_nose_b15
 exact jr_cVt 15 18 [] rfl rfl rfl rfl rfl rfl rfl rfl rfl (as := [.int s1]) (F_SG_needArgument_ok (Nat.le_trans (by decide : 1 ≤ 4) hd)) (fun h1 =>
  jr_aloadn 18 19 rfl rfl rfl
  (jr_gr 19 22 rfl jg_10_91_2 rfl (fun v2 =>
  jr_aloadn 22 23 rfl rfl rfl
  (jr_gr 23 26 rfl jg_10_34_2 rfl (fun v3 =>
  jr_cVv 26 29 [] rfl rfl rfl rfl rfl rfl rfl rfl (as := [.ref v3]) (F_Book_tallySmells_ok (Nat.le_trans (by decide : 4 ≤ 4) hd)) (fun h4 =>
  jr_iconst 29 30 (-1 : Int32) rfl jc_i_m1 rfl
  (jr_istoren 30 31 [.ref l0, .int l1, .int (-1 : Int32), u3, u4, u5] rfl rfl rfl rfl
  (jr_iconst 31 32 (-1 : Int32) rfl jc_i_m1 rfl
  (jr_istoren 32 33 [.ref l0, .int l1, .int (-1 : Int32), .int (-1 : Int32), u4, u5] rfl rfl rfl rfl
  (jr_iconst 33 34 (0 : Int32) rfl jc_i_0 rfl
  (jr_istore 34 36 [.ref l0, .int l1, .int (-1 : Int32), .int (-1 : Int32), .int (0 : Int32), u5] rfl rfl rfl rfl
  ((F_SG_nose_l36_ok hd  jF _ _ _ _ _ _ _)))))))))))))
noncomputable def F_SG_nose_b10 (l0 : Nat) (l1 : Int32) (s0 : Nat) (h : LH) : Option JOut :=
 F_SG_nose_b15  l0 l1 s0 (1 : Int32) h
set_option maxRecDepth 100000 in
theorem F_SG_nose_b10_ok {d : Nat} {q : JOut} (hd : 4 ≤ d) {l0 : Nat} {l1 : Int32} {s0 : Nat} {u2 : Value} {u3 : Value} {u4 : Value} {u5 : Value} {h : LH} : F_SG_nose_b10 l0 l1 s0 h = some q → JR d jM_152 10 [.ref l0, .int l1, u2, u3, u4, u5] [.ref s0] h q := by
 unfold F_SG_nose_b10
 exact jr_iconst 10 11 (1 : Int32) rfl jc_i_1 rfl
  (jr_goto 11 15 rfl rfl
  ((F_SG_nose_b15_ok hd )))
noncomputable def F_SG_nose (l0 : Nat) (l1 : Int32) (h : LH) : Option JOut :=
 if l1 = 0 then
 F_SG_nose_b10  l0 l1 l0 h
else
 if l1 = (1 : Int32) then
 F_SG_nose_b10  l0 l1 l0 h
else
 F_SG_nose_b15  l0 l1 l0 (0 : Int32) h
set_option maxRecDepth 100000 in
theorem F_SG_nose_ok {d : Nat} (hd : 5 ≤ d) {l0 : Nat} {l1 : Int32} {h : LH} {q : JOut} : F_SG_nose l0 l1 h = some q → jl_Sem jt_T jt_Ms d 152 [.ref l0, .int l1] h q := by
 unfold F_SG_nose
 exact jr_enter (D := 4) hd jM_152_at rfl rfl rfl (fun d hd =>
  jr_aloadn 0 1 rfl rfl rfl
  (jr_iloadn 1 2 rfl rfl rfl
  (jr_if_eq 2 10 5 rfl rfl rfl
  ((F_SG_nose_b10_ok hd ))
  (jr_iloadn 5 6 rfl rfl rfl
  (jr_iconst 6 7 (1 : Int32) rfl jc_i_1 rfl
  (jr_icmp_ne 7 14 10 rfl rfl rfl
  (jr_iconst 14 15 (0 : Int32) rfl jc_i_0 rfl
  ((F_SG_nose_b15_ok hd )))
  ((F_SG_nose_b10_ok hd ))))))))
noncomputable def jM_153 : JMeth := (10, false, 1, jk_153, [], 4)
set_option maxRecDepth 100000 in
theorem jM_153_at : jt_Ms 153 = some jM_153 := rfl
noncomputable def F_SG_siege_b50 (s0 : Int32) (h : LH) : Option JOut :=
 some (jo_i (s0, h))
set_option maxRecDepth 100000 in
theorem F_SG_siege_b50_ok {d : Nat} {q : JOut} (hd : 2 ≤ d) {s0 : Int32} {u0 : Value} {u1 : Value} {u2 : Value} {u3 : Value} {h : LH} : F_SG_siege_b50 s0 h = some q → JR d jM_153 50 [u0, u1, u2, u3] [.int s0] h q := by
 unfold F_SG_siege_b50
 exact jr_riT 50 rfl rfl
noncomputable def F_SG_siege_b26 (l0 : Nat) (l1 : Int32) (l2 : Int32) (s0 : Nat) (s1 : Int32) (h : LH) : Option JOut :=
 jf_kd h s0 10
 (jf_th (F_SG_needArgument s0 s1 h) fun h1 =>
 jf_gr h1 l0 10 2 fun v2 =>
 jf_kd h1 v2 6
 (jf_bi (F_Scene_allStored v2 h1) fun v3 h4 =>
 if l2 = 0 then
 jf_dv l1 (v3 / l1) fun v6 =>
 F_SG_siege_b50  v6 h4
else
 jf_dv l1 (v3 - v3 / l1 * l1) fun v5 =>
 F_SG_siege_b50  v5 h4))
set_option maxRecDepth 100000 in
theorem F_SG_siege_b26_ok {d : Nat} {q : JOut} (hd : 2 ≤ d) {l0 : Nat} {l1 : Int32} {l2 : Int32} {s0 : Nat} {s1 : Int32} {u3 : Value} {h : LH} : F_SG_siege_b26 l0 l1 l2 s0 s1 h = some q → JR d jM_153 26 [.ref l0, .int l1, .int l2, u3] [.int s1, .ref s0] h q := by
 unfold F_SG_siege_b26
 exact jr_cVt 26 29 [] rfl rfl rfl rfl rfl rfl rfl rfl rfl (as := [.int s1]) (F_SG_needArgument_ok (Nat.le_trans (by decide : 1 ≤ 2) hd)) (fun h1 =>
  jr_aloadn 29 30 rfl rfl rfl
  (jr_gr 30 33 rfl jg_10_34_2 rfl (fun v2 =>
  jr_cVi 33 36 [] rfl rfl rfl rfl rfl rfl rfl rfl (as := []) (F_Scene_allStored_ok (Nat.le_trans (by decide : 2 ≤ 2) hd)) (fun v3 h4 =>
  jr_istoren 36 37 [.ref l0, .int l1, .int l2, .int v3] rfl rfl rfl rfl
  (jr_iloadn 37 38 rfl rfl rfl
  (jr_if_ne 38 47 41 rfl rfl rfl
  (jr_iloadn 47 48 rfl rfl rfl
  (jr_iloadn 48 49 rfl rfl rfl
  (jr_irem 49 50 rfl rfl (fun v5 =>
  (F_SG_siege_b50_ok hd )))))
  (jr_iloadn 41 42 rfl rfl rfl
  (jr_iloadn 42 43 rfl rfl rfl
  (jr_idiv 43 44 rfl rfl (fun v6 =>
  jr_goto 44 50 rfl rfl
  ((F_SG_siege_b50_ok hd ))))))))))))
noncomputable def F_SG_siege_b25 (l0 : Nat) (l1 : Int32) (l2 : Int32) (s0 : Nat) (h : LH) : Option JOut :=
 F_SG_siege_b26  l0 l1 l2 s0 (0 : Int32) h
set_option maxRecDepth 100000 in
theorem F_SG_siege_b25_ok {d : Nat} {q : JOut} (hd : 2 ≤ d) {l0 : Nat} {l1 : Int32} {l2 : Int32} {s0 : Nat} {u3 : Value} {h : LH} : F_SG_siege_b25 l0 l1 l2 s0 h = some q → JR d jM_153 25 [.ref l0, .int l1, .int l2, u3] [.ref s0] h q := by
 unfold F_SG_siege_b25
 exact jr_iconst 25 26 (0 : Int32) rfl jc_i_0 rfl
  ((F_SG_siege_b26_ok hd ))
noncomputable def F_SG_siege_b21 (l0 : Nat) (l1 : Int32) (l2 : Int32) (s0 : Nat) (h : LH) : Option JOut :=
 F_SG_siege_b26  l0 l1 l2 s0 (1 : Int32) h
set_option maxRecDepth 100000 in
theorem F_SG_siege_b21_ok {d : Nat} {q : JOut} (hd : 2 ≤ d) {l0 : Nat} {l1 : Int32} {l2 : Int32} {s0 : Nat} {u3 : Value} {h : LH} : F_SG_siege_b21 l0 l1 l2 s0 h = some q → JR d jM_153 21 [.ref l0, .int l1, .int l2, u3] [.ref s0] h q := by
 unfold F_SG_siege_b21
 exact jr_iconst 21 22 (1 : Int32) rfl jc_i_1 rfl
  (jr_goto 22 26 rfl rfl
  ((F_SG_siege_b26_ok hd )))
noncomputable def F_SG_siege (l0 : Nat) (l1 : Int32) (l2 : Int32) (h : LH) : Option JOut :=
 if l1 < (1 : Int32) then
 F_SG_siege_b25  l0 l1 l2 l0 h
else
 if (9 : Int32) < l1 then
 F_SG_siege_b25  l0 l1 l2 l0 h
else
 if l2 = 0 then
 F_SG_siege_b21  l0 l1 l2 l0 h
else
 if l2 = (1 : Int32) then
 F_SG_siege_b21  l0 l1 l2 l0 h
else
 F_SG_siege_b25  l0 l1 l2 l0 h
set_option maxRecDepth 100000 in
theorem F_SG_siege_ok {d : Nat} (hd : 3 ≤ d) {l0 : Nat} {l1 : Int32} {l2 : Int32} {h : LH} {q : JOut} : F_SG_siege l0 l1 l2 h = some q → jl_Sem jt_T jt_Ms d 153 [.ref l0, .int l1, .int l2] h q := by
 unfold F_SG_siege
 exact jr_enter (D := 2) hd jM_153_at rfl rfl rfl (fun d hd =>
  jr_aloadn 0 1 rfl rfl rfl
  (jr_iloadn 1 2 rfl rfl rfl
  (jr_iconst 2 3 (1 : Int32) rfl jc_i_1 rfl
  (jr_icmp_lt 3 25 6 rfl rfl rfl
  ((F_SG_siege_b25_ok hd ))
  (jr_iloadn 6 7 rfl rfl rfl
  (jr_bipush 7 9 (9 : Int32) rfl jc_b_9 rfl
  (jr_icmp_gt 9 25 12 rfl rfl rfl
  ((F_SG_siege_b25_ok hd ))
  (jr_iloadn 12 13 rfl rfl rfl
  (jr_if_eq 13 21 16 rfl rfl rfl
  ((F_SG_siege_b21_ok hd ))
  (jr_iloadn 16 17 rfl rfl rfl
  (jr_iconst 17 18 (1 : Int32) rfl jc_i_1 rfl
  (jr_icmp_ne 18 25 21 rfl rfl rfl
  ((F_SG_siege_b25_ok hd ))
  ((F_SG_siege_b21_ok hd ))))))))))))))
noncomputable def jM_154 : JMeth := (10, false, 1, jk_154, [], 3)
set_option maxRecDepth 100000 in
theorem jM_154_at : jt_Ms 154 = some jM_154 := rfl
noncomputable def F_SG_distance_b42 (l0 : Nat) (l1 : Int32) (l2 : Int32) (s0 : Nat) (s1 : Int32) (h : LH) : Option JOut :=
 jf_kd h s0 10
 (jf_th (F_SG_needElement s0 s1 h) fun h1 =>
 jf_gr h1 l0 10 2 fun v2 =>
 jf_gr h1 v2 6 1 fun v3 =>
 jf_gr h1 v3 8 17 fun v4 =>
 jf_ia h1 v4 l1 fun v5 =>
 jf_gr h1 l0 10 2 fun v6 =>
 jf_gr h1 v6 6 1 fun v7 =>
 jf_gr h1 v7 8 17 fun v8 =>
 jf_ia h1 v8 l2 fun v9 =>
 jf_bi (F_Int_bitCount (v5 ^^^ v9) h1) fun v10 h11 =>
 some (jo_i (v10, h11)))
set_option maxRecDepth 100000 in
theorem F_SG_distance_b42_ok {d : Nat} {q : JOut} (hd : 1 ≤ d) {l0 : Nat} {l1 : Int32} {l2 : Int32} {s0 : Nat} {s1 : Int32} {h : LH} : F_SG_distance_b42 l0 l1 l2 s0 s1 h = some q → JR d jM_154 42 [.ref l0, .int l1, .int l2] [.int s1, .ref s0] h q := by
 unfold F_SG_distance_b42
 exact jr_cVt 42 45 [] rfl rfl rfl rfl rfl rfl rfl rfl rfl (as := [.int s1]) (F_SG_needElement_ok (Nat.le_trans (by decide : 1 ≤ 1) hd)) (fun h1 =>
  jr_aloadn 45 46 rfl rfl rfl
  (jr_gr 46 49 rfl jg_10_34_2 rfl (fun v2 =>
  jr_gr 49 52 rfl jg_10_120_2 rfl (fun v3 =>
  jr_gr 52 55 rfl jg_10_324_2 rfl (fun v4 =>
  jr_iloadn 55 56 rfl rfl rfl
  (jr_ia 56 57 rfl rfl (fun v5 =>
  jr_aloadn 57 58 rfl rfl rfl
  (jr_gr 58 61 rfl jg_10_34_2 rfl (fun v6 =>
  jr_gr 61 64 rfl jg_10_120_2 rfl (fun v7 =>
  jr_gr 64 67 rfl jg_10_324_2 rfl (fun v8 =>
  jr_iloadn 67 68 rfl rfl rfl
  (jr_ia 68 69 rfl rfl (fun v9 =>
  jr_ixor 69 70 rfl rfl
  (jr_cSi 70 73 [] rfl rfl rfl rfl rfl rfl rfl (as := [.int (v5 ^^^ v9)]) (F_Int_bitCount_ok (Nat.le_trans (by decide : 1 ≤ 1) hd)) (fun v10 h11 =>
  jr_riT 73 rfl rfl)))))))))))))))
noncomputable def F_SG_distance_b41 (l0 : Nat) (l1 : Int32) (l2 : Int32) (s0 : Nat) (h : LH) : Option JOut :=
 F_SG_distance_b42  l0 l1 l2 s0 (0 : Int32) h
set_option maxRecDepth 100000 in
theorem F_SG_distance_b41_ok {d : Nat} {q : JOut} (hd : 1 ≤ d) {l0 : Nat} {l1 : Int32} {l2 : Int32} {s0 : Nat} {h : LH} : F_SG_distance_b41 l0 l1 l2 s0 h = some q → JR d jM_154 41 [.ref l0, .int l1, .int l2] [.ref s0] h q := by
 unfold F_SG_distance_b41
 exact jr_iconst 41 42 (0 : Int32) rfl jc_i_0 rfl
  ((F_SG_distance_b42_ok hd ))
noncomputable def F_SG_distance (l0 : Nat) (l1 : Int32) (l2 : Int32) (h : LH) : Option JOut :=
 if l1 < 0 then
 F_SG_distance_b41  l0 l1 l2 l0 h
else
 jf_gr h l0 10 2 fun v1 =>
 jf_gr h v1 6 1 fun v2 =>
 jf_gi h v2 8 5 fun v3 =>
 if l1 < v3 then
 if l2 < 0 then
 F_SG_distance_b41  l0 l1 l2 l0 h
else
 jf_gr h l0 10 2 fun v4 =>
 jf_gr h v4 6 1 fun v5 =>
 jf_gi h v5 8 5 fun v6 =>
 if l2 < v6 then
 F_SG_distance_b42  l0 l1 l2 l0 (1 : Int32) h
else
 F_SG_distance_b41  l0 l1 l2 l0 h
else
 F_SG_distance_b41  l0 l1 l2 l0 h
set_option maxRecDepth 100000 in
theorem F_SG_distance_ok {d : Nat} (hd : 2 ≤ d) {l0 : Nat} {l1 : Int32} {l2 : Int32} {h : LH} {q : JOut} : F_SG_distance l0 l1 l2 h = some q → jl_Sem jt_T jt_Ms d 154 [.ref l0, .int l1, .int l2] h q := by
 unfold F_SG_distance
 exact jr_enter (D := 1) hd jM_154_at rfl rfl rfl (fun d hd =>
  jr_aloadn 0 1 rfl rfl rfl
  (jr_iloadn 1 2 rfl rfl rfl
  (jr_if_lt 2 41 5 rfl rfl rfl
  ((F_SG_distance_b41_ok hd ))
  (jr_iloadn 5 6 rfl rfl rfl
  (jr_aloadn 6 7 rfl rfl rfl
  (jr_gr 7 10 rfl jg_10_34_2 rfl (fun v1 =>
  jr_gr 10 13 rfl jg_10_120_2 rfl (fun v2 =>
  jr_gi 13 16 rfl jg_10_181_1 rfl (fun v3 =>
  jr_icmp_ge 16 41 19 rfl rfl rfl
  ((F_SG_distance_b41_ok hd ))
  (jr_iloadn 19 20 rfl rfl rfl
  (jr_if_lt 20 41 23 rfl rfl rfl
  ((F_SG_distance_b41_ok hd ))
  (jr_iloadn 23 24 rfl rfl rfl
  (jr_aloadn 24 25 rfl rfl rfl
  (jr_gr 25 28 rfl jg_10_34_2 rfl (fun v4 =>
  jr_gr 28 31 rfl jg_10_120_2 rfl (fun v5 =>
  jr_gi 31 34 rfl jg_10_181_1 rfl (fun v6 =>
  jr_icmp_ge 34 41 37 rfl rfl rfl
  ((F_SG_distance_b41_ok hd ))
  (jr_iconst 37 38 (1 : Int32) rfl jc_i_1 rfl
  (jr_goto 38 42 rfl rfl
  ((F_SG_distance_b42_ok hd )))))))))))))))))))))
noncomputable def jM_155 : JMeth := (10, false, 1, jk_155, [], 2)
set_option maxRecDepth 100000 in
theorem jM_155_at : jt_Ms 155 = some jM_155 := rfl
noncomputable def F_SG_read_b17 (l0 : Nat) (l1 : Int32) (s0 : Nat) (s1 : Int32) (h : LH) : Option JOut :=
 jf_kd h s0 10
 (jf_th (F_SG_needArgument s0 s1 h) fun h1 =>
 jf_gr h1 l0 10 2 fun v2 =>
 jf_gr h1 v2 6 1 fun v3 =>
 jf_kd h1 v3 8
 (jf_bi (F_Town_nearestSignal v3 l1 h1) fun v4 h5 =>
 some (jo_i (v4, h5))))
set_option maxRecDepth 100000 in
theorem F_SG_read_b17_ok {d : Nat} {q : JOut} (hd : 2 ≤ d) {l0 : Nat} {l1 : Int32} {s0 : Nat} {s1 : Int32} {h : LH} : F_SG_read_b17 l0 l1 s0 s1 h = some q → JR d jM_155 17 [.ref l0, .int l1] [.int s1, .ref s0] h q := by
 unfold F_SG_read_b17
 exact jr_cVt 17 20 [] rfl rfl rfl rfl rfl rfl rfl rfl rfl (as := [.int s1]) (F_SG_needArgument_ok (Nat.le_trans (by decide : 1 ≤ 2) hd)) (fun h1 =>
  jr_aloadn 20 21 rfl rfl rfl
  (jr_gr 21 24 rfl jg_10_34_2 rfl (fun v2 =>
  jr_gr 24 27 rfl jg_10_120_2 rfl (fun v3 =>
  jr_iloadn 27 28 rfl rfl rfl
  (jr_cVi 28 31 [] rfl rfl rfl rfl rfl rfl rfl rfl (as := [.int l1]) (F_Town_nearestSignal_ok (Nat.le_trans (by decide : 2 ≤ 2) hd)) (fun v4 h5 =>
  jr_riT 31 rfl rfl))))))
noncomputable def F_SG_read_b16 (l0 : Nat) (l1 : Int32) (s0 : Nat) (h : LH) : Option JOut :=
 F_SG_read_b17  l0 l1 s0 (0 : Int32) h
set_option maxRecDepth 100000 in
theorem F_SG_read_b16_ok {d : Nat} {q : JOut} (hd : 2 ≤ d) {l0 : Nat} {l1 : Int32} {s0 : Nat} {h : LH} : F_SG_read_b16 l0 l1 s0 h = some q → JR d jM_155 16 [.ref l0, .int l1] [.ref s0] h q := by
 unfold F_SG_read_b16
 exact jr_iconst 16 17 (0 : Int32) rfl jc_i_0 rfl
  ((F_SG_read_b17_ok hd ))
noncomputable def F_SG_read (l0 : Nat) (l1 : Int32) (h : LH) : Option JOut :=
 if l1 < 0 then
 F_SG_read_b16  l0 l1 l0 h
else
 if (511 : Int32) < l1 then
 F_SG_read_b16  l0 l1 l0 h
else
 F_SG_read_b17  l0 l1 l0 (1 : Int32) h
set_option maxRecDepth 100000 in
theorem F_SG_read_ok {d : Nat} (hd : 3 ≤ d) {l0 : Nat} {l1 : Int32} {h : LH} {q : JOut} : F_SG_read l0 l1 h = some q → jl_Sem jt_T jt_Ms d 155 [.ref l0, .int l1] h q := by
 unfold F_SG_read
 exact jr_enter (D := 2) hd jM_155_at rfl rfl rfl (fun d hd =>
  jr_aloadn 0 1 rfl rfl rfl
  (jr_iloadn 1 2 rfl rfl rfl
  (jr_if_lt 2 16 5 rfl rfl rfl
  ((F_SG_read_b16_ok hd ))
  (jr_iloadn 5 6 rfl rfl rfl
  (jr_sipush 6 9 (511 : Int32) rfl jc_s_511 rfl
  (jr_icmp_gt 9 16 12 rfl rfl rfl
  ((F_SG_read_b16_ok hd ))
  (jr_iconst 12 13 (1 : Int32) rfl jc_i_1 rfl
  (jr_goto 13 17 rfl rfl
  ((F_SG_read_b17_ok hd ))))))))))
noncomputable def jM_157 : JMeth := (10, false, 1, jk_157, [], 5)
set_option maxRecDepth 100000 in
theorem jM_157_at : jt_Ms 157 = some jM_157 := rfl
noncomputable def F_SG_givenBy_b46 (k5 : Nat → Int32 → Int32 → Int32 → Int32 → LH → Option (Int32 × LH)) (l0 : Nat) (l1 : Int32) (l2 : Int32) (l3 : Int32) (l4 : Int32) (h : LH) : Option (Int32 × LH) :=
 k5 l0 l1 l2 l3 (l4 + (1 : Int32)) h
set_option maxRecDepth 100000 in
theorem F_SG_givenBy_b46_ok {d : Nat} {q : (Int32 × LH)} {k5 : Nat → Int32 → Int32 → Int32 → Int32 → LH → Option (Int32 × LH)} (hd : 1 ≤ d) (hk5 : ∀ (l0 : Nat) (l1 : Int32) (l2 : Int32) (l3 : Int32) (l4 : Int32) (h : LH), k5 l0 l1 l2 l3 l4 h = some q → JR d jM_157 5 [.ref l0, .int l1, .int l2, .int l3, .int l4] [] h (jo_i q)) {l0 : Nat} {l1 : Int32} {l2 : Int32} {l3 : Int32} {l4 : Int32} {h : LH} : F_SG_givenBy_b46 k5 l0 l1 l2 l3 l4 h = some q → JR d jM_157 46 [.ref l0, .int l1, .int l2, .int l3, .int l4] [] h (jo_i q) := by
 unfold F_SG_givenBy_b46
 exact jr_iinc 46 49 [.ref l0, .int l1, .int l2, .int l3, .int (l4 + (1 : Int32))] rfl jc_i_1 rfl rfl rfl rfl
  (jr_goto 49 5 rfl rfl
  ((hk5 _ _ _ _ _ _)))
noncomputable def F_SG_givenBy_c5 (k5 : Nat → Int32 → Int32 → Int32 → Int32 → LH → Option (Int32 × LH)) (l0 : Nat) (l1 : Int32) (l2 : Int32) (l3 : Int32) (l4 : Int32) (h : LH) : Option (Int32 × LH) :=
 jf_gr h l0 10 2 fun v1 =>
 jf_gr h v1 6 1 fun v2 =>
 jf_gi h v2 8 0 fun v3 =>
 if l4 < v3 then
 if ((l1 >>> (l4 &&& 31)) &&& (1 : Int32)) = (1 : Int32) then
 jf_gr h l0 10 2 fun v4 =>
 jf_kd h v4 6
 (jf_bi (F_Scene_burning v4 l4 h) fun v5 h6 =>
 jf_let (l3 + (if v5 < l2 then v5 else l2)) fun v7 =>
 F_SG_givenBy_b46 k5 l0 l1 l2 v7 l4 h6)
else
 F_SG_givenBy_b46 k5 l0 l1 l2 l3 l4 h
else
 some (l3, h)
set_option maxRecDepth 100000 in
theorem F_SG_givenBy_c5_ok {d : Nat} {q : (Int32 × LH)} {k5 : Nat → Int32 → Int32 → Int32 → Int32 → LH → Option (Int32 × LH)} (hd : 1 ≤ d) (hk5 : ∀ (l0 : Nat) (l1 : Int32) (l2 : Int32) (l3 : Int32) (l4 : Int32) (h : LH), k5 l0 l1 l2 l3 l4 h = some q → JR d jM_157 5 [.ref l0, .int l1, .int l2, .int l3, .int l4] [] h (jo_i q)) {l0 : Nat} {l1 : Int32} {l2 : Int32} {l3 : Int32} {l4 : Int32} {h : LH} : F_SG_givenBy_c5 k5 l0 l1 l2 l3 l4 h = some q → JR d jM_157 5 [.ref l0, .int l1, .int l2, .int l3, .int l4] [] h (jo_i q) := by
 unfold F_SG_givenBy_c5
 exact jr_iload 5 7 rfl rfl rfl
  (jr_aloadn 7 8 rfl rfl rfl
  (jr_gr 8 11 rfl jg_10_34_2 rfl (fun v1 =>
  jr_gr 11 14 rfl jg_10_120_2 rfl (fun v2 =>
  jr_gi 14 17 rfl jg_10_144_1 rfl (fun v3 =>
  jr_icmp_ge 17 52 20 rfl rfl rfl
  (jr_iloadn 52 53 rfl rfl rfl
  (jr_ri 53 rfl rfl))
  (jr_iloadn 20 21 rfl rfl rfl
  (jr_iload 21 23 rfl rfl rfl
  (jr_ishr 23 24 rfl rfl
  (jr_iconst 24 25 (1 : Int32) rfl jc_i_1 rfl
  (jr_iand 25 26 rfl rfl
  (jr_iconst 26 27 (1 : Int32) rfl jc_i_1 rfl
  (jr_icmp_ne 27 46 30 rfl rfl rfl
  ((F_SG_givenBy_b46_ok hd hk5))
  (jr_iloadn 30 31 rfl rfl rfl
  (jr_iloadn 31 32 rfl rfl rfl
  (jr_aloadn 32 33 rfl rfl rfl
  (jr_gr 33 36 rfl jg_10_34_2 rfl (fun v4 =>
  jr_iload 36 38 rfl rfl rfl
  (jr_cVi 38 41 [.int l2, .int l3] rfl rfl rfl rfl rfl rfl rfl rfl (as := [.int l4]) (F_Scene_burning_ok (Nat.le_trans (by decide : 1 ≤ 1) hd)) (fun v5 h6 =>
  jr_min 41 44 rfl rfl rfl rfl
  (jr_iadd 44 45 rfl rfl
  (jr_istorenL 45 46 (fun v7 => [.ref l0, .int l1, .int l2, .int v7, .int l4]) rfl rfl (fun _ => rfl) rfl (fun v7 =>
  (F_SG_givenBy_b46_ok hd hk5)))))))))))))))))))))))
noncomputable def F_SG_givenBy_l5 : Nat → Nat → Int32 → Int32 → Int32 → Int32 → LH → Option (Int32 × LH)
 | 0, _, _, _, _, _, _ => none
 | n + 1, l0, l1, l2, l3, l4, h => F_SG_givenBy_c5 (F_SG_givenBy_l5 n) l0 l1 l2 l3 l4 h
theorem F_SG_givenBy_l5_ok {d : Nat} {q : (Int32 × LH)} (hd : 1 ≤ d) : ∀ (n : Nat) (l0 : Nat) (l1 : Int32) (l2 : Int32) (l3 : Int32) (l4 : Int32) (h : LH), F_SG_givenBy_l5 n l0 l1 l2 l3 l4 h = some q → JR d jM_157 5 [.ref l0, .int l1, .int l2, .int l3, .int l4] [] h (jo_i q)
 | 0 => fun _ _ _ _ _ _ hq => nomatch (show (none : Option (Int32 × LH)) = some q from hq)
 | n + 1 => fun _ _ _ _ _ _ hq => F_SG_givenBy_c5_ok hd (F_SG_givenBy_l5_ok hd n) hq
noncomputable def F_SG_givenBy (l0 : Nat) (l1 : Int32) (l2 : Int32) (h : LH) : Option (Int32 × LH) :=
 F_SG_givenBy_l5  jF l0 l1 l2 (0 : Int32) (0 : Int32) h
set_option maxRecDepth 100000 in
theorem F_SG_givenBy_ok {d : Nat} (hd : 2 ≤ d) {l0 : Nat} {l1 : Int32} {l2 : Int32} {h : LH} {q : (Int32 × LH)} : F_SG_givenBy l0 l1 l2 h = some q → jl_Sem jt_T jt_Ms d 157 [.ref l0, .int l1, .int l2] h (jo_i q) := by
 unfold F_SG_givenBy
 exact jr_enter (D := 1) hd jM_157_at rfl rfl rfl (fun d hd =>
  jr_iconst 0 1 (0 : Int32) rfl jc_i_0 rfl
  (jr_istoren 1 2 [.ref l0, .int l1, .int l2, .int (0 : Int32), .retAddr 0] rfl rfl rfl rfl
  (jr_iconst 2 3 (0 : Int32) rfl jc_i_0 rfl
  (jr_istore 3 5 [.ref l0, .int l1, .int l2, .int (0 : Int32), .int (0 : Int32)] rfl rfl rfl rfl
  ((F_SG_givenBy_l5_ok hd  jF _ _ _ _ _ _))))))
noncomputable def jM_156 : JMeth := (10, false, 1, jk_156, [], 5)
set_option maxRecDepth 100000 in
theorem jM_156_at : jt_Ms 156 = some jM_156 := rfl
noncomputable def F_SG_share_b68 (l0 : Nat) (l1 : Int32) (l4 : Int32) (h : LH) : Option JOut :=
 jf_gr h l0 10 2 fun v1 =>
 jf_kd h v1 6
 (jf_bi (F_Scene_burning v1 l1 h) fun v2 h3 =>
 some (jo_i ((if v2 < l4 then v2 else l4), h3)))
set_option maxRecDepth 100000 in
theorem F_SG_share_b68_ok {d : Nat} {q : JOut} (hd : 2 ≤ d) {l0 : Nat} {l1 : Int32} {l4 : Int32} {u2 : Value} {u3 : Value} {h : LH} : F_SG_share_b68 l0 l1 l4 h = some q → JR d jM_156 68 [.ref l0, .int l1, u2, u3, .int l4] [] h q := by
 unfold F_SG_share_b68
 exact jr_iload 68 70 rfl rfl rfl
  (jr_aloadn 70 71 rfl rfl rfl
  (jr_gr 71 74 rfl jg_10_34_2 rfl (fun v1 =>
  jr_iloadn 74 75 rfl rfl rfl
  (jr_cVi 75 78 [.int l4] rfl rfl rfl rfl rfl rfl rfl rfl (as := [.int l1]) (F_Scene_burning_ok (Nat.le_trans (by decide : 1 ≤ 2) hd)) (fun v2 h3 =>
  jr_min 78 81 rfl rfl rfl rfl
  (jr_riT 81 rfl rfl))))))
noncomputable def F_SG_share_c46 (k46 : Nat → Int32 → Int32 → Int32 → Int32 → LH → Option JOut) (l0 : Nat) (l1 : Int32) (l2 : Int32) (l3 : Int32) (l4 : Int32) (h : LH) : Option JOut :=
 if 0 < l4 then
 jf_kd h l0 10
 (jf_bi (F_SG_givenBy l0 l2 l4 h) fun v1 h2 =>
 if l3 < v1 then
 k46 l0 l1 l2 l3 (l4 + (-1 : Int32)) h2
else
 F_SG_share_b68  l0 l1 l4 h2)
else
 F_SG_share_b68  l0 l1 l4 h
set_option maxRecDepth 100000 in
theorem F_SG_share_c46_ok {d : Nat} {q : JOut} {k46 : Nat → Int32 → Int32 → Int32 → Int32 → LH → Option JOut} (hd : 2 ≤ d) (hk46 : ∀ (l0 : Nat) (l1 : Int32) (l2 : Int32) (l3 : Int32) (l4 : Int32) (h : LH), k46 l0 l1 l2 l3 l4 h = some q → JR d jM_156 46 [.ref l0, .int l1, .int l2, .int l3, .int l4] [] h q) {l0 : Nat} {l1 : Int32} {l2 : Int32} {l3 : Int32} {l4 : Int32} {h : LH} : F_SG_share_c46 k46 l0 l1 l2 l3 l4 h = some q → JR d jM_156 46 [.ref l0, .int l1, .int l2, .int l3, .int l4] [] h q := by
 unfold F_SG_share_c46
 exact jr_iload 46 48 rfl rfl rfl
  (jr_if_le 48 68 51 rfl rfl rfl
  ((F_SG_share_b68_ok hd ))
  (jr_aloadn 51 52 rfl rfl rfl
  (jr_iloadn 52 53 rfl rfl rfl
  (jr_iload 53 55 rfl rfl rfl
  (jr_cVi 55 58 [] rfl rfl rfl rfl rfl rfl rfl rfl (as := [.int l2, .int l4]) (F_SG_givenBy_ok (Nat.le_trans (by decide : 2 ≤ 2) hd)) (fun v1 h2 =>
  jr_iloadn 58 59 rfl rfl rfl
  (jr_icmp_le 59 68 62 rfl rfl rfl
  ((F_SG_share_b68_ok hd ))
  (jr_iinc 62 65 [.ref l0, .int l1, .int l2, .int l3, .int (l4 + (-1 : Int32))] rfl jc_i_m1 rfl rfl rfl rfl
  (jr_goto 65 46 rfl rfl
  ((hk46 _ _ _ _ _ _)))))))))))
noncomputable def F_SG_share_l46 : Nat → Nat → Int32 → Int32 → Int32 → Int32 → LH → Option JOut
 | 0, _, _, _, _, _, _ => none
 | n + 1, l0, l1, l2, l3, l4, h => F_SG_share_c46 (F_SG_share_l46 n) l0 l1 l2 l3 l4 h
theorem F_SG_share_l46_ok {d : Nat} {q : JOut} (hd : 2 ≤ d) : ∀ (n : Nat) (l0 : Nat) (l1 : Int32) (l2 : Int32) (l3 : Int32) (l4 : Int32) (h : LH), F_SG_share_l46 n l0 l1 l2 l3 l4 h = some q → JR d jM_156 46 [.ref l0, .int l1, .int l2, .int l3, .int l4] [] h q
 | 0 => fun _ _ _ _ _ _ hq => nomatch (show (none : Option JOut) = some q from hq)
 | n + 1 => fun _ _ _ _ _ _ hq => F_SG_share_c46_ok hd (F_SG_share_l46_ok hd n) hq
noncomputable def F_SG_share_b29 (l0 : Nat) (l1 : Int32) (l2 : Int32) (l3 : Int32) (s0 : Nat) (s1 : Int32) (h : LH) : Option JOut :=
 jf_kd h s0 10
 (jf_th (F_SG_needArgument s0 s1 h) fun h1 =>
 if ((l2 >>> (l1 &&& 31)) &&& (1 : Int32)) = 0 then
 some (jo_i ((0 : Int32), h1))
else
 F_SG_share_l46  jF l0 l1 l2 l3 (6 : Int32) h1)
set_option maxRecDepth 100000 in
theorem F_SG_share_b29_ok {d : Nat} {q : JOut} (hd : 2 ≤ d) {l0 : Nat} {l1 : Int32} {l2 : Int32} {l3 : Int32} {s0 : Nat} {s1 : Int32} {u4 : Value} {h : LH} : F_SG_share_b29 l0 l1 l2 l3 s0 s1 h = some q → JR d jM_156 29 [.ref l0, .int l1, .int l2, .int l3, u4] [.int s1, .ref s0] h q := by
 unfold F_SG_share_b29
 exact jr_cVt 29 32 [] rfl rfl rfl rfl rfl rfl rfl rfl rfl (as := [.int s1]) (F_SG_needArgument_ok (Nat.le_trans (by decide : 1 ≤ 2) hd)) (fun h1 =>
  jr_iloadn 32 33 rfl rfl rfl
  (jr_iloadn 33 34 rfl rfl rfl
  (jr_ishr 34 35 rfl rfl
  (jr_iconst 35 36 (1 : Int32) rfl jc_i_1 rfl
  (jr_iand 36 37 rfl rfl
  (jr_if_ne 37 42 40 rfl rfl rfl
  (jr_bipush 42 44 (6 : Int32) rfl jc_b_6 rfl
  (jr_istore 44 46 [.ref l0, .int l1, .int l2, .int l3, .int (6 : Int32)] rfl rfl rfl rfl
  ((F_SG_share_l46_ok hd  jF _ _ _ _ _ _))))
  (jr_iconst 40 41 (0 : Int32) rfl jc_i_0 rfl
  (jr_riT 41 rfl rfl))))))))
noncomputable def F_SG_share_b28 (l0 : Nat) (l1 : Int32) (l2 : Int32) (l3 : Int32) (s0 : Nat) (h : LH) : Option JOut :=
 F_SG_share_b29  l0 l1 l2 l3 s0 (0 : Int32) h
set_option maxRecDepth 100000 in
theorem F_SG_share_b28_ok {d : Nat} {q : JOut} (hd : 2 ≤ d) {l0 : Nat} {l1 : Int32} {l2 : Int32} {l3 : Int32} {s0 : Nat} {u4 : Value} {h : LH} : F_SG_share_b28 l0 l1 l2 l3 s0 h = some q → JR d jM_156 28 [.ref l0, .int l1, .int l2, .int l3, u4] [.ref s0] h q := by
 unfold F_SG_share_b28
 exact jr_iconst 28 29 (0 : Int32) rfl jc_i_0 rfl
  ((F_SG_share_b29_ok hd ))
noncomputable def F_SG_share (l0 : Nat) (l1 : Int32) (l2 : Int32) (l3 : Int32) (h : LH) : Option JOut :=
 jf_kd h l0 10
 (jf_th (F_SG_needGate l0 l1 h) fun h1 =>
 jf_kd h1 l0 10
 (jf_bi (F_SG_areGates l0 l2 h1) fun v2 h3 =>
 if v2 = 0 then
 F_SG_share_b28  l0 l1 l2 l3 l0 h3
else
 if l3 < 0 then
 F_SG_share_b28  l0 l1 l2 l3 l0 h3
else
 if (99 : Int32) < l3 then
 F_SG_share_b28  l0 l1 l2 l3 l0 h3
else
 F_SG_share_b29  l0 l1 l2 l3 l0 (1 : Int32) h3))
set_option maxRecDepth 100000 in
theorem F_SG_share_ok {d : Nat} (hd : 3 ≤ d) {l0 : Nat} {l1 : Int32} {l2 : Int32} {l3 : Int32} {h : LH} {q : JOut} : F_SG_share l0 l1 l2 l3 h = some q → jl_Sem jt_T jt_Ms d 156 [.ref l0, .int l1, .int l2, .int l3] h q := by
 unfold F_SG_share
 exact jr_enter (D := 2) hd jM_156_at rfl rfl rfl (fun d hd =>
  jr_aloadn 0 1 rfl rfl rfl
  (jr_iloadn 1 2 rfl rfl rfl
  (jr_cVt 2 5 [] rfl rfl rfl rfl rfl rfl rfl rfl rfl (as := [.int l1]) (F_SG_needGate_ok (Nat.le_trans (by decide : 2 ≤ 2) hd)) (fun h1 =>
  jr_aloadn 5 6 rfl rfl rfl
  (jr_aloadn 6 7 rfl rfl rfl
  (jr_iloadn 7 8 rfl rfl rfl
  (jr_cVi 8 11 [.ref l0] rfl rfl rfl rfl rfl rfl rfl rfl (as := [.int l2]) (F_SG_areGates_ok (Nat.le_trans (by decide : 1 ≤ 2) hd)) (fun v2 h3 =>
  jr_if_eq 11 28 14 rfl rfl rfl
  ((F_SG_share_b28_ok hd ))
  (jr_iloadn 14 15 rfl rfl rfl
  (jr_if_lt 15 28 18 rfl rfl rfl
  ((F_SG_share_b28_ok hd ))
  (jr_iloadn 18 19 rfl rfl rfl
  (jr_bipush 19 21 (99 : Int32) rfl jc_b_99 rfl
  (jr_icmp_gt 21 28 24 rfl rfl rfl
  ((F_SG_share_b28_ok hd ))
  (jr_iconst 24 25 (1 : Int32) rfl jc_i_1 rfl
  (jr_goto 25 29 rfl rfl
  ((F_SG_share_b29_ok hd )))))))))))))))))
noncomputable def jM_158 : JMeth := (10, false, 1, jk_158, [], 6)
set_option maxRecDepth 100000 in
theorem jM_158_at : jt_Ms 158 = some jM_158 := rfl
noncomputable def F_SG_crowd_b83 (s0 : Int32) (h : LH) : Option JOut :=
 some (jo_i (s0, h))
set_option maxRecDepth 100000 in
theorem F_SG_crowd_b83_ok {d : Nat} {q : JOut} (hd : 4 ≤ d) {s0 : Int32} {u0 : Value} {u1 : Value} {u2 : Value} {u3 : Value} {u4 : Value} {u5 : Value} {h : LH} : F_SG_crowd_b83 s0 h = some q → JR d jM_158 83 [u0, u1, u2, u3, u4, u5] [.int s0] h q := by
 unfold F_SG_crowd_b83
 exact jr_riT 83 rfl rfl
noncomputable def F_SG_crowd_b78 (l2 : Int32) (h : LH) : Option JOut :=
 F_SG_crowd_b83  l2 h
set_option maxRecDepth 100000 in
theorem F_SG_crowd_b78_ok {d : Nat} {q : JOut} (hd : 4 ≤ d) {l2 : Int32} {u0 : Value} {u1 : Value} {u3 : Value} {u4 : Value} {u5 : Value} {h : LH} : F_SG_crowd_b78 l2 h = some q → JR d jM_158 78 [u0, u1, .int l2, u3, u4, u5] [] h q := by
 unfold F_SG_crowd_b78
 exact jr_iloadn 78 79 rfl rfl rfl
  (jr_goto 79 83 rfl rfl
  ((F_SG_crowd_b83_ok hd )))
noncomputable def F_SG_crowd_b63 (k25 : Nat → Int32 → Int32 → Int32 → Int32 → LH → Option JOut) (l0 : Nat) (l1 : Int32) (l2 : Int32) (l3 : Int32) (l4 : Int32) (h : LH) : Option JOut :=
 k25 l0 l1 l2 l3 (l4 + (1 : Int32)) h
set_option maxRecDepth 100000 in
theorem F_SG_crowd_b63_ok {d : Nat} {q : JOut} {k25 : Nat → Int32 → Int32 → Int32 → Int32 → LH → Option JOut} (hd : 4 ≤ d) (hk25 : ∀ (l0 : Nat) (l1 : Int32) (l2 : Int32) (l3 : Int32) (l4 : Int32) (u5 : Value) (h : LH), k25 l0 l1 l2 l3 l4 h = some q → JR d jM_158 25 [.ref l0, .int l1, .int l2, .int l3, .int l4, u5] [] h q) {l0 : Nat} {l1 : Int32} {l2 : Int32} {l3 : Int32} {l4 : Int32} {u5 : Value} {h : LH} : F_SG_crowd_b63 k25 l0 l1 l2 l3 l4 h = some q → JR d jM_158 63 [.ref l0, .int l1, .int l2, .int l3, .int l4, u5] [] h q := by
 unfold F_SG_crowd_b63
 exact jr_iinc 63 66 [.ref l0, .int l1, .int l2, .int l3, .int (l4 + (1 : Int32)), u5] rfl jc_i_1 rfl rfl rfl rfl
  (jr_goto 66 25 rfl rfl
  ((hk25 _ _ _ _ _ _ _)))
noncomputable def F_SG_crowd_c25 (k25 : Nat → Int32 → Int32 → Int32 → Int32 → LH → Option JOut) (l0 : Nat) (l1 : Int32) (l2 : Int32) (l3 : Int32) (l4 : Int32) (h : LH) : Option JOut :=
 jf_gr h l0 10 2 fun v1 =>
 jf_gr h v1 6 1 fun v2 =>
 jf_gi h v2 8 0 fun v3 =>
 if l4 < v3 then
 jf_gr h l0 10 2 fun v4 =>
 jf_kd h v4 6
 (jf_bi (F_Scene_firesThatStandAt v4 l4 h) fun v5 h6 =>
 if l3 < v5 then
 F_SG_crowd_b63 k25 l0 l1 l4 v5 l4 h6
else
 F_SG_crowd_b63 k25 l0 l1 l2 l3 l4 h6)
else
 if l1 = 0 then
 F_SG_crowd_b78  l2 h
else
 if l2 = (-1 : Int32) then
 F_SG_crowd_b78  l2 h
else
 F_SG_crowd_b83  l3 h
set_option maxRecDepth 100000 in
theorem F_SG_crowd_c25_ok {d : Nat} {q : JOut} {k25 : Nat → Int32 → Int32 → Int32 → Int32 → LH → Option JOut} (hd : 4 ≤ d) (hk25 : ∀ (l0 : Nat) (l1 : Int32) (l2 : Int32) (l3 : Int32) (l4 : Int32) (u5 : Value) (h : LH), k25 l0 l1 l2 l3 l4 h = some q → JR d jM_158 25 [.ref l0, .int l1, .int l2, .int l3, .int l4, u5] [] h q) {l0 : Nat} {l1 : Int32} {l2 : Int32} {l3 : Int32} {l4 : Int32} {u5 : Value} {h : LH} : F_SG_crowd_c25 k25 l0 l1 l2 l3 l4 h = some q → JR d jM_158 25 [.ref l0, .int l1, .int l2, .int l3, .int l4, u5] [] h q := by
 unfold F_SG_crowd_c25
 exact jr_iload 25 27 rfl rfl rfl
  (jr_aloadn 27 28 rfl rfl rfl
  (jr_gr 28 31 rfl jg_10_34_2 rfl (fun v1 =>
  jr_gr 31 34 rfl jg_10_120_2 rfl (fun v2 =>
  jr_gi 34 37 rfl jg_10_144_1 rfl (fun v3 =>
  jr_icmp_ge 37 69 40 rfl rfl rfl
  (jr_iloadn 69 70 rfl rfl rfl
  (jr_if_eq 70 78 73 rfl rfl rfl
  ((F_SG_crowd_b78_ok hd ))
  (jr_iloadn 73 74 rfl rfl rfl
  (jr_iconst 74 75 (-1 : Int32) rfl jc_i_m1 rfl
  (jr_icmp_ne 75 82 78 rfl rfl rfl
  (jr_iloadn 82 83 rfl rfl rfl
  ((F_SG_crowd_b83_ok hd )))
  ((F_SG_crowd_b78_ok hd )))))))
  (jr_aloadn 40 41 rfl rfl rfl
  (jr_gr 41 44 rfl jg_10_34_2 rfl (fun v4 =>
  jr_iload 44 46 rfl rfl rfl
  (jr_cVi 46 49 [] rfl rfl rfl rfl rfl rfl rfl rfl (as := [.int l4]) (F_Scene_firesThatStandAt_ok (Nat.le_trans (by decide : 4 ≤ 4) hd)) (fun v5 h6 =>
  jr_istore 49 51 [.ref l0, .int l1, .int l2, .int l3, .int l4, .int v5] rfl rfl rfl rfl
  (jr_iload 51 53 rfl rfl rfl
  (jr_iloadn 53 54 rfl rfl rfl
  (jr_icmp_le 54 63 57 rfl rfl rfl
  ((F_SG_crowd_b63_ok hd hk25))
  (jr_iload 57 59 rfl rfl rfl
  (jr_istoren 59 60 [.ref l0, .int l1, .int l2, .int v5, .int l4, .int v5] rfl rfl rfl rfl
  (jr_iload 60 62 rfl rfl rfl
  (jr_istoren 62 63 [.ref l0, .int l1, .int l4, .int v5, .int l4, .int v5] rfl rfl rfl rfl
  ((F_SG_crowd_b63_ok hd hk25)))))))))))))))))))
noncomputable def F_SG_crowd_l25 : Nat → Nat → Int32 → Int32 → Int32 → Int32 → LH → Option JOut
 | 0, _, _, _, _, _, _ => none
 | n + 1, l0, l1, l2, l3, l4, h => F_SG_crowd_c25 (F_SG_crowd_l25 n) l0 l1 l2 l3 l4 h
theorem F_SG_crowd_l25_ok {d : Nat} {q : JOut} (hd : 4 ≤ d) : ∀ (n : Nat) (l0 : Nat) (l1 : Int32) (l2 : Int32) (l3 : Int32) (l4 : Int32) (u5 : Value) (h : LH), F_SG_crowd_l25 n l0 l1 l2 l3 l4 h = some q → JR d jM_158 25 [.ref l0, .int l1, .int l2, .int l3, .int l4, u5] [] h q
 | 0 => fun _ _ _ _ _ _ _ hq => nomatch (show (none : Option JOut) = some q from hq)
 | n + 1 => fun _ _ _ _ _ _ _ hq => F_SG_crowd_c25_ok hd (F_SG_crowd_l25_ok hd n) hq
noncomputable def F_SG_crowd_b15 (l0 : Nat) (l1 : Int32) (s0 : Nat) (s1 : Int32) (h : LH) : Option JOut :=
 jf_kd h s0 10
 (jf_th (F_SG_needArgument s0 s1 h) fun h1 =>
 F_SG_crowd_l25  jF l0 l1 (-1 : Int32) (0 : Int32) (0 : Int32) h1)
set_option maxRecDepth 100000 in
theorem F_SG_crowd_b15_ok {d : Nat} {q : JOut} (hd : 4 ≤ d) {l0 : Nat} {l1 : Int32} {s0 : Nat} {s1 : Int32} {u2 : Value} {u3 : Value} {u4 : Value} {u5 : Value} {h : LH} : F_SG_crowd_b15 l0 l1 s0 s1 h = some q → JR d jM_158 15 [.ref l0, .int l1, u2, u3, u4, u5] [.int s1, .ref s0] h q := by
 unfold F_SG_crowd_b15
 exact jr_cVt 15 18 [] rfl rfl rfl rfl rfl rfl rfl rfl rfl (as := [.int s1]) (F_SG_needArgument_ok (Nat.le_trans (by decide : 1 ≤ 4) hd)) (fun h1 =>
  jr_iconst 18 19 (-1 : Int32) rfl jc_i_m1 rfl
  (jr_istoren 19 20 [.ref l0, .int l1, .int (-1 : Int32), u3, u4, u5] rfl rfl rfl rfl
  (jr_iconst 20 21 (0 : Int32) rfl jc_i_0 rfl
  (jr_istoren 21 22 [.ref l0, .int l1, .int (-1 : Int32), .int (0 : Int32), u4, u5] rfl rfl rfl rfl
  (jr_iconst 22 23 (0 : Int32) rfl jc_i_0 rfl
  (jr_istore 23 25 [.ref l0, .int l1, .int (-1 : Int32), .int (0 : Int32), .int (0 : Int32), u5] rfl rfl rfl rfl
  ((F_SG_crowd_l25_ok hd  jF _ _ _ _ _ _ _))))))))
noncomputable def F_SG_crowd_b10 (l0 : Nat) (l1 : Int32) (s0 : Nat) (h : LH) : Option JOut :=
 F_SG_crowd_b15  l0 l1 s0 (1 : Int32) h
set_option maxRecDepth 100000 in
theorem F_SG_crowd_b10_ok {d : Nat} {q : JOut} (hd : 4 ≤ d) {l0 : Nat} {l1 : Int32} {s0 : Nat} {u2 : Value} {u3 : Value} {u4 : Value} {u5 : Value} {h : LH} : F_SG_crowd_b10 l0 l1 s0 h = some q → JR d jM_158 10 [.ref l0, .int l1, u2, u3, u4, u5] [.ref s0] h q := by
 unfold F_SG_crowd_b10
 exact jr_iconst 10 11 (1 : Int32) rfl jc_i_1 rfl
  (jr_goto 11 15 rfl rfl
  ((F_SG_crowd_b15_ok hd )))
noncomputable def F_SG_crowd (l0 : Nat) (l1 : Int32) (h : LH) : Option JOut :=
 if l1 = 0 then
 F_SG_crowd_b10  l0 l1 l0 h
else
 if l1 = (1 : Int32) then
 F_SG_crowd_b10  l0 l1 l0 h
else
 F_SG_crowd_b15  l0 l1 l0 (0 : Int32) h
set_option maxRecDepth 100000 in
theorem F_SG_crowd_ok {d : Nat} (hd : 5 ≤ d) {l0 : Nat} {l1 : Int32} {h : LH} {q : JOut} : F_SG_crowd l0 l1 h = some q → jl_Sem jt_T jt_Ms d 158 [.ref l0, .int l1] h q := by
 unfold F_SG_crowd
 exact jr_enter (D := 4) hd jM_158_at rfl rfl rfl (fun d hd =>
  jr_aloadn 0 1 rfl rfl rfl
  (jr_iloadn 1 2 rfl rfl rfl
  (jr_if_eq 2 10 5 rfl rfl rfl
  ((F_SG_crowd_b10_ok hd ))
  (jr_iloadn 5 6 rfl rfl rfl
  (jr_iconst 6 7 (1 : Int32) rfl jc_i_1 rfl
  (jr_icmp_ne 7 14 10 rfl rfl rfl
  (jr_iconst 14 15 (0 : Int32) rfl jc_i_0 rfl
  ((F_SG_crowd_b15_ok hd )))
  ((F_SG_crowd_b10_ok hd ))))))))
noncomputable def jM_160 : JMeth := (10, false, 0, jk_160, [], 3)
set_option maxRecDepth 100000 in
theorem jM_160_at : jt_Ms 160 = some jM_160 := rfl
noncomputable def F_SG_passTrial_c2 (k2 : Nat → Int32 → Int32 → LH → Option LH) (l0 : Nat) (l1 : Int32) (l2 : Int32) (h : LH) : Option LH :=
 if l2 < l1 then
 jf_gr h l0 10 3 fun v1 =>
 jf_kd h v1 6
 ((F_Scene_pass v1 h).bind fun h2 =>
 k2 l0 l1 (l2 + (1 : Int32)) h2)
else
 some h
set_option maxRecDepth 100000 in
theorem F_SG_passTrial_c2_ok {d : Nat} {q : LH} {k2 : Nat → Int32 → Int32 → LH → Option LH} (hd : 4 ≤ d) (hk2 : ∀ (l0 : Nat) (l1 : Int32) (l2 : Int32) (h : LH), k2 l0 l1 l2 h = some q → JR d jM_160 2 [.ref l0, .int l1, .int l2] [] h (jo_v q)) {l0 : Nat} {l1 : Int32} {l2 : Int32} {h : LH} : F_SG_passTrial_c2 k2 l0 l1 l2 h = some q → JR d jM_160 2 [.ref l0, .int l1, .int l2] [] h (jo_v q) := by
 unfold F_SG_passTrial_c2
 exact jr_iloadn 2 3 rfl rfl rfl
  (jr_iloadn 3 4 rfl rfl rfl
  (jr_icmp_ge 4 20 7 rfl rfl rfl
  (jr_rv 20 rfl rfl)
  (jr_aloadn 7 8 rfl rfl rfl
  (jr_gr 8 11 rfl jg_10_38_2 rfl (fun v1 =>
  jr_cVv 11 14 [] rfl rfl rfl rfl rfl rfl rfl rfl (as := []) (F_Scene_pass_ok (Nat.le_trans (by decide : 4 ≤ 4) hd)) (fun h2 =>
  jr_iinc 14 17 [.ref l0, .int l1, .int (l2 + (1 : Int32))] rfl jc_i_1 rfl rfl rfl rfl
  (jr_goto 17 2 rfl rfl
  ((hk2 _ _ _ _)))))))))
noncomputable def F_SG_passTrial_l2 : Nat → Nat → Int32 → Int32 → LH → Option LH
 | 0, _, _, _, _ => none
 | n + 1, l0, l1, l2, h => F_SG_passTrial_c2 (F_SG_passTrial_l2 n) l0 l1 l2 h
theorem F_SG_passTrial_l2_ok {d : Nat} {q : LH} (hd : 4 ≤ d) : ∀ (n : Nat) (l0 : Nat) (l1 : Int32) (l2 : Int32) (h : LH), F_SG_passTrial_l2 n l0 l1 l2 h = some q → JR d jM_160 2 [.ref l0, .int l1, .int l2] [] h (jo_v q)
 | 0 => fun _ _ _ _ hq => nomatch (show (none : Option LH) = some q from hq)
 | n + 1 => fun _ _ _ _ hq => F_SG_passTrial_c2_ok hd (F_SG_passTrial_l2_ok hd n) hq
noncomputable def F_SG_passTrial (l0 : Nat) (l1 : Int32) (h : LH) : Option LH :=
 F_SG_passTrial_l2  jF l0 l1 (0 : Int32) h
set_option maxRecDepth 100000 in
theorem F_SG_passTrial_ok {d : Nat} (hd : 5 ≤ d) {l0 : Nat} {l1 : Int32} {h : LH} {q : LH} : F_SG_passTrial l0 l1 h = some q → jl_Sem jt_T jt_Ms d 160 [.ref l0, .int l1] h (jo_v q) := by
 unfold F_SG_passTrial
 exact jr_enter (D := 4) hd jM_160_at rfl rfl rfl (fun d hd =>
  jr_iconst 0 1 (0 : Int32) rfl jc_i_0 rfl
  (jr_istoren 1 2 [.ref l0, .int l1, .int (0 : Int32)] rfl rfl rfl rfl
  ((F_SG_passTrial_l2_ok hd  jF _ _ _ _))))
noncomputable def jM_159 : JMeth := (10, false, 1, jk_159, [], 4)
set_option maxRecDepth 100000 in
theorem jM_159_at : jt_Ms 159 = some jM_159 := rfl
noncomputable def F_SG_turned_b76 (k32 : Nat → Int32 → Int32 → LH → Option JOut) (l0 : Nat) (l2 : Int32) (l3 : Int32) (h : LH) : Option JOut :=
 k32 l0 l2 (l3 + (1 : Int32)) h
set_option maxRecDepth 100000 in
theorem F_SG_turned_b76_ok {d : Nat} {q : JOut} {k32 : Nat → Int32 → Int32 → LH → Option JOut} (hd : 5 ≤ d) (hk32 : ∀ (l0 : Nat) (l2 : Int32) (l3 : Int32) (u1 : Value) (h : LH), k32 l0 l2 l3 h = some q → JR d jM_159 32 [.ref l0, u1, .int l2, .int l3] [] h q) {l0 : Nat} {l2 : Int32} {l3 : Int32} {u1 : Value} {h : LH} : F_SG_turned_b76 k32 l0 l2 l3 h = some q → JR d jM_159 76 [.ref l0, u1, .int l2, .int l3] [] h q := by
 unfold F_SG_turned_b76
 exact jr_iinc 76 79 [.ref l0, u1, .int l2, .int (l3 + (1 : Int32))] rfl jc_i_1 rfl rfl rfl rfl
  (jr_goto 79 32 rfl rfl
  ((hk32 _ _ _ _ _)))
noncomputable def F_SG_turned_c32 (k32 : Nat → Int32 → Int32 → LH → Option JOut) (l0 : Nat) (l2 : Int32) (l3 : Int32) (h : LH) : Option JOut :=
 jf_gr h l0 10 2 fun v1 =>
 jf_gr h v1 6 1 fun v2 =>
 jf_gi h v2 8 4 fun v3 =>
 if l3 < v3 then
 jf_gr h l0 10 3 fun v4 =>
 jf_kd h v4 6
 (jf_bi (F_Scene_came v4 l3 h) fun v5 h6 =>
 if v5 = (2 : Int32) then
 jf_gr h6 l0 10 2 fun v7 =>
 jf_kd h6 v7 6
 (jf_bi (F_Scene_came v7 l3 h6) fun v8 h9 =>
 if v8 = (2 : Int32) then
 F_SG_turned_b76 k32 l0 l2 l3 h9
else
 jf_let (l2 ||| ((1 : Int32) <<< (l3 &&& 31))) fun v10 =>
 F_SG_turned_b76 k32 l0 v10 l3 h9)
else
 F_SG_turned_b76 k32 l0 l2 l3 h6)
else
 some (jo_i (l2, h))
set_option maxRecDepth 100000 in
theorem F_SG_turned_c32_ok {d : Nat} {q : JOut} {k32 : Nat → Int32 → Int32 → LH → Option JOut} (hd : 5 ≤ d) (hk32 : ∀ (l0 : Nat) (l2 : Int32) (l3 : Int32) (u1 : Value) (h : LH), k32 l0 l2 l3 h = some q → JR d jM_159 32 [.ref l0, u1, .int l2, .int l3] [] h q) {l0 : Nat} {l2 : Int32} {l3 : Int32} {u1 : Value} {h : LH} : F_SG_turned_c32 k32 l0 l2 l3 h = some q → JR d jM_159 32 [.ref l0, u1, .int l2, .int l3] [] h q := by
 unfold F_SG_turned_c32
 exact jr_iloadn 32 33 rfl rfl rfl
  (jr_aloadn 33 34 rfl rfl rfl
  (jr_gr 34 37 rfl jg_10_34_2 rfl (fun v1 =>
  jr_gr 37 40 rfl jg_10_120_2 rfl (fun v2 =>
  jr_gi 40 43 rfl jg_10_178_1 rfl (fun v3 =>
  jr_icmp_ge 43 82 46 rfl rfl rfl
  (jr_iloadn 82 83 rfl rfl rfl
  (jr_riT 83 rfl rfl))
  (jr_aloadn 46 47 rfl rfl rfl
  (jr_gr 47 50 rfl jg_10_38_2 rfl (fun v4 =>
  jr_iloadn 50 51 rfl rfl rfl
  (jr_cVi 51 54 [] rfl rfl rfl rfl rfl rfl rfl rfl (as := [.int l3]) (F_Scene_came_ok (Nat.le_trans (by decide : 1 ≤ 5) hd)) (fun v5 h6 =>
  jr_iconst 54 55 (2 : Int32) rfl jc_i_2 rfl
  (jr_icmp_ne 55 76 58 rfl rfl rfl
  ((F_SG_turned_b76_ok hd hk32))
  (jr_aloadn 58 59 rfl rfl rfl
  (jr_gr 59 62 rfl jg_10_34_2 rfl (fun v7 =>
  jr_iloadn 62 63 rfl rfl rfl
  (jr_cVi 63 66 [] rfl rfl rfl rfl rfl rfl rfl rfl (as := [.int l3]) (F_Scene_came_ok (Nat.le_trans (by decide : 1 ≤ 5) hd)) (fun v8 h9 =>
  jr_iconst 66 67 (2 : Int32) rfl jc_i_2 rfl
  (jr_icmp_eq 67 76 70 rfl rfl rfl
  ((F_SG_turned_b76_ok hd hk32))
  (jr_iloadn 70 71 rfl rfl rfl
  (jr_iconst 71 72 (1 : Int32) rfl jc_i_1 rfl
  (jr_iloadn 72 73 rfl rfl rfl
  (jr_ishl 73 74 rfl rfl
  (jr_ior 74 75 rfl rfl
  (jr_istorenL 75 76 (fun v10 => [.ref l0, u1, .int v10, .int l3]) rfl rfl (fun _ => rfl) rfl (fun v10 =>
  (F_SG_turned_b76_ok hd hk32)))))))))))))))))))))))))
noncomputable def F_SG_turned_l32 : Nat → Nat → Int32 → Int32 → LH → Option JOut
 | 0, _, _, _, _ => none
 | n + 1, l0, l2, l3, h => F_SG_turned_c32 (F_SG_turned_l32 n) l0 l2 l3 h
theorem F_SG_turned_l32_ok {d : Nat} {q : JOut} (hd : 5 ≤ d) : ∀ (n : Nat) (l0 : Nat) (l2 : Int32) (l3 : Int32) (u1 : Value) (h : LH), F_SG_turned_l32 n l0 l2 l3 h = some q → JR d jM_159 32 [.ref l0, u1, .int l2, .int l3] [] h q
 | 0 => fun _ _ _ _ _ hq => nomatch (show (none : Option JOut) = some q from hq)
 | n + 1 => fun _ _ _ _ _ hq => F_SG_turned_c32_ok hd (F_SG_turned_l32_ok hd n) hq
noncomputable def F_SG_turned_b16 (l0 : Nat) (l1 : Int32) (s0 : Nat) (s1 : Int32) (h : LH) : Option JOut :=
 jf_kd h s0 10
 (jf_th (F_SG_needArgument s0 s1 h) fun h1 =>
 jf_kd h1 l0 10
 ((F_SG_startTrial l0 h1).bind fun h2 =>
 jf_kd h2 l0 10
 ((F_SG_passTrial l0 l1 h2).bind fun h3 =>
 F_SG_turned_l32  jF l0 (0 : Int32) (0 : Int32) h3)))
set_option maxRecDepth 100000 in
theorem F_SG_turned_b16_ok {d : Nat} {q : JOut} (hd : 5 ≤ d) {l0 : Nat} {l1 : Int32} {s0 : Nat} {s1 : Int32} {u2 : Value} {u3 : Value} {h : LH} : F_SG_turned_b16 l0 l1 s0 s1 h = some q → JR d jM_159 16 [.ref l0, .int l1, u2, u3] [.int s1, .ref s0] h q := by
 unfold F_SG_turned_b16
 exact jr_cVt 16 19 [] rfl rfl rfl rfl rfl rfl rfl rfl rfl (as := [.int s1]) (F_SG_needArgument_ok (Nat.le_trans (by decide : 1 ≤ 5) hd)) (fun h1 =>
  jr_aloadn 19 20 rfl rfl rfl
  (jr_cVv 20 23 [] rfl rfl rfl rfl rfl rfl rfl rfl (as := []) (F_SG_startTrial_ok (Nat.le_trans (by decide : 2 ≤ 5) hd)) (fun h2 =>
  jr_aloadn 23 24 rfl rfl rfl
  (jr_iloadn 24 25 rfl rfl rfl
  (jr_cVv 25 28 [] rfl rfl rfl rfl rfl rfl rfl rfl (as := [.int l1]) (F_SG_passTrial_ok (Nat.le_trans (by decide : 5 ≤ 5) hd)) (fun h3 =>
  jr_iconst 28 29 (0 : Int32) rfl jc_i_0 rfl
  (jr_istoren 29 30 [.ref l0, .int l1, .int (0 : Int32), u3] rfl rfl rfl rfl
  (jr_iconst 30 31 (0 : Int32) rfl jc_i_0 rfl
  (jr_istoren 31 32 [.ref l0, .int l1, .int (0 : Int32), .int (0 : Int32)] rfl rfl rfl rfl
  ((F_SG_turned_l32_ok hd  jF _ _ _ _ _)))))))))))
noncomputable def F_SG_turned_b15 (l0 : Nat) (l1 : Int32) (s0 : Nat) (h : LH) : Option JOut :=
 F_SG_turned_b16  l0 l1 s0 (0 : Int32) h
set_option maxRecDepth 100000 in
theorem F_SG_turned_b15_ok {d : Nat} {q : JOut} (hd : 5 ≤ d) {l0 : Nat} {l1 : Int32} {s0 : Nat} {u2 : Value} {u3 : Value} {h : LH} : F_SG_turned_b15 l0 l1 s0 h = some q → JR d jM_159 15 [.ref l0, .int l1, u2, u3] [.ref s0] h q := by
 unfold F_SG_turned_b15
 exact jr_iconst 15 16 (0 : Int32) rfl jc_i_0 rfl
  ((F_SG_turned_b16_ok hd ))
noncomputable def F_SG_turned (l0 : Nat) (l1 : Int32) (h : LH) : Option JOut :=
 if l1 < 0 then
 F_SG_turned_b15  l0 l1 l0 h
else
 if (96 : Int32) < l1 then
 F_SG_turned_b15  l0 l1 l0 h
else
 F_SG_turned_b16  l0 l1 l0 (1 : Int32) h
set_option maxRecDepth 100000 in
theorem F_SG_turned_ok {d : Nat} (hd : 6 ≤ d) {l0 : Nat} {l1 : Int32} {h : LH} {q : JOut} : F_SG_turned l0 l1 h = some q → jl_Sem jt_T jt_Ms d 159 [.ref l0, .int l1] h q := by
 unfold F_SG_turned
 exact jr_enter (D := 5) hd jM_159_at rfl rfl rfl (fun d hd =>
  jr_aloadn 0 1 rfl rfl rfl
  (jr_iloadn 1 2 rfl rfl rfl
  (jr_if_lt 2 15 5 rfl rfl rfl
  ((F_SG_turned_b15_ok hd ))
  (jr_iloadn 5 6 rfl rfl rfl
  (jr_bipush 6 8 (96 : Int32) rfl jc_b_96 rfl
  (jr_icmp_gt 8 15 11 rfl rfl rfl
  ((F_SG_turned_b15_ok hd ))
  (jr_iconst 11 12 (1 : Int32) rfl jc_i_1 rfl
  (jr_goto 12 16 rfl rfl
  ((F_SG_turned_b16_ok hd ))))))))))
noncomputable def jM_161 : JMeth := (10, false, 1, jk_161, [], 6)
set_option maxRecDepth 100000 in
theorem jM_161_at : jt_Ms 161 = some jM_161 := rfl
noncomputable def F_SG_thickest_b79 (s0 : Int32) (h : LH) : Option JOut :=
 some (jo_i (s0, h))
set_option maxRecDepth 100000 in
theorem F_SG_thickest_b79_ok {d : Nat} {q : JOut} (hd : 4 ≤ d) {s0 : Int32} {u0 : Value} {u1 : Value} {u2 : Value} {u3 : Value} {u4 : Value} {u5 : Value} {h : LH} : F_SG_thickest_b79 s0 h = some q → JR d jM_161 79 [u0, u1, u2, u3, u4, u5] [.int s0] h q := by
 unfold F_SG_thickest_b79
 exact jr_riT 79 rfl rfl
noncomputable def F_SG_thickest_b57 (k29 : Nat → Int32 → Int32 → Int32 → Int32 → LH → Option JOut) (l0 : Nat) (l1 : Int32) (l2 : Int32) (l3 : Int32) (l4 : Int32) (h : LH) : Option JOut :=
 jf_gr h l0 10 3 fun v1 =>
 jf_kd h v1 6
 ((F_Scene_pass v1 h).bind fun h2 =>
 k29 l0 l1 l2 l3 (l4 + (1 : Int32)) h2)
set_option maxRecDepth 100000 in
theorem F_SG_thickest_b57_ok {d : Nat} {q : JOut} {k29 : Nat → Int32 → Int32 → Int32 → Int32 → LH → Option JOut} (hd : 4 ≤ d) (hk29 : ∀ (l0 : Nat) (l1 : Int32) (l2 : Int32) (l3 : Int32) (l4 : Int32) (u5 : Value) (h : LH), k29 l0 l1 l2 l3 l4 h = some q → JR d jM_161 29 [.ref l0, .int l1, .int l2, .int l3, .int l4, u5] [] h q) {l0 : Nat} {l1 : Int32} {l2 : Int32} {l3 : Int32} {l4 : Int32} {u5 : Value} {h : LH} : F_SG_thickest_b57 k29 l0 l1 l2 l3 l4 h = some q → JR d jM_161 57 [.ref l0, .int l1, .int l2, .int l3, .int l4, u5] [] h q := by
 unfold F_SG_thickest_b57
 exact jr_aloadn 57 58 rfl rfl rfl
  (jr_gr 58 61 rfl jg_10_38_2 rfl (fun v1 =>
  jr_cVv 61 64 [] rfl rfl rfl rfl rfl rfl rfl rfl (as := []) (F_Scene_pass_ok (Nat.le_trans (by decide : 4 ≤ 4) hd)) (fun h2 =>
  jr_iinc 64 67 [.ref l0, .int l1, .int l2, .int l3, .int (l4 + (1 : Int32)), u5] rfl jc_i_1 rfl rfl rfl rfl
  (jr_goto 67 29 rfl rfl
  ((hk29 _ _ _ _ _ _ _))))))
noncomputable def F_SG_thickest_c29 (k29 : Nat → Int32 → Int32 → Int32 → Int32 → LH → Option JOut) (l0 : Nat) (l1 : Int32) (l2 : Int32) (l3 : Int32) (l4 : Int32) (h : LH) : Option JOut :=
 if l4 < (48 : Int32) then
 jf_gr h l0 10 3 fun v1 =>
 jf_kd h v1 6
 (jf_bi (F_Scene_shutGates v1 h) fun v2 h3 =>
 if l3 < v2 then
 F_SG_thickest_b57 k29 l0 l1 l4 v2 l4 h3
else
 F_SG_thickest_b57 k29 l0 l1 l2 l3 l4 h3)
else
 if l1 = 0 then
 F_SG_thickest_b79  l2 h
else
 F_SG_thickest_b79  l3 h
set_option maxRecDepth 100000 in
theorem F_SG_thickest_c29_ok {d : Nat} {q : JOut} {k29 : Nat → Int32 → Int32 → Int32 → Int32 → LH → Option JOut} (hd : 4 ≤ d) (hk29 : ∀ (l0 : Nat) (l1 : Int32) (l2 : Int32) (l3 : Int32) (l4 : Int32) (u5 : Value) (h : LH), k29 l0 l1 l2 l3 l4 h = some q → JR d jM_161 29 [.ref l0, .int l1, .int l2, .int l3, .int l4, u5] [] h q) {l0 : Nat} {l1 : Int32} {l2 : Int32} {l3 : Int32} {l4 : Int32} {u5 : Value} {h : LH} : F_SG_thickest_c29 k29 l0 l1 l2 l3 l4 h = some q → JR d jM_161 29 [.ref l0, .int l1, .int l2, .int l3, .int l4, u5] [] h q := by
 unfold F_SG_thickest_c29
 exact jr_iload 29 31 rfl rfl rfl
  (jr_bipush 31 33 (48 : Int32) rfl jc_b_48 rfl
  (jr_icmp_ge 33 70 36 rfl rfl rfl
  (jr_iloadn 70 71 rfl rfl rfl
  (jr_if_ne 71 78 74 rfl rfl rfl
  (jr_iloadn 78 79 rfl rfl rfl
  ((F_SG_thickest_b79_ok hd )))
  (jr_iloadn 74 75 rfl rfl rfl
  (jr_goto 75 79 rfl rfl
  ((F_SG_thickest_b79_ok hd ))))))
  (jr_aloadn 36 37 rfl rfl rfl
  (jr_gr 37 40 rfl jg_10_38_2 rfl (fun v1 =>
  jr_cVi 40 43 [] rfl rfl rfl rfl rfl rfl rfl rfl (as := []) (F_Scene_shutGates_ok (Nat.le_trans (by decide : 4 ≤ 4) hd)) (fun v2 h3 =>
  jr_istore 43 45 [.ref l0, .int l1, .int l2, .int l3, .int l4, .int v2] rfl rfl rfl rfl
  (jr_iload 45 47 rfl rfl rfl
  (jr_iloadn 47 48 rfl rfl rfl
  (jr_icmp_le 48 57 51 rfl rfl rfl
  ((F_SG_thickest_b57_ok hd hk29))
  (jr_iload 51 53 rfl rfl rfl
  (jr_istoren 53 54 [.ref l0, .int l1, .int l2, .int v2, .int l4, .int v2] rfl rfl rfl rfl
  (jr_iload 54 56 rfl rfl rfl
  (jr_istoren 56 57 [.ref l0, .int l1, .int l4, .int v2, .int l4, .int v2] rfl rfl rfl rfl
  ((F_SG_thickest_b57_ok hd hk29)))))))))))))))
noncomputable def F_SG_thickest_l29 : Nat → Nat → Int32 → Int32 → Int32 → Int32 → LH → Option JOut
 | 0, _, _, _, _, _, _ => none
 | n + 1, l0, l1, l2, l3, l4, h => F_SG_thickest_c29 (F_SG_thickest_l29 n) l0 l1 l2 l3 l4 h
theorem F_SG_thickest_l29_ok {d : Nat} {q : JOut} (hd : 4 ≤ d) : ∀ (n : Nat) (l0 : Nat) (l1 : Int32) (l2 : Int32) (l3 : Int32) (l4 : Int32) (u5 : Value) (h : LH), F_SG_thickest_l29 n l0 l1 l2 l3 l4 h = some q → JR d jM_161 29 [.ref l0, .int l1, .int l2, .int l3, .int l4, u5] [] h q
 | 0 => fun _ _ _ _ _ _ _ hq => nomatch (show (none : Option JOut) = some q from hq)
 | n + 1 => fun _ _ _ _ _ _ _ hq => F_SG_thickest_c29_ok hd (F_SG_thickest_l29_ok hd n) hq
noncomputable def F_SG_thickest_b15 (l0 : Nat) (l1 : Int32) (s0 : Nat) (s1 : Int32) (h : LH) : Option JOut :=
 jf_kd h s0 10
 (jf_th (F_SG_needArgument s0 s1 h) fun h1 =>
 jf_kd h1 l0 10
 ((F_SG_startTrial l0 h1).bind fun h2 =>
 F_SG_thickest_l29  jF l0 l1 (0 : Int32) (0 : Int32) (0 : Int32) h2))
set_option maxRecDepth 100000 in
theorem F_SG_thickest_b15_ok {d : Nat} {q : JOut} (hd : 4 ≤ d) {l0 : Nat} {l1 : Int32} {s0 : Nat} {s1 : Int32} {u2 : Value} {u3 : Value} {u4 : Value} {u5 : Value} {h : LH} : F_SG_thickest_b15 l0 l1 s0 s1 h = some q → JR d jM_161 15 [.ref l0, .int l1, u2, u3, u4, u5] [.int s1, .ref s0] h q := by
 unfold F_SG_thickest_b15
 exact jr_cVt 15 18 [] rfl rfl rfl rfl rfl rfl rfl rfl rfl (as := [.int s1]) (F_SG_needArgument_ok (Nat.le_trans (by decide : 1 ≤ 4) hd)) (fun h1 =>
  jr_aloadn 18 19 rfl rfl rfl
  (jr_cVv 19 22 [] rfl rfl rfl rfl rfl rfl rfl rfl (as := []) (F_SG_startTrial_ok (Nat.le_trans (by decide : 2 ≤ 4) hd)) (fun h2 =>
  jr_iconst 22 23 (0 : Int32) rfl jc_i_0 rfl
  (jr_istoren 23 24 [.ref l0, .int l1, .int (0 : Int32), u3, u4, u5] rfl rfl rfl rfl
  (jr_iconst 24 25 (0 : Int32) rfl jc_i_0 rfl
  (jr_istoren 25 26 [.ref l0, .int l1, .int (0 : Int32), .int (0 : Int32), u4, u5] rfl rfl rfl rfl
  (jr_iconst 26 27 (0 : Int32) rfl jc_i_0 rfl
  (jr_istore 27 29 [.ref l0, .int l1, .int (0 : Int32), .int (0 : Int32), .int (0 : Int32), u5] rfl rfl rfl rfl
  ((F_SG_thickest_l29_ok hd  jF _ _ _ _ _ _ _))))))))))
noncomputable def F_SG_thickest_b10 (l0 : Nat) (l1 : Int32) (s0 : Nat) (h : LH) : Option JOut :=
 F_SG_thickest_b15  l0 l1 s0 (1 : Int32) h
set_option maxRecDepth 100000 in
theorem F_SG_thickest_b10_ok {d : Nat} {q : JOut} (hd : 4 ≤ d) {l0 : Nat} {l1 : Int32} {s0 : Nat} {u2 : Value} {u3 : Value} {u4 : Value} {u5 : Value} {h : LH} : F_SG_thickest_b10 l0 l1 s0 h = some q → JR d jM_161 10 [.ref l0, .int l1, u2, u3, u4, u5] [.ref s0] h q := by
 unfold F_SG_thickest_b10
 exact jr_iconst 10 11 (1 : Int32) rfl jc_i_1 rfl
  (jr_goto 11 15 rfl rfl
  ((F_SG_thickest_b15_ok hd )))
noncomputable def F_SG_thickest (l0 : Nat) (l1 : Int32) (h : LH) : Option JOut :=
 if l1 = 0 then
 F_SG_thickest_b10  l0 l1 l0 h
else
 if l1 = (1 : Int32) then
 F_SG_thickest_b10  l0 l1 l0 h
else
 F_SG_thickest_b15  l0 l1 l0 (0 : Int32) h
set_option maxRecDepth 100000 in
theorem F_SG_thickest_ok {d : Nat} (hd : 5 ≤ d) {l0 : Nat} {l1 : Int32} {h : LH} {q : JOut} : F_SG_thickest l0 l1 h = some q → jl_Sem jt_T jt_Ms d 161 [.ref l0, .int l1] h q := by
 unfold F_SG_thickest
 exact jr_enter (D := 4) hd jM_161_at rfl rfl rfl (fun d hd =>
  jr_aloadn 0 1 rfl rfl rfl
  (jr_iloadn 1 2 rfl rfl rfl
  (jr_if_eq 2 10 5 rfl rfl rfl
  ((F_SG_thickest_b10_ok hd ))
  (jr_iloadn 5 6 rfl rfl rfl
  (jr_iconst 6 7 (1 : Int32) rfl jc_i_1 rfl
  (jr_icmp_ne 7 14 10 rfl rfl rfl
  (jr_iconst 14 15 (0 : Int32) rfl jc_i_0 rfl
  ((F_SG_thickest_b15_ok hd )))
  ((F_SG_thickest_b10_ok hd ))))))))
noncomputable def jM_162 : JMeth := (10, false, 1, jk_162, [], 3)
set_option maxRecDepth 100000 in
theorem jM_162_at : jt_Ms 162 = some jM_162 := rfl
noncomputable def F_SG_ahead_b75 (s0 : Int32) (h : LH) : Option JOut :=
 some (jo_i (s0, h))
set_option maxRecDepth 100000 in
theorem F_SG_ahead_b75_ok {d : Nat} {q : JOut} (hd : 5 ≤ d) {s0 : Int32} {u0 : Value} {u1 : Value} {u2 : Value} {h : LH} : F_SG_ahead_b75 s0 h = some q → JR d jM_162 75 [u0, u1, u2] [.int s0] h q := by
 unfold F_SG_ahead_b75
 exact jr_riT 75 rfl rfl
noncomputable def F_SG_ahead_b25 (l0 : Nat) (l1 : Int32) (l2 : Int32) (s0 : Nat) (s1 : Int32) (h : LH) : Option JOut :=
 jf_kd h s0 10
 (jf_th (F_SG_needArgument s0 s1 h) fun h1 =>
 jf_kd h1 l0 10
 ((F_SG_startTrial l0 h1).bind fun h2 =>
 jf_kd h2 l0 10
 ((F_SG_passTrial l0 l1 h2).bind fun h3 =>
 if l2 = 0 then
 jf_gr h3 l0 10 3 fun v10 =>
 jf_kd h3 v10 6
 (jf_bi (F_Scene_comersThat v10 (1 : Int32) h3) fun v11 h12 =>
 F_SG_ahead_b75  v11 h12)
else
 if l2 = (1 : Int32) then
 jf_gr h3 l0 10 3 fun v7 =>
 jf_kd h3 v7 6
 (jf_bi (F_Scene_comersThat v7 (2 : Int32) h3) fun v8 h9 =>
 F_SG_ahead_b75  v8 h9)
else
 jf_gr h3 l0 10 3 fun v4 =>
 jf_kd h3 v4 6
 (jf_bi (F_Scene_allStored v4 h3) fun v5 h6 =>
 F_SG_ahead_b75  v5 h6))))
set_option maxRecDepth 100000 in
theorem F_SG_ahead_b25_ok {d : Nat} {q : JOut} (hd : 5 ≤ d) {l0 : Nat} {l1 : Int32} {l2 : Int32} {s0 : Nat} {s1 : Int32} {h : LH} : F_SG_ahead_b25 l0 l1 l2 s0 s1 h = some q → JR d jM_162 25 [.ref l0, .int l1, .int l2] [.int s1, .ref s0] h q := by
 unfold F_SG_ahead_b25
 exact jr_cVt 25 28 [] rfl rfl rfl rfl rfl rfl rfl rfl rfl (as := [.int s1]) (F_SG_needArgument_ok (Nat.le_trans (by decide : 1 ≤ 5) hd)) (fun h1 =>
  jr_aloadn 28 29 rfl rfl rfl
  (jr_cVv 29 32 [] rfl rfl rfl rfl rfl rfl rfl rfl (as := []) (F_SG_startTrial_ok (Nat.le_trans (by decide : 2 ≤ 5) hd)) (fun h2 =>
  jr_aloadn 32 33 rfl rfl rfl
  (jr_iloadn 33 34 rfl rfl rfl
  (jr_cVv 34 37 [] rfl rfl rfl rfl rfl rfl rfl rfl (as := [.int l1]) (F_SG_passTrial_ok (Nat.le_trans (by decide : 5 ≤ 5) hd)) (fun h3 =>
  jr_iloadn 37 38 rfl rfl rfl
  (jr_if_ne 38 52 41 rfl rfl rfl
  (jr_iloadn 52 53 rfl rfl rfl
  (jr_iconst 53 54 (1 : Int32) rfl jc_i_1 rfl
  (jr_icmp_ne 54 68 57 rfl rfl rfl
  (jr_aloadn 68 69 rfl rfl rfl
  (jr_gr 69 72 rfl jg_10_38_2 rfl (fun v4 =>
  jr_cVi 72 75 [] rfl rfl rfl rfl rfl rfl rfl rfl (as := []) (F_Scene_allStored_ok (Nat.le_trans (by decide : 2 ≤ 5) hd)) (fun v5 h6 =>
  (F_SG_ahead_b75_ok hd )))))
  (jr_aloadn 57 58 rfl rfl rfl
  (jr_gr 58 61 rfl jg_10_38_2 rfl (fun v7 =>
  jr_iconst 61 62 (2 : Int32) rfl jc_i_2 rfl
  (jr_cVi 62 65 [] rfl rfl rfl rfl rfl rfl rfl rfl (as := [.int (2 : Int32)]) (F_Scene_comersThat_ok (Nat.le_trans (by decide : 2 ≤ 5) hd)) (fun v8 h9 =>
  jr_goto 65 75 rfl rfl
  ((F_SG_ahead_b75_ok hd ))))))))))
  (jr_aloadn 41 42 rfl rfl rfl
  (jr_gr 42 45 rfl jg_10_38_2 rfl (fun v10 =>
  jr_iconst 45 46 (1 : Int32) rfl jc_i_1 rfl
  (jr_cVi 46 49 [] rfl rfl rfl rfl rfl rfl rfl rfl (as := [.int (1 : Int32)]) (F_Scene_comersThat_ok (Nat.le_trans (by decide : 2 ≤ 5) hd)) (fun v11 h12 =>
  jr_goto 49 75 rfl rfl
  ((F_SG_ahead_b75_ok hd ))))))))))))))
noncomputable def F_SG_ahead_b24 (l0 : Nat) (l1 : Int32) (l2 : Int32) (s0 : Nat) (h : LH) : Option JOut :=
 F_SG_ahead_b25  l0 l1 l2 s0 (0 : Int32) h
set_option maxRecDepth 100000 in
theorem F_SG_ahead_b24_ok {d : Nat} {q : JOut} (hd : 5 ≤ d) {l0 : Nat} {l1 : Int32} {l2 : Int32} {s0 : Nat} {h : LH} : F_SG_ahead_b24 l0 l1 l2 s0 h = some q → JR d jM_162 24 [.ref l0, .int l1, .int l2] [.ref s0] h q := by
 unfold F_SG_ahead_b24
 exact jr_iconst 24 25 (0 : Int32) rfl jc_i_0 rfl
  ((F_SG_ahead_b25_ok hd ))
noncomputable def F_SG_ahead (l0 : Nat) (l1 : Int32) (l2 : Int32) (h : LH) : Option JOut :=
 if l1 < 0 then
 F_SG_ahead_b24  l0 l1 l2 l0 h
else
 if (96 : Int32) < l1 then
 F_SG_ahead_b24  l0 l1 l2 l0 h
else
 if l2 < 0 then
 F_SG_ahead_b24  l0 l1 l2 l0 h
else
 if (2 : Int32) < l2 then
 F_SG_ahead_b24  l0 l1 l2 l0 h
else
 F_SG_ahead_b25  l0 l1 l2 l0 (1 : Int32) h
set_option maxRecDepth 100000 in
theorem F_SG_ahead_ok {d : Nat} (hd : 6 ≤ d) {l0 : Nat} {l1 : Int32} {l2 : Int32} {h : LH} {q : JOut} : F_SG_ahead l0 l1 l2 h = some q → jl_Sem jt_T jt_Ms d 162 [.ref l0, .int l1, .int l2] h q := by
 unfold F_SG_ahead
 exact jr_enter (D := 5) hd jM_162_at rfl rfl rfl (fun d hd =>
  jr_aloadn 0 1 rfl rfl rfl
  (jr_iloadn 1 2 rfl rfl rfl
  (jr_if_lt 2 24 5 rfl rfl rfl
  ((F_SG_ahead_b24_ok hd ))
  (jr_iloadn 5 6 rfl rfl rfl
  (jr_bipush 6 8 (96 : Int32) rfl jc_b_96 rfl
  (jr_icmp_gt 8 24 11 rfl rfl rfl
  ((F_SG_ahead_b24_ok hd ))
  (jr_iloadn 11 12 rfl rfl rfl
  (jr_if_lt 12 24 15 rfl rfl rfl
  ((F_SG_ahead_b24_ok hd ))
  (jr_iloadn 15 16 rfl rfl rfl
  (jr_iconst 16 17 (2 : Int32) rfl jc_i_2 rfl
  (jr_icmp_gt 17 24 20 rfl rfl rfl
  ((F_SG_ahead_b24_ok hd ))
  (jr_iconst 20 21 (1 : Int32) rfl jc_i_1 rfl
  (jr_goto 21 25 rfl rfl
  ((F_SG_ahead_b25_ok hd )))))))))))))))
noncomputable def jM_163 : JMeth := (10, false, 1, jk_163, [], 5)
set_option maxRecDepth 100000 in
theorem jM_163_at : jt_Ms 163 = some jM_163 := rfl
noncomputable def F_SG_days_b38 (l0 : Nat) (l1 : Int32) (l2 : Int32) (l3 : Int32) (l4 : Int32) (s0 : Nat) (s1 : Int32) (h : LH) : Option JOut :=
 jf_kd h s0 10
 (jf_th (F_SG_needArgument s0 s1 h) fun h1 =>
 jf_kd h1 l0 10
 ((F_SG_startTrial l0 h1).bind fun h2 =>
 jf_gr h2 l0 10 6 fun v3 =>
 jf_kd h2 v3 1
 ((F_Days_run v3 l1 l2 l3 h2).bind fun h4 =>
 if l4 = (0 : Int32) then
 jf_gr h4 l0 10 3 fun v12 =>
 jf_kd h4 v12 6
 (jf_bi (F_Scene_comersThat v12 (1 : Int32) h4) fun v13 h14 =>
 some (jo_i (v13, h14)))
else
 if l4 = (1 : Int32) then
 jf_gr h4 l0 10 3 fun v9 =>
 jf_kd h4 v9 6
 (jf_bi (F_Scene_comersThat v9 (2 : Int32) h4) fun v10 h11 =>
 some (jo_i (v10, h11)))
else
 if l4 = (2 : Int32) then
 jf_gr h4 l0 10 6 fun v7 =>
 jf_gi h4 v7 1 2 fun v8 =>
 some (jo_i (v8, h4))
else
 jf_gr h4 l0 10 6 fun v5 =>
 jf_gi h4 v5 1 3 fun v6 =>
 some (jo_i (v6, h4)))))
set_option maxRecDepth 100000 in
theorem F_SG_days_b38_ok {d : Nat} {q : JOut} (hd : 5 ≤ d) {l0 : Nat} {l1 : Int32} {l2 : Int32} {l3 : Int32} {l4 : Int32} {s0 : Nat} {s1 : Int32} {h : LH} : F_SG_days_b38 l0 l1 l2 l3 l4 s0 s1 h = some q → JR d jM_163 38 [.ref l0, .int l1, .int l2, .int l3, .int l4] [.int s1, .ref s0] h q := by
 unfold F_SG_days_b38
 exact jr_cVt 38 41 [] rfl rfl rfl rfl rfl rfl rfl rfl rfl (as := [.int s1]) (F_SG_needArgument_ok (Nat.le_trans (by decide : 1 ≤ 5) hd)) (fun h1 =>
  jr_aloadn 41 42 rfl rfl rfl
  (jr_cVv 42 45 [] rfl rfl rfl rfl rfl rfl rfl rfl (as := []) (F_SG_startTrial_ok (Nat.le_trans (by decide : 2 ≤ 5) hd)) (fun h2 =>
  jr_aloadn 45 46 rfl rfl rfl
  (jr_gr 46 49 rfl jg_10_60_2 rfl (fun v3 =>
  jr_iloadn 49 50 rfl rfl rfl
  (jr_iloadn 50 51 rfl rfl rfl
  (jr_iloadn 51 52 rfl rfl rfl
  (jr_cVv 52 55 [] rfl rfl rfl rfl rfl rfl rfl rfl (as := [.int l1, .int l2, .int l3]) (F_Days_run_ok (Nat.le_trans (by decide : 5 ≤ 5) hd)) (fun h4 =>
  jr_iload 55 57 rfl rfl rfl
  (jr_ite (fun hx57_0 => jr_tsI 57 84 hx57_0 rfl rfl rfl rfl
  (jr_aloadn 84 85 rfl rfl rfl
  (jr_gr 85 88 rfl jg_10_38_2 rfl (fun v12 =>
  jr_iconst 88 89 (1 : Int32) rfl jc_i_1 rfl
  (jr_cVi 89 92 [] rfl rfl rfl rfl rfl rfl rfl rfl (as := [.int (1 : Int32)]) (F_Scene_comersThat_ok (Nat.le_trans (by decide : 2 ≤ 5) hd)) (fun v13 h14 =>
  jr_riT 92 rfl rfl))))))
  (fun hx57_0 =>
  jr_ite (fun hx57_1 => jr_tsI 57 93 hx57_1 rfl rfl rfl rfl
  (jr_aloadn 93 94 rfl rfl rfl
  (jr_gr 94 97 rfl jg_10_38_2 rfl (fun v9 =>
  jr_iconst 97 98 (2 : Int32) rfl jc_i_2 rfl
  (jr_cVi 98 101 [] rfl rfl rfl rfl rfl rfl rfl rfl (as := [.int (2 : Int32)]) (F_Scene_comersThat_ok (Nat.le_trans (by decide : 2 ≤ 5) hd)) (fun v10 h11 =>
  jr_riT 101 rfl rfl))))))
  (fun hx57_1 =>
  jr_ite (fun hx57_2 => jr_tsI 57 102 hx57_2 rfl rfl rfl rfl
  (jr_aloadn 102 103 rfl rfl rfl
  (jr_gr 103 106 rfl jg_10_60_2 rfl (fun v7 =>
  jr_gi 106 109 rfl jg_10_361_1 rfl (fun v8 =>
  jr_riT 109 rfl rfl)))))
  (fun hx57_2 =>
  jr_tsD 57 110 rfl (by have := jr_ne (k := 0) jc_t_0 hx57_0; have := jr_ne (k := 1) jc_t_1 hx57_1; have := jr_ne (k := 2) jc_t_2 hx57_2; omega) rfl
  (jr_aloadn 110 111 rfl rfl rfl
  (jr_gr 111 114 rfl jg_10_60_2 rfl (fun v5 =>
  jr_gi 114 117 rfl jg_10_364_1 rfl (fun v6 =>
  jr_riT 117 rfl rfl)))))))))))))))))
noncomputable def F_SG_days_b37 (l0 : Nat) (l1 : Int32) (l2 : Int32) (l3 : Int32) (l4 : Int32) (s0 : Nat) (h : LH) : Option JOut :=
 F_SG_days_b38  l0 l1 l2 l3 l4 s0 (0 : Int32) h
set_option maxRecDepth 100000 in
theorem F_SG_days_b37_ok {d : Nat} {q : JOut} (hd : 5 ≤ d) {l0 : Nat} {l1 : Int32} {l2 : Int32} {l3 : Int32} {l4 : Int32} {s0 : Nat} {h : LH} : F_SG_days_b37 l0 l1 l2 l3 l4 s0 h = some q → JR d jM_163 37 [.ref l0, .int l1, .int l2, .int l3, .int l4] [.ref s0] h q := by
 unfold F_SG_days_b37
 exact jr_iconst 37 38 (0 : Int32) rfl jc_i_0 rfl
  ((F_SG_days_b38_ok hd ))
noncomputable def F_SG_days (l0 : Nat) (l1 : Int32) (l2 : Int32) (l3 : Int32) (l4 : Int32) (h : LH) : Option JOut :=
 if l2 < 0 then
 F_SG_days_b37  l0 l1 l2 l3 l4 l0 h
else
 if (16 : Int32) < l2 then
 F_SG_days_b37  l0 l1 l2 l3 l4 l0 h
else
 if l3 < (1 : Int32) then
 F_SG_days_b37  l0 l1 l2 l3 l4 l0 h
else
 if (96 : Int32) < l3 then
 F_SG_days_b37  l0 l1 l2 l3 l4 l0 h
else
 if l4 < 0 then
 F_SG_days_b37  l0 l1 l2 l3 l4 l0 h
else
 if (3 : Int32) < l4 then
 F_SG_days_b37  l0 l1 l2 l3 l4 l0 h
else
 F_SG_days_b38  l0 l1 l2 l3 l4 l0 (1 : Int32) h
set_option maxRecDepth 100000 in
theorem F_SG_days_ok {d : Nat} (hd : 6 ≤ d) {l0 : Nat} {l1 : Int32} {l2 : Int32} {l3 : Int32} {l4 : Int32} {h : LH} {q : JOut} : F_SG_days l0 l1 l2 l3 l4 h = some q → jl_Sem jt_T jt_Ms d 163 [.ref l0, .int l1, .int l2, .int l3, .int l4] h q := by
 unfold F_SG_days
 exact jr_enter (D := 5) hd jM_163_at rfl rfl rfl (fun d hd =>
  jr_aloadn 0 1 rfl rfl rfl
  (jr_iloadn 1 2 rfl rfl rfl
  (jr_if_lt 2 37 5 rfl rfl rfl
  ((F_SG_days_b37_ok hd ))
  (jr_iloadn 5 6 rfl rfl rfl
  (jr_bipush 6 8 (16 : Int32) rfl jc_b_16 rfl
  (jr_icmp_gt 8 37 11 rfl rfl rfl
  ((F_SG_days_b37_ok hd ))
  (jr_iloadn 11 12 rfl rfl rfl
  (jr_iconst 12 13 (1 : Int32) rfl jc_i_1 rfl
  (jr_icmp_lt 13 37 16 rfl rfl rfl
  ((F_SG_days_b37_ok hd ))
  (jr_iloadn 16 17 rfl rfl rfl
  (jr_bipush 17 19 (96 : Int32) rfl jc_b_96 rfl
  (jr_icmp_gt 19 37 22 rfl rfl rfl
  ((F_SG_days_b37_ok hd ))
  (jr_iload 22 24 rfl rfl rfl
  (jr_if_lt 24 37 27 rfl rfl rfl
  ((F_SG_days_b37_ok hd ))
  (jr_iload 27 29 rfl rfl rfl
  (jr_iconst 29 30 (3 : Int32) rfl jc_i_3 rfl
  (jr_icmp_gt 30 37 33 rfl rfl rfl
  ((F_SG_days_b37_ok hd ))
  (jr_iconst 33 34 (1 : Int32) rfl jc_i_1 rfl
  (jr_goto 34 38 rfl rfl
  ((F_SG_days_b38_ok hd )))))))))))))))))))))
noncomputable def jM_164 : JMeth := (10, false, 1, jk_164, [], 11)
set_option maxRecDepth 100000 in
theorem jM_164_at : jt_Ms 164 = some jM_164 := rfl
noncomputable def F_SG_span_b185 (s0 : Int32) (h : LH) : Option JOut :=
 some (jo_i (s0, h))
set_option maxRecDepth 100000 in
theorem F_SG_span_b185_ok {d : Nat} {q : JOut} (hd : 5 ≤ d) {s0 : Int32} {u0 : Value} {u1 : Value} {u2 : Value} {u3 : Value} {u4 : Value} {u5 : Value} {u6 : Value} {u7 : Value} {u8 : Value} {u9 : Value} {u10 : Value} {h : LH} : F_SG_span_b185 s0 h = some q → JR d jM_164 185 [u0, u1, u2, u3, u4, u5, u6, u7, u8, u9, u10] [.int s0] h q := by
 unfold F_SG_span_b185
 exact jr_riT 185 rfl rfl
noncomputable def F_SG_span_b156 (k86 : Nat → Int32 → Int32 → Int32 → Int32 → Int32 → Int32 → Int32 → Int32 → Int32 → Int32 → LH → Option JOut) (l0 : Nat) (l1 : Int32) (l2 : Int32) (l3 : Int32) (l4 : Int32) (l5 : Int32) (l6 : Int32) (l7 : Int32) (l8 : Int32) (l9 : Int32) (l10 : Int32) (h : LH) : Option JOut :=
 k86 l0 l1 l2 l3 l4 l5 l6 l7 l8 l9 (l10 + (1 : Int32)) h
set_option maxRecDepth 100000 in
theorem F_SG_span_b156_ok {d : Nat} {q : JOut} {k86 : Nat → Int32 → Int32 → Int32 → Int32 → Int32 → Int32 → Int32 → Int32 → Int32 → Int32 → LH → Option JOut} (hd : 5 ≤ d) (hk86 : ∀ (l0 : Nat) (l1 : Int32) (l2 : Int32) (l3 : Int32) (l4 : Int32) (l5 : Int32) (l6 : Int32) (l7 : Int32) (l8 : Int32) (l9 : Int32) (l10 : Int32) (h : LH), k86 l0 l1 l2 l3 l4 l5 l6 l7 l8 l9 l10 h = some q → JR d jM_164 86 [.ref l0, .int l1, .int l2, .int l3, .int l4, .int l5, .int l6, .int l7, .int l8, .int l9, .int l10] [] h q) {l0 : Nat} {l1 : Int32} {l2 : Int32} {l3 : Int32} {l4 : Int32} {l5 : Int32} {l6 : Int32} {l7 : Int32} {l8 : Int32} {l9 : Int32} {l10 : Int32} {h : LH} : F_SG_span_b156 k86 l0 l1 l2 l3 l4 l5 l6 l7 l8 l9 l10 h = some q → JR d jM_164 156 [.ref l0, .int l1, .int l2, .int l3, .int l4, .int l5, .int l6, .int l7, .int l8, .int l9, .int l10] [] h q := by
 unfold F_SG_span_b156
 exact jr_iinc 156 159 [.ref l0, .int l1, .int l2, .int l3, .int l4, .int l5, .int l6, .int l7, .int l8, .int l9, .int (l10 + (1 : Int32))] rfl jc_i_1 rfl rfl rfl rfl
  (jr_goto 159 86 rfl rfl
  ((hk86 _ _ _ _ _ _ _ _ _ _ _ _)))
noncomputable def F_SG_span_c86 (k86 : Nat → Int32 → Int32 → Int32 → Int32 → Int32 → Int32 → Int32 → Int32 → Int32 → Int32 → LH → Option JOut) (l0 : Nat) (l1 : Int32) (l2 : Int32) (l3 : Int32) (l4 : Int32) (l5 : Int32) (l6 : Int32) (l7 : Int32) (l8 : Int32) (l9 : Int32) (l10 : Int32) (h : LH) : Option JOut :=
 if l10 < l2 then
 jf_kd h l0 10
 ((F_SG_startTrial l0 h).bind fun h1 =>
 jf_gr h1 l0 10 6 fun v2 =>
 jf_kd h1 v2 1
 ((F_Days_run v2 (l1 + l10) l3 l4 h1).bind fun h3 =>
 jf_gr h3 l0 10 3 fun v4 =>
 jf_kd h3 v4 6
 (jf_bi (F_Scene_comersThat v4 (1 : Int32) h3) fun v5 h6 =>
 jf_let (if v5 < l6 then v5 else l6) fun v7 =>
 jf_gr h6 l0 10 3 fun v8 =>
 jf_kd h6 v8 6
 (jf_bi (F_Scene_comersThat v8 (1 : Int32) h6) fun v9 h10 =>
 jf_let (if l7 < v9 then v9 else l7) fun v11 =>
 jf_gr h10 l0 10 3 fun v12 =>
 jf_kd h10 v12 6
 (jf_bi (F_Scene_comersThat v12 (2 : Int32) h10) fun v13 h14 =>
 if v13 = l9 then
 F_SG_span_b156 k86 l0 l1 l2 l3 l4 l5 v7 v11 (l8 + (1 : Int32)) l9 l10 h14
else
 F_SG_span_b156 k86 l0 l1 l2 l3 l4 l5 v7 v11 l8 l9 l10 h14)))))
else
 if l5 = 0 then
 F_SG_span_b185  l6 h
else
 if l5 = (1 : Int32) then
 F_SG_span_b185  l7 h
else
 F_SG_span_b185  l8 h
set_option maxRecDepth 100000 in
theorem F_SG_span_c86_ok {d : Nat} {q : JOut} {k86 : Nat → Int32 → Int32 → Int32 → Int32 → Int32 → Int32 → Int32 → Int32 → Int32 → Int32 → LH → Option JOut} (hd : 5 ≤ d) (hk86 : ∀ (l0 : Nat) (l1 : Int32) (l2 : Int32) (l3 : Int32) (l4 : Int32) (l5 : Int32) (l6 : Int32) (l7 : Int32) (l8 : Int32) (l9 : Int32) (l10 : Int32) (h : LH), k86 l0 l1 l2 l3 l4 l5 l6 l7 l8 l9 l10 h = some q → JR d jM_164 86 [.ref l0, .int l1, .int l2, .int l3, .int l4, .int l5, .int l6, .int l7, .int l8, .int l9, .int l10] [] h q) {l0 : Nat} {l1 : Int32} {l2 : Int32} {l3 : Int32} {l4 : Int32} {l5 : Int32} {l6 : Int32} {l7 : Int32} {l8 : Int32} {l9 : Int32} {l10 : Int32} {h : LH} : F_SG_span_c86 k86 l0 l1 l2 l3 l4 l5 l6 l7 l8 l9 l10 h = some q → JR d jM_164 86 [.ref l0, .int l1, .int l2, .int l3, .int l4, .int l5, .int l6, .int l7, .int l8, .int l9, .int l10] [] h q := by
 unfold F_SG_span_c86
 exact jr_iload 86 88 rfl rfl rfl
  (jr_iloadn 88 89 rfl rfl rfl
  (jr_icmp_ge 89 162 92 rfl rfl rfl
  (jr_iload 162 164 rfl rfl rfl
  (jr_if_ne 164 172 167 rfl rfl rfl
  (jr_iload 172 174 rfl rfl rfl
  (jr_iconst 174 175 (1 : Int32) rfl jc_i_1 rfl
  (jr_icmp_ne 175 183 178 rfl rfl rfl
  (jr_iload 183 185 rfl rfl rfl
  ((F_SG_span_b185_ok hd )))
  (jr_iload 178 180 rfl rfl rfl
  (jr_goto 180 185 rfl rfl
  ((F_SG_span_b185_ok hd )))))))
  (jr_iload 167 169 rfl rfl rfl
  (jr_goto 169 185 rfl rfl
  ((F_SG_span_b185_ok hd ))))))
  (jr_aloadn 92 93 rfl rfl rfl
  (jr_cVv 93 96 [] rfl rfl rfl rfl rfl rfl rfl rfl (as := []) (F_SG_startTrial_ok (Nat.le_trans (by decide : 2 ≤ 5) hd)) (fun h1 =>
  jr_aloadn 96 97 rfl rfl rfl
  (jr_gr 97 100 rfl jg_10_60_2 rfl (fun v2 =>
  jr_iloadn 100 101 rfl rfl rfl
  (jr_iload 101 103 rfl rfl rfl
  (jr_iadd 103 104 rfl rfl
  (jr_iloadn 104 105 rfl rfl rfl
  (jr_iload 105 107 rfl rfl rfl
  (jr_cVv 107 110 [] rfl rfl rfl rfl rfl rfl rfl rfl (as := [.int (l1 + l10), .int l3, .int l4]) (F_Days_run_ok (Nat.le_trans (by decide : 5 ≤ 5) hd)) (fun h3 =>
  jr_iload 110 112 rfl rfl rfl
  (jr_aloadn 112 113 rfl rfl rfl
  (jr_gr 113 116 rfl jg_10_38_2 rfl (fun v4 =>
  jr_iconst 116 117 (1 : Int32) rfl jc_i_1 rfl
  (jr_cVi 117 120 [.int l6] rfl rfl rfl rfl rfl rfl rfl rfl (as := [.int (1 : Int32)]) (F_Scene_comersThat_ok (Nat.le_trans (by decide : 2 ≤ 5) hd)) (fun v5 h6 =>
  jr_min 120 123 rfl rfl rfl rfl
  (jr_istoreL 123 125 (fun v7 => [.ref l0, .int l1, .int l2, .int l3, .int l4, .int l5, .int v7, .int l7, .int l8, .int l9, .int l10]) rfl rfl (fun _ => rfl) rfl (fun v7 =>
  jr_iload 125 127 rfl rfl rfl
  (jr_aloadn 127 128 rfl rfl rfl
  (jr_gr 128 131 rfl jg_10_38_2 rfl (fun v8 =>
  jr_iconst 131 132 (1 : Int32) rfl jc_i_1 rfl
  (jr_cVi 132 135 [.int l7] rfl rfl rfl rfl rfl rfl rfl rfl (as := [.int (1 : Int32)]) (F_Scene_comersThat_ok (Nat.le_trans (by decide : 2 ≤ 5) hd)) (fun v9 h10 =>
  jr_max 135 138 rfl rfl rfl rfl
  (jr_istoreL 138 140 (fun v11 => [.ref l0, .int l1, .int l2, .int l3, .int l4, .int l5, .int v7, .int v11, .int l8, .int l9, .int l10]) rfl rfl (fun _ => rfl) rfl (fun v11 =>
  jr_aloadn 140 141 rfl rfl rfl
  (jr_gr 141 144 rfl jg_10_38_2 rfl (fun v12 =>
  jr_iconst 144 145 (2 : Int32) rfl jc_i_2 rfl
  (jr_cVi 145 148 [] rfl rfl rfl rfl rfl rfl rfl rfl (as := [.int (2 : Int32)]) (F_Scene_comersThat_ok (Nat.le_trans (by decide : 2 ≤ 5) hd)) (fun v13 h14 =>
  jr_iload 148 150 rfl rfl rfl
  (jr_icmp_ne 150 156 153 rfl rfl rfl
  ((F_SG_span_b156_ok hd hk86))
  (jr_iinc 153 156 [.ref l0, .int l1, .int l2, .int l3, .int l4, .int l5, .int v7, .int v11, .int (l8 + (1 : Int32)), .int l9, .int l10] rfl jc_i_1 rfl rfl rfl rfl
  ((F_SG_span_b156_ok hd hk86)))))))))))))))))))))))))))))))))))
noncomputable def F_SG_span_l86 : Nat → Nat → Int32 → Int32 → Int32 → Int32 → Int32 → Int32 → Int32 → Int32 → Int32 → Int32 → LH → Option JOut
 | 0, _, _, _, _, _, _, _, _, _, _, _, _ => none
 | n + 1, l0, l1, l2, l3, l4, l5, l6, l7, l8, l9, l10, h => F_SG_span_c86 (F_SG_span_l86 n) l0 l1 l2 l3 l4 l5 l6 l7 l8 l9 l10 h
theorem F_SG_span_l86_ok {d : Nat} {q : JOut} (hd : 5 ≤ d) : ∀ (n : Nat) (l0 : Nat) (l1 : Int32) (l2 : Int32) (l3 : Int32) (l4 : Int32) (l5 : Int32) (l6 : Int32) (l7 : Int32) (l8 : Int32) (l9 : Int32) (l10 : Int32) (h : LH), F_SG_span_l86 n l0 l1 l2 l3 l4 l5 l6 l7 l8 l9 l10 h = some q → JR d jM_164 86 [.ref l0, .int l1, .int l2, .int l3, .int l4, .int l5, .int l6, .int l7, .int l8, .int l9, .int l10] [] h q
 | 0 => fun _ _ _ _ _ _ _ _ _ _ _ _ hq => nomatch (show (none : Option JOut) = some q from hq)
 | n + 1 => fun _ _ _ _ _ _ _ _ _ _ _ _ hq => F_SG_span_c86_ok hd (F_SG_span_l86_ok hd n) hq
noncomputable def F_SG_span_b60 (l0 : Nat) (l1 : Int32) (l2 : Int32) (l3 : Int32) (l4 : Int32) (l5 : Int32) (s0 : Nat) (s1 : Int32) (h : LH) : Option JOut :=
 jf_kd h s0 10
 (jf_th (F_SG_needArgument s0 s1 h) fun h1 =>
 jf_gr h1 l0 10 2 fun v2 =>
 jf_kd h1 v2 6
 (jf_bi (F_Scene_comersThat v2 (2 : Int32) h1) fun v3 h4 =>
 F_SG_span_l86  jF l0 l1 l2 l3 l4 l5 (10 : Int32) (0 : Int32) (0 : Int32) v3 (0 : Int32) h4))
set_option maxRecDepth 100000 in
theorem F_SG_span_b60_ok {d : Nat} {q : JOut} (hd : 5 ≤ d) {l0 : Nat} {l1 : Int32} {l2 : Int32} {l3 : Int32} {l4 : Int32} {l5 : Int32} {s0 : Nat} {s1 : Int32} {u6 : Value} {u7 : Value} {u8 : Value} {u9 : Value} {u10 : Value} {h : LH} : F_SG_span_b60 l0 l1 l2 l3 l4 l5 s0 s1 h = some q → JR d jM_164 60 [.ref l0, .int l1, .int l2, .int l3, .int l4, .int l5, u6, u7, u8, u9, u10] [.int s1, .ref s0] h q := by
 unfold F_SG_span_b60
 exact jr_cVt 60 63 [] rfl rfl rfl rfl rfl rfl rfl rfl rfl (as := [.int s1]) (F_SG_needArgument_ok (Nat.le_trans (by decide : 1 ≤ 5) hd)) (fun h1 =>
  jr_bipush 63 65 (10 : Int32) rfl jc_b_10 rfl
  (jr_istore 65 67 [.ref l0, .int l1, .int l2, .int l3, .int l4, .int l5, .int (10 : Int32), u7, u8, u9, u10] rfl rfl rfl rfl
  (jr_iconst 67 68 (0 : Int32) rfl jc_i_0 rfl
  (jr_istore 68 70 [.ref l0, .int l1, .int l2, .int l3, .int l4, .int l5, .int (10 : Int32), .int (0 : Int32), u8, u9, u10] rfl rfl rfl rfl
  (jr_iconst 70 71 (0 : Int32) rfl jc_i_0 rfl
  (jr_istore 71 73 [.ref l0, .int l1, .int l2, .int l3, .int l4, .int l5, .int (10 : Int32), .int (0 : Int32), .int (0 : Int32), u9, u10] rfl rfl rfl rfl
  (jr_aloadn 73 74 rfl rfl rfl
  (jr_gr 74 77 rfl jg_10_34_2 rfl (fun v2 =>
  jr_iconst 77 78 (2 : Int32) rfl jc_i_2 rfl
  (jr_cVi 78 81 [] rfl rfl rfl rfl rfl rfl rfl rfl (as := [.int (2 : Int32)]) (F_Scene_comersThat_ok (Nat.le_trans (by decide : 2 ≤ 5) hd)) (fun v3 h4 =>
  jr_istore 81 83 [.ref l0, .int l1, .int l2, .int l3, .int l4, .int l5, .int (10 : Int32), .int (0 : Int32), .int (0 : Int32), .int v3, u10] rfl rfl rfl rfl
  (jr_iconst 83 84 (0 : Int32) rfl jc_i_0 rfl
  (jr_istore 84 86 [.ref l0, .int l1, .int l2, .int l3, .int l4, .int l5, .int (10 : Int32), .int (0 : Int32), .int (0 : Int32), .int v3, .int (0 : Int32)] rfl rfl rfl rfl
  ((F_SG_span_l86_ok hd  jF _ _ _ _ _ _ _ _ _ _ _ _)))))))))))))))
noncomputable def F_SG_span_b59 (l0 : Nat) (l1 : Int32) (l2 : Int32) (l3 : Int32) (l4 : Int32) (l5 : Int32) (s0 : Nat) (h : LH) : Option JOut :=
 F_SG_span_b60  l0 l1 l2 l3 l4 l5 s0 (0 : Int32) h
set_option maxRecDepth 100000 in
theorem F_SG_span_b59_ok {d : Nat} {q : JOut} (hd : 5 ≤ d) {l0 : Nat} {l1 : Int32} {l2 : Int32} {l3 : Int32} {l4 : Int32} {l5 : Int32} {s0 : Nat} {u6 : Value} {u7 : Value} {u8 : Value} {u9 : Value} {u10 : Value} {h : LH} : F_SG_span_b59 l0 l1 l2 l3 l4 l5 s0 h = some q → JR d jM_164 59 [.ref l0, .int l1, .int l2, .int l3, .int l4, .int l5, u6, u7, u8, u9, u10] [.ref s0] h q := by
 unfold F_SG_span_b59
 exact jr_iconst 59 60 (0 : Int32) rfl jc_i_0 rfl
  ((F_SG_span_b60_ok hd ))
noncomputable def F_SG_span_b27 (l0 : Nat) (l1 : Int32) (l2 : Int32) (l3 : Int32) (l4 : Int32) (l5 : Int32) (s0 : Nat) (s1 : Int32) (h : LH) : Option JOut :=
 jf_kd h s0 10
 (jf_th (F_SG_needArgument s0 s1 h) fun h1 =>
 if l4 < (1 : Int32) then
 F_SG_span_b59  l0 l1 l2 l3 l4 l5 l0 h1
else
 if (96 : Int32) < l4 then
 F_SG_span_b59  l0 l1 l2 l3 l4 l5 l0 h1
else
 if l5 < 0 then
 F_SG_span_b59  l0 l1 l2 l3 l4 l5 l0 h1
else
 if (2 : Int32) < l5 then
 F_SG_span_b59  l0 l1 l2 l3 l4 l5 l0 h1
else
 F_SG_span_b60  l0 l1 l2 l3 l4 l5 l0 (1 : Int32) h1)
set_option maxRecDepth 100000 in
theorem F_SG_span_b27_ok {d : Nat} {q : JOut} (hd : 5 ≤ d) {l0 : Nat} {l1 : Int32} {l2 : Int32} {l3 : Int32} {l4 : Int32} {l5 : Int32} {s0 : Nat} {s1 : Int32} {u6 : Value} {u7 : Value} {u8 : Value} {u9 : Value} {u10 : Value} {h : LH} : F_SG_span_b27 l0 l1 l2 l3 l4 l5 s0 s1 h = some q → JR d jM_164 27 [.ref l0, .int l1, .int l2, .int l3, .int l4, .int l5, u6, u7, u8, u9, u10] [.int s1, .ref s0] h q := by
 unfold F_SG_span_b27
 exact jr_cVt 27 30 [] rfl rfl rfl rfl rfl rfl rfl rfl rfl (as := [.int s1]) (F_SG_needArgument_ok (Nat.le_trans (by decide : 1 ≤ 5) hd)) (fun h1 =>
  jr_aloadn 30 31 rfl rfl rfl
  (jr_iload 31 33 rfl rfl rfl
  (jr_iconst 33 34 (1 : Int32) rfl jc_i_1 rfl
  (jr_icmp_lt 34 59 37 rfl rfl rfl
  ((F_SG_span_b59_ok hd ))
  (jr_iload 37 39 rfl rfl rfl
  (jr_bipush 39 41 (96 : Int32) rfl jc_b_96 rfl
  (jr_icmp_gt 41 59 44 rfl rfl rfl
  ((F_SG_span_b59_ok hd ))
  (jr_iload 44 46 rfl rfl rfl
  (jr_if_lt 46 59 49 rfl rfl rfl
  ((F_SG_span_b59_ok hd ))
  (jr_iload 49 51 rfl rfl rfl
  (jr_iconst 51 52 (2 : Int32) rfl jc_i_2 rfl
  (jr_icmp_gt 52 59 55 rfl rfl rfl
  ((F_SG_span_b59_ok hd ))
  (jr_iconst 55 56 (1 : Int32) rfl jc_i_1 rfl
  (jr_goto 56 60 rfl rfl
  ((F_SG_span_b60_ok hd ))))))))))))))))
noncomputable def F_SG_span_b26 (l0 : Nat) (l1 : Int32) (l2 : Int32) (l3 : Int32) (l4 : Int32) (l5 : Int32) (s0 : Nat) (h : LH) : Option JOut :=
 F_SG_span_b27  l0 l1 l2 l3 l4 l5 s0 (0 : Int32) h
set_option maxRecDepth 100000 in
theorem F_SG_span_b26_ok {d : Nat} {q : JOut} (hd : 5 ≤ d) {l0 : Nat} {l1 : Int32} {l2 : Int32} {l3 : Int32} {l4 : Int32} {l5 : Int32} {s0 : Nat} {u6 : Value} {u7 : Value} {u8 : Value} {u9 : Value} {u10 : Value} {h : LH} : F_SG_span_b26 l0 l1 l2 l3 l4 l5 s0 h = some q → JR d jM_164 26 [.ref l0, .int l1, .int l2, .int l3, .int l4, .int l5, u6, u7, u8, u9, u10] [.ref s0] h q := by
 unfold F_SG_span_b26
 exact jr_iconst 26 27 (0 : Int32) rfl jc_i_0 rfl
  ((F_SG_span_b27_ok hd ))
noncomputable def F_SG_span (l0 : Nat) (l1 : Int32) (l2 : Int32) (l3 : Int32) (l4 : Int32) (l5 : Int32) (h : LH) : Option JOut :=
 if l2 < (1 : Int32) then
 F_SG_span_b26  l0 l1 l2 l3 l4 l5 l0 h
else
 if (20 : Int32) < l2 then
 F_SG_span_b26  l0 l1 l2 l3 l4 l5 l0 h
else
 if l3 < 0 then
 F_SG_span_b26  l0 l1 l2 l3 l4 l5 l0 h
else
 if (16 : Int32) < l3 then
 F_SG_span_b26  l0 l1 l2 l3 l4 l5 l0 h
else
 F_SG_span_b27  l0 l1 l2 l3 l4 l5 l0 (1 : Int32) h
set_option maxRecDepth 100000 in
theorem F_SG_span_ok {d : Nat} (hd : 6 ≤ d) {l0 : Nat} {l1 : Int32} {l2 : Int32} {l3 : Int32} {l4 : Int32} {l5 : Int32} {h : LH} {q : JOut} : F_SG_span l0 l1 l2 l3 l4 l5 h = some q → jl_Sem jt_T jt_Ms d 164 [.ref l0, .int l1, .int l2, .int l3, .int l4, .int l5] h q := by
 unfold F_SG_span
 exact jr_enter (D := 5) hd jM_164_at rfl rfl rfl (fun d hd =>
  jr_aloadn 0 1 rfl rfl rfl
  (jr_iloadn 1 2 rfl rfl rfl
  (jr_iconst 2 3 (1 : Int32) rfl jc_i_1 rfl
  (jr_icmp_lt 3 26 6 rfl rfl rfl
  ((F_SG_span_b26_ok hd ))
  (jr_iloadn 6 7 rfl rfl rfl
  (jr_bipush 7 9 (20 : Int32) rfl jc_b_20 rfl
  (jr_icmp_gt 9 26 12 rfl rfl rfl
  ((F_SG_span_b26_ok hd ))
  (jr_iloadn 12 13 rfl rfl rfl
  (jr_if_lt 13 26 16 rfl rfl rfl
  ((F_SG_span_b26_ok hd ))
  (jr_iloadn 16 17 rfl rfl rfl
  (jr_bipush 17 19 (16 : Int32) rfl jc_b_16 rfl
  (jr_icmp_gt 19 26 22 rfl rfl rfl
  ((F_SG_span_b26_ok hd ))
  (jr_iconst 22 23 (1 : Int32) rfl jc_i_1 rfl
  (jr_goto 23 27 rfl rfl
  ((F_SG_span_b27_ok hd ))))))))))))))))
noncomputable def jM_167 : JMeth := (11, false, 0, jk_167, [], 5)
set_option maxRecDepth 100000 in
theorem jM_167_at : jt_Ms 167 = some jM_167 := rfl
noncomputable def F_Mod_lays_c10 (k2 : Nat → Nat → Int32 → Int32 → LH → Option LH) (k10 : Nat → Nat → Int32 → Int32 → Int32 → LH → Option LH) (l0 : Nat) (l1 : Nat) (l2 : Int32) (l3 : Int32) (l4 : Int32) (h : LH) : Option LH :=
 jf_aa h l1 l3 fun v1 =>
 jf_al h v1 fun v2 =>
 if l4 < v2 then
 jf_aa h l1 l3 fun v3 =>
 jf_aa h l0 l3 fun v4 =>
 jf_ia h v4 l4 fun v5 =>
 jf_is h v3 l4 v5 fun h6 =>
 k10 l0 l1 l2 l3 (l4 + (1 : Int32)) h6
else
 k2 l0 l1 l2 (l3 + (1 : Int32)) h
set_option maxRecDepth 100000 in
theorem F_Mod_lays_c10_ok {d : Nat} {q : LH} {k2 : Nat → Nat → Int32 → Int32 → LH → Option LH} {k10 : Nat → Nat → Int32 → Int32 → Int32 → LH → Option LH} (hd : 0 ≤ d) (hk2 : ∀ (l0 : Nat) (l1 : Nat) (l2 : Int32) (l3 : Int32) (u4 : Value) (h : LH), k2 l0 l1 l2 l3 h = some q → JR d jM_167 2 [.ref l0, .ref l1, .int l2, .int l3, u4] [] h (jo_v q)) (hk10 : ∀ (l0 : Nat) (l1 : Nat) (l2 : Int32) (l3 : Int32) (l4 : Int32) (h : LH), k10 l0 l1 l2 l3 l4 h = some q → JR d jM_167 10 [.ref l0, .ref l1, .int l2, .int l3, .int l4] [] h (jo_v q)) {l0 : Nat} {l1 : Nat} {l2 : Int32} {l3 : Int32} {l4 : Int32} {h : LH} : F_Mod_lays_c10 k2 k10 l0 l1 l2 l3 l4 h = some q → JR d jM_167 10 [.ref l0, .ref l1, .int l2, .int l3, .int l4] [] h (jo_v q) := by
 unfold F_Mod_lays_c10
 exact jr_iload 10 12 rfl rfl rfl
  (jr_aloadn 12 13 rfl rfl rfl
  (jr_iloadn 13 14 rfl rfl rfl
  (jr_aa 14 15 rfl rfl (fun v1 =>
  jr_al 15 16 rfl rfl (fun v2 =>
  jr_icmp_ge 16 37 19 rfl rfl rfl
  (jr_iinc 37 40 [.ref l0, .ref l1, .int l2, .int (l3 + (1 : Int32)), .int l4] rfl jc_i_1 rfl rfl rfl rfl
  (jr_goto 40 2 rfl rfl
  ((hk2 _ _ _ _ _ _))))
  (jr_aloadn 19 20 rfl rfl rfl
  (jr_iloadn 20 21 rfl rfl rfl
  (jr_aa 21 22 rfl rfl (fun v3 =>
  jr_iload 22 24 rfl rfl rfl
  (jr_aloadn 24 25 rfl rfl rfl
  (jr_iloadn 25 26 rfl rfl rfl
  (jr_aa 26 27 rfl rfl (fun v4 =>
  jr_iload 27 29 rfl rfl rfl
  (jr_ia 29 30 rfl rfl (fun v5 =>
  jr_is 30 31 rfl rfl (fun h6 =>
  jr_iinc 31 34 [.ref l0, .ref l1, .int l2, .int l3, .int (l4 + (1 : Int32))] rfl jc_i_1 rfl rfl rfl rfl
  (jr_goto 34 10 rfl rfl
  ((hk10 _ _ _ _ _ _)))))))))))))))))))
noncomputable def F_Mod_lays_l10 (k2 : Nat → Nat → Int32 → Int32 → LH → Option LH) : Nat → Nat → Nat → Int32 → Int32 → Int32 → LH → Option LH
 | 0, _, _, _, _, _, _ => none
 | n + 1, l0, l1, l2, l3, l4, h => F_Mod_lays_c10 k2 (F_Mod_lays_l10 k2 n) l0 l1 l2 l3 l4 h
theorem F_Mod_lays_l10_ok {d : Nat} {q : LH} {k2 : Nat → Nat → Int32 → Int32 → LH → Option LH} (hd : 0 ≤ d) (hk2 : ∀ (l0 : Nat) (l1 : Nat) (l2 : Int32) (l3 : Int32) (u4 : Value) (h : LH), k2 l0 l1 l2 l3 h = some q → JR d jM_167 2 [.ref l0, .ref l1, .int l2, .int l3, u4] [] h (jo_v q)) : ∀ (n : Nat) (l0 : Nat) (l1 : Nat) (l2 : Int32) (l3 : Int32) (l4 : Int32) (h : LH), F_Mod_lays_l10 k2 n l0 l1 l2 l3 l4 h = some q → JR d jM_167 10 [.ref l0, .ref l1, .int l2, .int l3, .int l4] [] h (jo_v q)
 | 0 => fun _ _ _ _ _ _ hq => nomatch (show (none : Option LH) = some q from hq)
 | n + 1 => fun _ _ _ _ _ _ hq => F_Mod_lays_c10_ok hd hk2 (F_Mod_lays_l10_ok hd hk2 n) hq
noncomputable def F_Mod_lays_c2 (k2 : Nat → Nat → Int32 → Int32 → LH → Option LH) (l0 : Nat) (l1 : Nat) (l2 : Int32) (l3 : Int32) (h : LH) : Option LH :=
 if l3 < l2 then
 F_Mod_lays_l10 k2 jF l0 l1 l2 l3 (0 : Int32) h
else
 some h
set_option maxRecDepth 100000 in
theorem F_Mod_lays_c2_ok {d : Nat} {q : LH} {k2 : Nat → Nat → Int32 → Int32 → LH → Option LH} (hd : 0 ≤ d) (hk2 : ∀ (l0 : Nat) (l1 : Nat) (l2 : Int32) (l3 : Int32) (u4 : Value) (h : LH), k2 l0 l1 l2 l3 h = some q → JR d jM_167 2 [.ref l0, .ref l1, .int l2, .int l3, u4] [] h (jo_v q)) {l0 : Nat} {l1 : Nat} {l2 : Int32} {l3 : Int32} {u4 : Value} {h : LH} : F_Mod_lays_c2 k2 l0 l1 l2 l3 h = some q → JR d jM_167 2 [.ref l0, .ref l1, .int l2, .int l3, u4] [] h (jo_v q) := by
 unfold F_Mod_lays_c2
 exact jr_iloadn 2 3 rfl rfl rfl
  (jr_iloadn 3 4 rfl rfl rfl
  (jr_icmp_ge 4 43 7 rfl rfl rfl
  (jr_rv 43 rfl rfl)
  (jr_iconst 7 8 (0 : Int32) rfl jc_i_0 rfl
  (jr_istore 8 10 [.ref l0, .ref l1, .int l2, .int l3, .int (0 : Int32)] rfl rfl rfl rfl
  ((F_Mod_lays_l10_ok hd hk2 jF _ _ _ _ _ _))))))
noncomputable def F_Mod_lays_l2 : Nat → Nat → Nat → Int32 → Int32 → LH → Option LH
 | 0, _, _, _, _, _ => none
 | n + 1, l0, l1, l2, l3, h => F_Mod_lays_c2 (F_Mod_lays_l2 n) l0 l1 l2 l3 h
theorem F_Mod_lays_l2_ok {d : Nat} {q : LH} (hd : 0 ≤ d) : ∀ (n : Nat) (l0 : Nat) (l1 : Nat) (l2 : Int32) (l3 : Int32) (u4 : Value) (h : LH), F_Mod_lays_l2 n l0 l1 l2 l3 h = some q → JR d jM_167 2 [.ref l0, .ref l1, .int l2, .int l3, u4] [] h (jo_v q)
 | 0 => fun _ _ _ _ _ _ hq => nomatch (show (none : Option LH) = some q from hq)
 | n + 1 => fun _ _ _ _ _ _ hq => F_Mod_lays_c2_ok hd (F_Mod_lays_l2_ok hd n) hq
noncomputable def F_Mod_lays (l0 : Nat) (l1 : Nat) (l2 : Int32) (h : LH) : Option LH :=
 F_Mod_lays_l2  jF l0 l1 l2 (0 : Int32) h
set_option maxRecDepth 100000 in
theorem F_Mod_lays_ok {d : Nat} (hd : 1 ≤ d) {l0 : Nat} {l1 : Nat} {l2 : Int32} {h : LH} {q : LH} : F_Mod_lays l0 l1 l2 h = some q → jl_Sem jt_T jt_Ms d 167 [.ref l0, .ref l1, .int l2] h (jo_v q) := by
 unfold F_Mod_lays
 exact jr_enter (D := 0) hd jM_167_at rfl rfl rfl (fun d hd =>
  jr_iconst 0 1 (0 : Int32) rfl jc_i_0 rfl
  (jr_istoren 1 2 [.ref l0, .ref l1, .int l2, .int (0 : Int32), .retAddr 0] rfl rfl rfl rfl
  ((F_Mod_lays_l2_ok hd  jF _ _ _ _ _ _))))
noncomputable def jM_166 : JMeth := (11, false, 0, jk_166, [], 2)
set_option maxRecDepth 100000 in
theorem jM_166_at : jt_Ms 166 = some jM_166 := rfl
noncomputable def F_Mod_beginsAnew_c191 (k191 : Nat → Int32 → LH → Option LH) (l0 : Nat) (l1 : Int32) (h : LH) : Option LH :=
 jf_gr h l0 11 12 fun v1 =>
 jf_ia h v1 (1 : Int32) fun v2 =>
 if l1 < v2 then
 jf_gr h l0 11 35 fun v8 =>
 jf_gr h l0 11 20 fun v9 =>
 jf_aa h v9 l1 fun v10 =>
 jf_ia h v10 (3 : Int32) fun v11 =>
 jf_is h v8 ((117 : Int32) + l1) v11 fun h12 =>
 k191 l0 (l1 + (1 : Int32)) h12
else
 jf_pi h l0 11 25 (0 : Int32) fun h3 =>
 jf_pi h3 l0 11 39 (0 : Int32) fun h4 =>
 jf_pi h4 l0 11 40 (0 : Int32) fun h5 =>
 jf_pi h5 l0 11 41 (0 : Int32) fun h6 =>
 jf_pi h6 l0 11 42 (0 : Int32) fun h7 =>
 some h7
set_option maxRecDepth 100000 in
theorem F_Mod_beginsAnew_c191_ok {d : Nat} {q : LH} {k191 : Nat → Int32 → LH → Option LH} (hd : 1 ≤ d) (hk191 : ∀ (l0 : Nat) (l1 : Int32) (h : LH), k191 l0 l1 h = some q → JR d jM_166 191 [.ref l0, .int l1] [] h (jo_v q)) {l0 : Nat} {l1 : Int32} {h : LH} : F_Mod_beginsAnew_c191 k191 l0 l1 h = some q → JR d jM_166 191 [.ref l0, .int l1] [] h (jo_v q) := by
 unfold F_Mod_beginsAnew_c191
 exact jr_iloadn 191 192 rfl rfl rfl
  (jr_aloadn 192 193 rfl rfl rfl
  (jr_gr 193 196 rfl jg_11_23_2 rfl (fun v1 =>
  jr_iconst 196 197 (1 : Int32) rfl jc_i_1 rfl
  (jr_ia 197 198 rfl rfl (fun v2 =>
  jr_icmp_ge 198 224 201 rfl rfl rfl
  (jr_aloadn 224 225 rfl rfl rfl
  (jr_iconst 225 226 (0 : Int32) rfl jc_i_0 rfl
  (jr_pi 226 229 rfl jg_11_202_3 rfl (fun h3 =>
  jr_aloadn 229 230 rfl rfl rfl
  (jr_iconst 230 231 (0 : Int32) rfl jc_i_0 rfl
  (jr_pi 231 234 rfl jg_11_205_3 rfl (fun h4 =>
  jr_aloadn 234 235 rfl rfl rfl
  (jr_iconst 235 236 (0 : Int32) rfl jc_i_0 rfl
  (jr_pi 236 239 rfl jg_11_208_3 rfl (fun h5 =>
  jr_aloadn 239 240 rfl rfl rfl
  (jr_iconst 240 241 (0 : Int32) rfl jc_i_0 rfl
  (jr_pi 241 244 rfl jg_11_211_3 rfl (fun h6 =>
  jr_aloadn 244 245 rfl rfl rfl
  (jr_iconst 245 246 (0 : Int32) rfl jc_i_0 rfl
  (jr_pi 246 249 rfl jg_11_214_3 rfl (fun h7 =>
  jr_rv 249 rfl rfl))))))))))))))))
  (jr_aloadn 201 202 rfl rfl rfl
  (jr_gr 202 205 rfl jg_11_85_2 rfl (fun v8 =>
  jr_bipush 205 207 (117 : Int32) rfl jc_b_117 rfl
  (jr_iloadn 207 208 rfl rfl rfl
  (jr_iadd 208 209 rfl rfl
  (jr_aloadn 209 210 rfl rfl rfl
  (jr_gr 210 213 rfl jg_11_49_2 rfl (fun v9 =>
  jr_iloadn 213 214 rfl rfl rfl
  (jr_aa 214 215 rfl rfl (fun v10 =>
  jr_iconst 215 216 (3 : Int32) rfl jc_i_3 rfl
  (jr_ia 216 217 rfl rfl (fun v11 =>
  jr_is 217 218 rfl rfl (fun h12 =>
  jr_iinc 218 221 [.ref l0, .int (l1 + (1 : Int32))] rfl jc_i_1 rfl rfl rfl rfl
  (jr_goto 221 191 rfl rfl
  ((hk191 _ _ _)))))))))))))))))))))
noncomputable def F_Mod_beginsAnew_l191 : Nat → Nat → Int32 → LH → Option LH
 | 0, _, _, _ => none
 | n + 1, l0, l1, h => F_Mod_beginsAnew_c191 (F_Mod_beginsAnew_l191 n) l0 l1 h
theorem F_Mod_beginsAnew_l191_ok {d : Nat} {q : LH} (hd : 1 ≤ d) : ∀ (n : Nat) (l0 : Nat) (l1 : Int32) (h : LH), F_Mod_beginsAnew_l191 n l0 l1 h = some q → JR d jM_166 191 [.ref l0, .int l1] [] h (jo_v q)
 | 0 => fun _ _ _ hq => nomatch (show (none : Option LH) = some q from hq)
 | n + 1 => fun _ _ _ hq => F_Mod_beginsAnew_c191_ok hd (F_Mod_beginsAnew_l191_ok hd n) hq
noncomputable def F_Mod_beginsAnew_c169 (k169 : Nat → Int32 → LH → Option LH) (l0 : Nat) (l1 : Int32) (h : LH) : Option LH :=
 if l1 < (134 : Int32) then
 jf_gr h l0 11 35 fun v1 =>
 jf_is h v1 l1 (0 : Int32) fun h2 =>
 k169 l0 (l1 + (1 : Int32)) h2
else
 F_Mod_beginsAnew_l191  jF l0 (0 : Int32) h
set_option maxRecDepth 100000 in
theorem F_Mod_beginsAnew_c169_ok {d : Nat} {q : LH} {k169 : Nat → Int32 → LH → Option LH} (hd : 1 ≤ d) (hk169 : ∀ (l0 : Nat) (l1 : Int32) (h : LH), k169 l0 l1 h = some q → JR d jM_166 169 [.ref l0, .int l1] [] h (jo_v q)) {l0 : Nat} {l1 : Int32} {h : LH} : F_Mod_beginsAnew_c169 k169 l0 l1 h = some q → JR d jM_166 169 [.ref l0, .int l1] [] h (jo_v q) := by
 unfold F_Mod_beginsAnew_c169
 exact jr_iloadn 169 170 rfl rfl rfl
  (jr_sipush 170 173 (134 : Int32) rfl jc_s_134 rfl
  (jr_icmp_ge 173 189 176 rfl rfl rfl
  (jr_iconst 189 190 (0 : Int32) rfl jc_i_0 rfl
  (jr_istoren 190 191 [.ref l0, .int (0 : Int32)] rfl rfl rfl rfl
  ((F_Mod_beginsAnew_l191_ok hd  jF _ _ _))))
  (jr_aloadn 176 177 rfl rfl rfl
  (jr_gr 177 180 rfl jg_11_85_2 rfl (fun v1 =>
  jr_iloadn 180 181 rfl rfl rfl
  (jr_iconst 181 182 (0 : Int32) rfl jc_i_0 rfl
  (jr_is 182 183 rfl rfl (fun h2 =>
  jr_iinc 183 186 [.ref l0, .int (l1 + (1 : Int32))] rfl jc_i_1 rfl rfl rfl rfl
  (jr_goto 186 169 rfl rfl
  ((hk169 _ _ _)))))))))))
noncomputable def F_Mod_beginsAnew_l169 : Nat → Nat → Int32 → LH → Option LH
 | 0, _, _, _ => none
 | n + 1, l0, l1, h => F_Mod_beginsAnew_c169 (F_Mod_beginsAnew_l169 n) l0 l1 h
theorem F_Mod_beginsAnew_l169_ok {d : Nat} {q : LH} (hd : 1 ≤ d) : ∀ (n : Nat) (l0 : Nat) (l1 : Int32) (h : LH), F_Mod_beginsAnew_l169 n l0 l1 h = some q → JR d jM_166 169 [.ref l0, .int l1] [] h (jo_v q)
 | 0 => fun _ _ _ hq => nomatch (show (none : Option LH) = some q from hq)
 | n + 1 => fun _ _ _ hq => F_Mod_beginsAnew_c169_ok hd (F_Mod_beginsAnew_l169_ok hd n) hq
noncomputable def F_Mod_beginsAnew_c88 (k88 : Nat → Int32 → LH → Option LH) (l0 : Nat) (l1 : Int32) (h : LH) : Option LH :=
 jf_gr h l0 11 12 fun v1 =>
 jf_ia h v1 (4 : Int32) fun v2 =>
 if l1 < v2 then
 jf_gr h l0 11 16 fun v18 =>
 jf_gr h l0 11 15 fun v19 =>
 jf_ia h v19 l1 fun v20 =>
 jf_is h v18 l1 v20 fun h21 =>
 k88 l0 (l1 + (1 : Int32)) h21
else
 jf_gr h l0 11 19 fun v3 =>
 jf_gr h l0 11 20 fun v4 =>
 jf_gr h l0 11 12 fun v5 =>
 jf_ia h v5 (1 : Int32) fun v6 =>
 (F_Mod_lays v3 v4 v6 h).bind fun h7 =>
 jf_gr h7 l0 11 21 fun v8 =>
 jf_gr h7 l0 11 22 fun v9 =>
 jf_gr h7 l0 11 12 fun v10 =>
 jf_ia h7 v10 (2 : Int32) fun v11 =>
 (F_Mod_lays v8 v9 v11 h7).bind fun h12 =>
 jf_gr h12 l0 11 23 fun v13 =>
 jf_gr h12 l0 11 24 fun v14 =>
 jf_gr h12 l0 11 12 fun v15 =>
 jf_ia h12 v15 (5 : Int32) fun v16 =>
 (F_Mod_lays v13 v14 v16 h12).bind fun h17 =>
 F_Mod_beginsAnew_l169  jF l0 (0 : Int32) h17
set_option maxRecDepth 100000 in
theorem F_Mod_beginsAnew_c88_ok {d : Nat} {q : LH} {k88 : Nat → Int32 → LH → Option LH} (hd : 1 ≤ d) (hk88 : ∀ (l0 : Nat) (l1 : Int32) (h : LH), k88 l0 l1 h = some q → JR d jM_166 88 [.ref l0, .int l1] [] h (jo_v q)) {l0 : Nat} {l1 : Int32} {h : LH} : F_Mod_beginsAnew_c88 k88 l0 l1 h = some q → JR d jM_166 88 [.ref l0, .int l1] [] h (jo_v q) := by
 unfold F_Mod_beginsAnew_c88
 exact jr_iloadn 88 89 rfl rfl rfl
  (jr_aloadn 89 90 rfl rfl rfl
  (jr_gr 90 93 rfl jg_11_23_2 rfl (fun v1 =>
  jr_iconst 93 94 (4 : Int32) rfl jc_i_4 rfl
  (jr_ia 94 95 rfl rfl (fun v2 =>
  jr_icmp_ge 95 116 98 rfl rfl rfl
  (jr_aloadn 116 117 rfl rfl rfl
  (jr_gr 117 120 rfl jg_11_46_2 rfl (fun v3 =>
  jr_aloadn 120 121 rfl rfl rfl
  (jr_gr 121 124 rfl jg_11_49_2 rfl (fun v4 =>
  jr_aloadn 124 125 rfl rfl rfl
  (jr_gr 125 128 rfl jg_11_23_2 rfl (fun v5 =>
  jr_iconst 128 129 (1 : Int32) rfl jc_i_1 rfl
  (jr_ia 129 130 rfl rfl (fun v6 =>
  jr_cSv 130 133 [] rfl rfl rfl rfl rfl rfl rfl (as := [.ref v3, .ref v4, .int v6]) (F_Mod_lays_ok (Nat.le_trans (by decide : 1 ≤ 1) hd)) (fun h7 =>
  jr_aloadn 133 134 rfl rfl rfl
  (jr_gr 134 137 rfl jg_11_52_2 rfl (fun v8 =>
  jr_aloadn 137 138 rfl rfl rfl
  (jr_gr 138 141 rfl jg_11_55_2 rfl (fun v9 =>
  jr_aloadn 141 142 rfl rfl rfl
  (jr_gr 142 145 rfl jg_11_23_2 rfl (fun v10 =>
  jr_iconst 145 146 (2 : Int32) rfl jc_i_2 rfl
  (jr_ia 146 147 rfl rfl (fun v11 =>
  jr_cSv 147 150 [] rfl rfl rfl rfl rfl rfl rfl (as := [.ref v8, .ref v9, .int v11]) (F_Mod_lays_ok (Nat.le_trans (by decide : 1 ≤ 1) hd)) (fun h12 =>
  jr_aloadn 150 151 rfl rfl rfl
  (jr_gr 151 154 rfl jg_11_58_2 rfl (fun v13 =>
  jr_aloadn 154 155 rfl rfl rfl
  (jr_gr 155 158 rfl jg_11_61_2 rfl (fun v14 =>
  jr_aloadn 158 159 rfl rfl rfl
  (jr_gr 159 162 rfl jg_11_23_2 rfl (fun v15 =>
  jr_iconst 162 163 (5 : Int32) rfl jc_i_5 rfl
  (jr_ia 163 164 rfl rfl (fun v16 =>
  jr_cSv 164 167 [] rfl rfl rfl rfl rfl rfl rfl (as := [.ref v13, .ref v14, .int v16]) (F_Mod_lays_ok (Nat.le_trans (by decide : 1 ≤ 1) hd)) (fun h17 =>
  jr_iconst 167 168 (0 : Int32) rfl jc_i_0 rfl
  (jr_istoren 168 169 [.ref l0, .int (0 : Int32)] rfl rfl rfl rfl
  ((F_Mod_beginsAnew_l169_ok hd  jF _ _ _)))))))))))))))))))))))))))))))
  (jr_aloadn 98 99 rfl rfl rfl
  (jr_gr 99 102 rfl jg_11_35_2 rfl (fun v18 =>
  jr_iloadn 102 103 rfl rfl rfl
  (jr_aloadn 103 104 rfl rfl rfl
  (jr_gr 104 107 rfl jg_11_32_2 rfl (fun v19 =>
  jr_iloadn 107 108 rfl rfl rfl
  (jr_ia 108 109 rfl rfl (fun v20 =>
  jr_is 109 110 rfl rfl (fun h21 =>
  jr_iinc 110 113 [.ref l0, .int (l1 + (1 : Int32))] rfl jc_i_1 rfl rfl rfl rfl
  (jr_goto 113 88 rfl rfl
  ((hk88 _ _ _)))))))))))))))))
noncomputable def F_Mod_beginsAnew_l88 : Nat → Nat → Int32 → LH → Option LH
 | 0, _, _, _ => none
 | n + 1, l0, l1, h => F_Mod_beginsAnew_c88 (F_Mod_beginsAnew_l88 n) l0 l1 h
theorem F_Mod_beginsAnew_l88_ok {d : Nat} {q : LH} (hd : 1 ≤ d) : ∀ (n : Nat) (l0 : Nat) (l1 : Int32) (h : LH), F_Mod_beginsAnew_l88 n l0 l1 h = some q → JR d jM_166 88 [.ref l0, .int l1] [] h (jo_v q)
 | 0 => fun _ _ _ hq => nomatch (show (none : Option LH) = some q from hq)
 | n + 1 => fun _ _ _ hq => F_Mod_beginsAnew_c88_ok hd (F_Mod_beginsAnew_l88_ok hd n) hq
noncomputable def F_Mod_beginsAnew_c58 (k58 : Nat → Int32 → LH → Option LH) (l0 : Nat) (l1 : Int32) (h : LH) : Option LH :=
 jf_gr h l0 11 12 fun v1 =>
 jf_ia h v1 (3 : Int32) fun v2 =>
 if l1 < v2 then
 jf_gr h l0 11 18 fun v3 =>
 jf_gr h l0 11 17 fun v4 =>
 jf_ia h v4 l1 fun v5 =>
 jf_is h v3 l1 v5 fun h6 =>
 k58 l0 (l1 + (1 : Int32)) h6
else
 F_Mod_beginsAnew_l88  jF l0 (0 : Int32) h
set_option maxRecDepth 100000 in
theorem F_Mod_beginsAnew_c58_ok {d : Nat} {q : LH} {k58 : Nat → Int32 → LH → Option LH} (hd : 1 ≤ d) (hk58 : ∀ (l0 : Nat) (l1 : Int32) (h : LH), k58 l0 l1 h = some q → JR d jM_166 58 [.ref l0, .int l1] [] h (jo_v q)) {l0 : Nat} {l1 : Int32} {h : LH} : F_Mod_beginsAnew_c58 k58 l0 l1 h = some q → JR d jM_166 58 [.ref l0, .int l1] [] h (jo_v q) := by
 unfold F_Mod_beginsAnew_c58
 exact jr_iloadn 58 59 rfl rfl rfl
  (jr_aloadn 59 60 rfl rfl rfl
  (jr_gr 60 63 rfl jg_11_23_2 rfl (fun v1 =>
  jr_iconst 63 64 (3 : Int32) rfl jc_i_3 rfl
  (jr_ia 64 65 rfl rfl (fun v2 =>
  jr_icmp_ge 65 86 68 rfl rfl rfl
  (jr_iconst 86 87 (0 : Int32) rfl jc_i_0 rfl
  (jr_istoren 87 88 [.ref l0, .int (0 : Int32)] rfl rfl rfl rfl
  ((F_Mod_beginsAnew_l88_ok hd  jF _ _ _))))
  (jr_aloadn 68 69 rfl rfl rfl
  (jr_gr 69 72 rfl jg_11_41_2 rfl (fun v3 =>
  jr_iloadn 72 73 rfl rfl rfl
  (jr_aloadn 73 74 rfl rfl rfl
  (jr_gr 74 77 rfl jg_11_38_2 rfl (fun v4 =>
  jr_iloadn 77 78 rfl rfl rfl
  (jr_ia 78 79 rfl rfl (fun v5 =>
  jr_is 79 80 rfl rfl (fun h6 =>
  jr_iinc 80 83 [.ref l0, .int (l1 + (1 : Int32))] rfl jc_i_1 rfl rfl rfl rfl
  (jr_goto 83 58 rfl rfl
  ((hk58 _ _ _)))))))))))))))))
noncomputable def F_Mod_beginsAnew_l58 : Nat → Nat → Int32 → LH → Option LH
 | 0, _, _, _ => none
 | n + 1, l0, l1, h => F_Mod_beginsAnew_c58 (F_Mod_beginsAnew_l58 n) l0 l1 h
theorem F_Mod_beginsAnew_l58_ok {d : Nat} {q : LH} (hd : 1 ≤ d) : ∀ (n : Nat) (l0 : Nat) (l1 : Int32) (h : LH), F_Mod_beginsAnew_l58 n l0 l1 h = some q → JR d jM_166 58 [.ref l0, .int l1] [] h (jo_v q)
 | 0 => fun _ _ _ hq => nomatch (show (none : Option LH) = some q from hq)
 | n + 1 => fun _ _ _ hq => F_Mod_beginsAnew_c58_ok hd (F_Mod_beginsAnew_l58_ok hd n) hq
noncomputable def F_Mod_beginsAnew_c28 (k28 : Nat → Int32 → LH → Option LH) (l0 : Nat) (l1 : Int32) (h : LH) : Option LH :=
 jf_gr h l0 11 12 fun v1 =>
 jf_ia h v1 (0 : Int32) fun v2 =>
 if l1 < v2 then
 jf_gr h l0 11 14 fun v3 =>
 jf_gr h l0 11 13 fun v4 =>
 jf_ia h v4 l1 fun v5 =>
 jf_is h v3 l1 v5 fun h6 =>
 k28 l0 (l1 + (1 : Int32)) h6
else
 F_Mod_beginsAnew_l58  jF l0 (0 : Int32) h
set_option maxRecDepth 100000 in
theorem F_Mod_beginsAnew_c28_ok {d : Nat} {q : LH} {k28 : Nat → Int32 → LH → Option LH} (hd : 1 ≤ d) (hk28 : ∀ (l0 : Nat) (l1 : Int32) (h : LH), k28 l0 l1 h = some q → JR d jM_166 28 [.ref l0, .int l1] [] h (jo_v q)) {l0 : Nat} {l1 : Int32} {h : LH} : F_Mod_beginsAnew_c28 k28 l0 l1 h = some q → JR d jM_166 28 [.ref l0, .int l1] [] h (jo_v q) := by
 unfold F_Mod_beginsAnew_c28
 exact jr_iloadn 28 29 rfl rfl rfl
  (jr_aloadn 29 30 rfl rfl rfl
  (jr_gr 30 33 rfl jg_11_23_2 rfl (fun v1 =>
  jr_iconst 33 34 (0 : Int32) rfl jc_i_0 rfl
  (jr_ia 34 35 rfl rfl (fun v2 =>
  jr_icmp_ge 35 56 38 rfl rfl rfl
  (jr_iconst 56 57 (0 : Int32) rfl jc_i_0 rfl
  (jr_istoren 57 58 [.ref l0, .int (0 : Int32)] rfl rfl rfl rfl
  ((F_Mod_beginsAnew_l58_ok hd  jF _ _ _))))
  (jr_aloadn 38 39 rfl rfl rfl
  (jr_gr 39 42 rfl jg_11_29_2 rfl (fun v3 =>
  jr_iloadn 42 43 rfl rfl rfl
  (jr_aloadn 43 44 rfl rfl rfl
  (jr_gr 44 47 rfl jg_11_26_2 rfl (fun v4 =>
  jr_iloadn 47 48 rfl rfl rfl
  (jr_ia 48 49 rfl rfl (fun v5 =>
  jr_is 49 50 rfl rfl (fun h6 =>
  jr_iinc 50 53 [.ref l0, .int (l1 + (1 : Int32))] rfl jc_i_1 rfl rfl rfl rfl
  (jr_goto 53 28 rfl rfl
  ((hk28 _ _ _)))))))))))))))))
noncomputable def F_Mod_beginsAnew_l28 : Nat → Nat → Int32 → LH → Option LH
 | 0, _, _, _ => none
 | n + 1, l0, l1, h => F_Mod_beginsAnew_c28 (F_Mod_beginsAnew_l28 n) l0 l1 h
theorem F_Mod_beginsAnew_l28_ok {d : Nat} {q : LH} (hd : 1 ≤ d) : ∀ (n : Nat) (l0 : Nat) (l1 : Int32) (h : LH), F_Mod_beginsAnew_l28 n l0 l1 h = some q → JR d jM_166 28 [.ref l0, .int l1] [] h (jo_v q)
 | 0 => fun _ _ _ hq => nomatch (show (none : Option LH) = some q from hq)
 | n + 1 => fun _ _ _ hq => F_Mod_beginsAnew_c28_ok hd (F_Mod_beginsAnew_l28_ok hd n) hq
noncomputable def F_Mod_beginsAnew_c2 (k2 : Nat → Int32 → LH → Option LH) (l0 : Nat) (l1 : Int32) (h : LH) : Option LH :=
 if l1 < (6 : Int32) then
 jf_gr h l0 11 12 fun v1 =>
 jf_gr h l0 11 11 fun v2 =>
 jf_ia h v2 l1 fun v3 =>
 jf_is h v1 l1 v3 fun h4 =>
 k2 l0 (l1 + (1 : Int32)) h4
else
 F_Mod_beginsAnew_l28  jF l0 (0 : Int32) h
set_option maxRecDepth 100000 in
theorem F_Mod_beginsAnew_c2_ok {d : Nat} {q : LH} {k2 : Nat → Int32 → LH → Option LH} (hd : 1 ≤ d) (hk2 : ∀ (l0 : Nat) (l1 : Int32) (h : LH), k2 l0 l1 h = some q → JR d jM_166 2 [.ref l0, .int l1] [] h (jo_v q)) {l0 : Nat} {l1 : Int32} {h : LH} : F_Mod_beginsAnew_c2 k2 l0 l1 h = some q → JR d jM_166 2 [.ref l0, .int l1] [] h (jo_v q) := by
 unfold F_Mod_beginsAnew_c2
 exact jr_iloadn 2 3 rfl rfl rfl
  (jr_bipush 3 5 (6 : Int32) rfl jc_b_6 rfl
  (jr_icmp_ge 5 26 8 rfl rfl rfl
  (jr_iconst 26 27 (0 : Int32) rfl jc_i_0 rfl
  (jr_istoren 27 28 [.ref l0, .int (0 : Int32)] rfl rfl rfl rfl
  ((F_Mod_beginsAnew_l28_ok hd  jF _ _ _))))
  (jr_aloadn 8 9 rfl rfl rfl
  (jr_gr 9 12 rfl jg_11_23_2 rfl (fun v1 =>
  jr_iloadn 12 13 rfl rfl rfl
  (jr_aloadn 13 14 rfl rfl rfl
  (jr_gr 14 17 rfl jg_11_20_2 rfl (fun v2 =>
  jr_iloadn 17 18 rfl rfl rfl
  (jr_ia 18 19 rfl rfl (fun v3 =>
  jr_is 19 20 rfl rfl (fun h4 =>
  jr_iinc 20 23 [.ref l0, .int (l1 + (1 : Int32))] rfl jc_i_1 rfl rfl rfl rfl
  (jr_goto 23 2 rfl rfl
  ((hk2 _ _ _))))))))))))))
noncomputable def F_Mod_beginsAnew_l2 : Nat → Nat → Int32 → LH → Option LH
 | 0, _, _, _ => none
 | n + 1, l0, l1, h => F_Mod_beginsAnew_c2 (F_Mod_beginsAnew_l2 n) l0 l1 h
theorem F_Mod_beginsAnew_l2_ok {d : Nat} {q : LH} (hd : 1 ≤ d) : ∀ (n : Nat) (l0 : Nat) (l1 : Int32) (h : LH), F_Mod_beginsAnew_l2 n l0 l1 h = some q → JR d jM_166 2 [.ref l0, .int l1] [] h (jo_v q)
 | 0 => fun _ _ _ hq => nomatch (show (none : Option LH) = some q from hq)
 | n + 1 => fun _ _ _ hq => F_Mod_beginsAnew_c2_ok hd (F_Mod_beginsAnew_l2_ok hd n) hq
noncomputable def F_Mod_beginsAnew (l0 : Nat) (h : LH) : Option LH :=
 F_Mod_beginsAnew_l2  jF l0 (0 : Int32) h
set_option maxRecDepth 100000 in
theorem F_Mod_beginsAnew_ok {d : Nat} (hd : 2 ≤ d) {l0 : Nat} {h : LH} {q : LH} : F_Mod_beginsAnew l0 h = some q → jl_Sem jt_T jt_Ms d 166 [.ref l0] h (jo_v q) := by
 unfold F_Mod_beginsAnew
 exact jr_enter (D := 1) hd jM_166_at rfl rfl rfl (fun d hd =>
  jr_iconst 0 1 (0 : Int32) rfl jc_i_0 rfl
  (jr_istoren 1 2 [.ref l0, .int (0 : Int32)] rfl rfl rfl rfl
  ((F_Mod_beginsAnew_l2_ok hd  jF _ _ _))))

/-! FUNCTIONS FOR METHODS, by wip/whole/funs.py: F_Mod_isGate, F_Mod_gate, F_Mod_isWood, F_Mod_wood, F_Mod_comer, F_Mod_log, F_Mod_would, F_Mod_tries, F_Mod_when, F_Mod_shut, F_Mod_isKept, F_Mod_keeps, F_Mod_round, F_Mod_thief, F_Mod_steals, F_Mod_isRest, F_Mod_guard, F_Mod_areGates, F_Mod_lean, F_Mod_scentOf, F_Mod_isFit, F_Mod_burntAt, F_Mod_burnt, F_Mod_fits, F_Mod_isInBook, F_Mod_worstAt, F_Mod_nose, F_Mod_storedIn, F_Mod_siege, F_Mod_isSignal, F_Mod_distanceTo, F_Mod_distance, F_Mod_closest, F_Mod_readAs, F_Mod_read, F_Mod_seems, F_Mod_claimsOf, F_Mod_share, F_Mod_crowd, F_Mod_turned, F_Mod_thickest, F_Mod_burnsOut, F_Mod_cameIn, F_Mod_ahead, F_Mod_areDays, F_Mod_fullest, F_Mod_daysBy, F_Mod_days, F_Mod_span, F_Mod_puts, F_Mod_putsAll, F_Mod_image, F_Mod_restore, F_Mod_status, F_Mod_count, F_Chk_town, F_Chk_law, F_Chk_work, F_Chk_book, F_Chk_told, F_Chk_gate -/
noncomputable def jM_229 : JMeth := (11, false, 2, jk_229, [], 2)
set_option maxRecDepth 100000 in
theorem jM_229_at : jt_Ms 229 = some jM_229 := rfl
noncomputable def F_Mod_isGate (l0 : Nat) (l1 : Int32) (h : LH) : Option (Int32 × LH) :=
 jf_gr h l0 11 12 fun v1 =>
 jf_ia h v1 (0 : Int32) fun v2 =>
 jf_bi (F_Mod_in l1 (0 : Int32) (v2 - (1 : Int32)) h) fun v3 h4 =>
 jf_rz v3 (some (v3, h4))
set_option maxRecDepth 100000 in
theorem F_Mod_isGate_ok {d : Nat} (hd : 2 ≤ d) {l0 : Nat} {l1 : Int32} {h : LH} {q : (Int32 × LH)} : F_Mod_isGate l0 l1 h = some q → jl_Sem jt_T jt_Ms d 229 [.ref l0, .int l1] h (jo_i q) := by
 unfold F_Mod_isGate
 exact jr_enter (D := 1) hd jM_229_at rfl rfl rfl (fun d hd =>
  jr_iloadn 0 1 rfl rfl rfl
  (jr_iconst 1 2 (0 : Int32) rfl jc_i_0 rfl
  (jr_aloadn 2 3 rfl rfl rfl
  (jr_gr 3 6 rfl jg_11_23_2 rfl (fun v1 =>
  jr_iconst 6 7 (0 : Int32) rfl jc_i_0 rfl
  (jr_ia 7 8 rfl rfl (fun v2 =>
  jr_iconst 8 9 (1 : Int32) rfl jc_i_1 rfl
  (jr_isub 9 10 rfl rfl
  (jr_cSi 10 13 [] rfl rfl rfl rfl rfl rfl rfl (as := [.int l1, .int (0 : Int32), .int (v2 - (1 : Int32))]) (F_Mod_in_ok (Nat.le_trans (by decide : 1 ≤ 1) hd)) (fun v3 h4 =>
  jr_rz 13 rfl rfl))))))))))
noncomputable def jM_228 : JMeth := (11, false, 1, jk_228, [], 3)
set_option maxRecDepth 100000 in
theorem jM_228_at : jt_Ms 228 = some jM_228 := rfl
noncomputable def F_Mod_gate_b50 (h : LH) : Option (Int32 × LH) :=
 some ((0 : Int32), h)
set_option maxRecDepth 100000 in
theorem F_Mod_gate_b50_ok {d : Nat} {q : (Int32 × LH)} (hd : 6 ≤ d) {u0 : Value} {u1 : Value} {u2 : Value} {h : LH} : F_Mod_gate_b50 h = some q → JR d jM_228 50 [u0, u1, u2] [] h (jo_i q) := by
 unfold F_Mod_gate_b50
 exact jr_iconst 50 51 (0 : Int32) rfl jc_i_0 rfl
  (jr_ri 51 rfl rfl)
noncomputable def F_Mod_gate_b132 (s0 : Int32) (h : LH) : Option (Int32 × LH) :=
 some (s0, h)
set_option maxRecDepth 100000 in
theorem F_Mod_gate_b132_ok {d : Nat} {q : (Int32 × LH)} (hd : 6 ≤ d) {s0 : Int32} {u0 : Value} {u1 : Value} {u2 : Value} {h : LH} : F_Mod_gate_b132 s0 h = some q → JR d jM_228 132 [u0, u1, u2] [.int s0] h (jo_i q) := by
 unfold F_Mod_gate_b132
 exact jr_ri 132 rfl rfl
noncomputable def F_Mod_gate_b42 (l0 : Nat) (l1 : Int32) (l2 : Int32) (s0 : Nat) (s1 : Int32) (h : LH) : Option (Int32 × LH) :=
 jf_kd h s0 11
 (jf_bi (F_Mod_bad s0 s1 (2 : Int32) (1 : Int32) h) fun v1 h2 =>
 if v1 = 0 then
 if l2 = (0 : Int32) then
 jf_gr h2 l0 11 14 fun v17 =>
 jf_ia h2 v17 l1 fun v18 =>
 some (v18, h2)
else
 if l2 = (1 : Int32) then
 jf_gr h2 l0 11 35 fun v14 =>
 jf_kd h2 l0 11
 (jf_bi (F_Mod_smokeAt l0 v14 l1 h2) fun v15 h16 =>
 some (v15, h16))
else
 if l2 = (2 : Int32) then
 jf_gr h2 l0 11 35 fun v11 =>
 jf_kd h2 l0 11
 (jf_bi (F_Mod_scentAt l0 v11 l1 h2) fun v12 h13 =>
 some (v12, h13))
else
 if l2 = (3 : Int32) then
 jf_gr h2 l0 11 35 fun v8 =>
 jf_kd h2 l0 11
 (jf_bi (F_Mod_isShut l0 v8 l1 h2) fun v9 h10 =>
 if v9 = 0 then
 F_Mod_gate_b132  (0 : Int32) h10
else
 F_Mod_gate_b132  (1 : Int32) h10)
else
 if l2 = (4 : Int32) then
 jf_gr h2 l0 11 35 fun v6 =>
 jf_ia h2 v6 ((108 : Int32) + l1) fun v7 =>
 some (v7, h2)
else
 jf_gr h2 l0 11 35 fun v3 =>
 jf_kd h2 l0 11
 (jf_bi (F_Mod_standsOf l0 v3 l1 h2) fun v4 h5 =>
 some (v4, h5))
else
 F_Mod_gate_b50  h2)
set_option maxRecDepth 100000 in
theorem F_Mod_gate_b42_ok {d : Nat} {q : (Int32 × LH)} (hd : 6 ≤ d) {l0 : Nat} {l1 : Int32} {l2 : Int32} {s0 : Nat} {s1 : Int32} {h : LH} : F_Mod_gate_b42 l0 l1 l2 s0 s1 h = some q → JR d jM_228 42 [.ref l0, .int l1, .int l2] [.int s1, .ref s0] h (jo_i q) := by
 unfold F_Mod_gate_b42
 exact jr_iconst 42 43 (2 : Int32) rfl jc_i_2 rfl
  (jr_iconst 43 44 (1 : Int32) rfl jc_i_1 rfl
  (jr_cVi 44 47 [] rfl rfl rfl rfl rfl rfl rfl rfl (as := [.int s1, .int (2 : Int32), .int (1 : Int32)]) (F_Mod_bad_ok (Nat.le_trans (by decide : 1 ≤ 6) hd)) (fun v1 h2 =>
  jr_if_eq 47 52 50 rfl rfl rfl
  (jr_iloadn 52 53 rfl rfl rfl
  (jr_ite (fun hx53_0 => jr_tsI 53 88 hx53_0 rfl rfl rfl rfl
  (jr_aloadn 88 89 rfl rfl rfl
  (jr_gr 89 92 rfl jg_11_29_2 rfl (fun v17 =>
  jr_iloadn 92 93 rfl rfl rfl
  (jr_ia 93 94 rfl rfl (fun v18 =>
  jr_ri 94 rfl rfl))))))
  (fun hx53_0 =>
  jr_ite (fun hx53_1 => jr_tsI 53 95 hx53_1 rfl rfl rfl rfl
  (jr_aloadn 95 96 rfl rfl rfl
  (jr_aloadn 96 97 rfl rfl rfl
  (jr_gr 97 100 rfl jg_11_85_2 rfl (fun v14 =>
  jr_iloadn 100 101 rfl rfl rfl
  (jr_cVi 101 104 [] rfl rfl rfl rfl rfl rfl rfl rfl (as := [.ref v14, .int l1]) (F_Mod_smokeAt_ok (Nat.le_trans (by decide : 4 ≤ 6) hd)) (fun v15 h16 =>
  jr_ri 104 rfl rfl)))))))
  (fun hx53_1 =>
  jr_ite (fun hx53_2 => jr_tsI 53 105 hx53_2 rfl rfl rfl rfl
  (jr_aloadn 105 106 rfl rfl rfl
  (jr_aloadn 106 107 rfl rfl rfl
  (jr_gr 107 110 rfl jg_11_85_2 rfl (fun v11 =>
  jr_iloadn 110 111 rfl rfl rfl
  (jr_cVi 111 114 [] rfl rfl rfl rfl rfl rfl rfl rfl (as := [.ref v11, .int l1]) (F_Mod_scentAt_ok (Nat.le_trans (by decide : 4 ≤ 6) hd)) (fun v12 h13 =>
  jr_ri 114 rfl rfl)))))))
  (fun hx53_2 =>
  jr_ite (fun hx53_3 => jr_tsI 53 115 hx53_3 rfl rfl rfl rfl
  (jr_aloadn 115 116 rfl rfl rfl
  (jr_aloadn 116 117 rfl rfl rfl
  (jr_gr 117 120 rfl jg_11_85_2 rfl (fun v8 =>
  jr_iloadn 120 121 rfl rfl rfl
  (jr_cVi 121 124 [] rfl rfl rfl rfl rfl rfl rfl rfl (as := [.ref v8, .int l1]) (F_Mod_isShut_ok (Nat.le_trans (by decide : 6 ≤ 6) hd)) (fun v9 h10 =>
  jr_if_eq 124 131 127 rfl rfl rfl
  (jr_iconst 131 132 (0 : Int32) rfl jc_i_0 rfl
  ((F_Mod_gate_b132_ok hd )))
  (jr_iconst 127 128 (1 : Int32) rfl jc_i_1 rfl
  (jr_goto 128 132 rfl rfl
  ((F_Mod_gate_b132_ok hd )))))))))))
  (fun hx53_3 =>
  jr_ite (fun hx53_4 => jr_tsI 53 133 hx53_4 rfl rfl rfl rfl
  (jr_aloadn 133 134 rfl rfl rfl
  (jr_gr 134 137 rfl jg_11_85_2 rfl (fun v6 =>
  jr_bipush 137 139 (108 : Int32) rfl jc_b_108 rfl
  (jr_iloadn 139 140 rfl rfl rfl
  (jr_iadd 140 141 rfl rfl
  (jr_ia 141 142 rfl rfl (fun v7 =>
  jr_ri 142 rfl rfl))))))))
  (fun hx53_4 =>
  jr_tsD 53 143 rfl (by have := jr_ne (k := 0) jc_t_0 hx53_0; have := jr_ne (k := 1) jc_t_1 hx53_1; have := jr_ne (k := 2) jc_t_2 hx53_2; have := jr_ne (k := 3) jc_t_3 hx53_3; have := jr_ne (k := 4) jc_t_4 hx53_4; omega) rfl
  (jr_aloadn 143 144 rfl rfl rfl
  (jr_aloadn 144 145 rfl rfl rfl
  (jr_gr 145 148 rfl jg_11_85_2 rfl (fun v3 =>
  jr_iloadn 148 149 rfl rfl rfl
  (jr_cVi 149 152 [] rfl rfl rfl rfl rfl rfl rfl rfl (as := [.ref v3, .int l1]) (F_Mod_standsOf_ok (Nat.le_trans (by decide : 3 ≤ 6) hd)) (fun v4 h5 =>
  jr_ri 152 rfl rfl)))))))))))))
  ((F_Mod_gate_b50_ok hd )))))
noncomputable def F_Mod_gate_b19 (l0 : Nat) (l1 : Int32) (l2 : Int32) (s0 : Nat) (s1 : Int32) (h : LH) : Option (Int32 × LH) :=
 jf_kd h s0 11
 (jf_bi (F_Mod_bad s0 s1 (1 : Int32) (0 : Int32) h) fun v1 h2 =>
 if v1 = 0 then
 jf_bi (F_Mod_in l2 (0 : Int32) (5 : Int32) h2) fun v3 h4 =>
 if v3 = 0 then
 F_Mod_gate_b42  l0 l1 l2 l0 (1 : Int32) h4
else
 F_Mod_gate_b42  l0 l1 l2 l0 (0 : Int32) h4
else
 F_Mod_gate_b50  h2)
set_option maxRecDepth 100000 in
theorem F_Mod_gate_b19_ok {d : Nat} {q : (Int32 × LH)} (hd : 6 ≤ d) {l0 : Nat} {l1 : Int32} {l2 : Int32} {s0 : Nat} {s1 : Int32} {h : LH} : F_Mod_gate_b19 l0 l1 l2 s0 s1 h = some q → JR d jM_228 19 [.ref l0, .int l1, .int l2] [.int s1, .ref s0] h (jo_i q) := by
 unfold F_Mod_gate_b19
 exact jr_iconst 19 20 (1 : Int32) rfl jc_i_1 rfl
  (jr_iconst 20 21 (0 : Int32) rfl jc_i_0 rfl
  (jr_cVi 21 24 [] rfl rfl rfl rfl rfl rfl rfl rfl (as := [.int s1, .int (1 : Int32), .int (0 : Int32)]) (F_Mod_bad_ok (Nat.le_trans (by decide : 1 ≤ 6) hd)) (fun v1 h2 =>
  jr_if_ne 24 50 27 rfl rfl rfl
  ((F_Mod_gate_b50_ok hd ))
  (jr_aloadn 27 28 rfl rfl rfl
  (jr_iloadn 28 29 rfl rfl rfl
  (jr_iconst 29 30 (0 : Int32) rfl jc_i_0 rfl
  (jr_iconst 30 31 (5 : Int32) rfl jc_i_5 rfl
  (jr_cSi 31 34 [.ref l0] rfl rfl rfl rfl rfl rfl rfl (as := [.int l2, .int (0 : Int32), .int (5 : Int32)]) (F_Mod_in_ok (Nat.le_trans (by decide : 1 ≤ 6) hd)) (fun v3 h4 =>
  jr_if_ne 34 41 37 rfl rfl rfl
  (jr_iconst 41 42 (0 : Int32) rfl jc_i_0 rfl
  ((F_Mod_gate_b42_ok hd )))
  (jr_iconst 37 38 (1 : Int32) rfl jc_i_1 rfl
  (jr_goto 38 42 rfl rfl
  ((F_Mod_gate_b42_ok hd )))))))))))))
noncomputable def F_Mod_gate (l0 : Nat) (l1 : Int32) (l2 : Int32) (h : LH) : Option (Int32 × LH) :=
 jf_pi h l0 11 0 (0 : Int32) fun h1 =>
 jf_kd h1 l0 11
 (jf_bi (F_Mod_isGate l0 l1 h1) fun v2 h3 =>
 if v2 = 0 then
 F_Mod_gate_b19  l0 l1 l2 l0 (1 : Int32) h3
else
 F_Mod_gate_b19  l0 l1 l2 l0 (0 : Int32) h3)
set_option maxRecDepth 100000 in
theorem F_Mod_gate_ok {d : Nat} (hd : 7 ≤ d) {l0 : Nat} {l1 : Int32} {l2 : Int32} {h : LH} {q : (Int32 × LH)} : F_Mod_gate l0 l1 l2 h = some q → jl_Sem jt_T jt_Ms d 228 [.ref l0, .int l1, .int l2] h (jo_i q) := by
 unfold F_Mod_gate
 exact jr_enter (D := 6) hd jM_228_at rfl rfl rfl (fun d hd =>
  jr_aloadn 0 1 rfl rfl rfl
  (jr_iconst 1 2 (0 : Int32) rfl jc_i_0 rfl
  (jr_pi 2 5 rfl jg_11_109_3 rfl (fun h1 =>
  jr_aloadn 5 6 rfl rfl rfl
  (jr_aloadn 6 7 rfl rfl rfl
  (jr_iloadn 7 8 rfl rfl rfl
  (jr_cVi 8 11 [.ref l0] rfl rfl rfl rfl rfl rfl rfl rfl (as := [.int l1]) (F_Mod_isGate_ok (Nat.le_trans (by decide : 2 ≤ 6) hd)) (fun v2 h3 =>
  jr_if_ne 11 18 14 rfl rfl rfl
  (jr_iconst 18 19 (0 : Int32) rfl jc_i_0 rfl
  ((F_Mod_gate_b19_ok hd )))
  (jr_iconst 14 15 (1 : Int32) rfl jc_i_1 rfl
  (jr_goto 15 19 rfl rfl
  ((F_Mod_gate_b19_ok hd ))))))))))))
noncomputable def jM_231 : JMeth := (11, false, 2, jk_231, [], 2)
set_option maxRecDepth 100000 in
theorem jM_231_at : jt_Ms 231 = some jM_231 := rfl
noncomputable def F_Mod_isWood (l0 : Nat) (l1 : Int32) (h : LH) : Option (Int32 × LH) :=
 jf_gr h l0 11 12 fun v1 =>
 jf_ia h v1 (1 : Int32) fun v2 =>
 jf_bi (F_Mod_in l1 (0 : Int32) (v2 - (1 : Int32)) h) fun v3 h4 =>
 jf_rz v3 (some (v3, h4))
set_option maxRecDepth 100000 in
theorem F_Mod_isWood_ok {d : Nat} (hd : 2 ≤ d) {l0 : Nat} {l1 : Int32} {h : LH} {q : (Int32 × LH)} : F_Mod_isWood l0 l1 h = some q → jl_Sem jt_T jt_Ms d 231 [.ref l0, .int l1] h (jo_i q) := by
 unfold F_Mod_isWood
 exact jr_enter (D := 1) hd jM_231_at rfl rfl rfl (fun d hd =>
  jr_iloadn 0 1 rfl rfl rfl
  (jr_iconst 1 2 (0 : Int32) rfl jc_i_0 rfl
  (jr_aloadn 2 3 rfl rfl rfl
  (jr_gr 3 6 rfl jg_11_23_2 rfl (fun v1 =>
  jr_iconst 6 7 (1 : Int32) rfl jc_i_1 rfl
  (jr_ia 7 8 rfl rfl (fun v2 =>
  jr_iconst 8 9 (1 : Int32) rfl jc_i_1 rfl
  (jr_isub 9 10 rfl rfl
  (jr_cSi 10 13 [] rfl rfl rfl rfl rfl rfl rfl (as := [.int l1, .int (0 : Int32), .int (v2 - (1 : Int32))]) (F_Mod_in_ok (Nat.le_trans (by decide : 1 ≤ 1) hd)) (fun v3 h4 =>
  jr_rz 13 rfl rfl))))))))))
noncomputable def jM_230 : JMeth := (11, false, 1, jk_230, [], 6)
set_option maxRecDepth 100000 in
theorem jM_230_at : jt_Ms 230 = some jM_230 := rfl
noncomputable def F_Mod_wood_b50 (h : LH) : Option (Int32 × LH) :=
 some ((0 : Int32), h)
set_option maxRecDepth 100000 in
theorem F_Mod_wood_b50_ok {d : Nat} {q : (Int32 × LH)} (hd : 2 ≤ d) {u0 : Value} {u1 : Value} {u2 : Value} {u3 : Value} {u4 : Value} {u5 : Value} {h : LH} : F_Mod_wood_b50 h = some q → JR d jM_230 50 [u0, u1, u2, u3, u4, u5] [] h (jo_i q) := by
 unfold F_Mod_wood_b50
 exact jr_iconst 50 51 (0 : Int32) rfl jc_i_0 rfl
  (jr_ri 51 rfl rfl)
noncomputable def F_Mod_wood_b140 (k86 : Nat → Int32 → Int32 → Int32 → LH → Option (Int32 × LH)) (k100 : Nat → Int32 → Int32 → Int32 → Int32 → LH → Option (Int32 × LH)) (l0 : Nat) (l1 : Int32) (l4 : Int32) (l5 : Int32) (s0 : Int32) (s1 : Int32) (h : LH) : Option (Int32 × LH) :=
 jf_let (s0 + s1) fun v1 =>
 k100 l0 l1 v1 l4 (l5 + (1 : Int32)) h
set_option maxRecDepth 100000 in
theorem F_Mod_wood_b140_ok {d : Nat} {q : (Int32 × LH)} {k86 : Nat → Int32 → Int32 → Int32 → LH → Option (Int32 × LH)} {k100 : Nat → Int32 → Int32 → Int32 → Int32 → LH → Option (Int32 × LH)} (hd : 2 ≤ d) (hk86 : ∀ (l0 : Nat) (l1 : Int32) (l3 : Int32) (l4 : Int32) (u2 : Value) (u5 : Value) (h : LH), k86 l0 l1 l3 l4 h = some q → JR d jM_230 86 [.ref l0, .int l1, u2, .int l3, .int l4, u5] [] h (jo_i q)) (hk100 : ∀ (l0 : Nat) (l1 : Int32) (l3 : Int32) (l4 : Int32) (l5 : Int32) (u2 : Value) (h : LH), k100 l0 l1 l3 l4 l5 h = some q → JR d jM_230 100 [.ref l0, .int l1, u2, .int l3, .int l4, .int l5] [] h (jo_i q)) {l0 : Nat} {l1 : Int32} {l4 : Int32} {l5 : Int32} {s0 : Int32} {s1 : Int32} {u2 : Value} {u3 : Value} {h : LH} : F_Mod_wood_b140 k86 k100 l0 l1 l4 l5 s0 s1 h = some q → JR d jM_230 140 [.ref l0, .int l1, u2, u3, .int l4, .int l5] [.int s1, .int s0] h (jo_i q) := by
 unfold F_Mod_wood_b140
 exact jr_iadd 140 141 rfl rfl
  (jr_istorenL 141 142 (fun v1 => [.ref l0, .int l1, u2, .int v1, .int l4, .int l5]) rfl rfl (fun _ => rfl) rfl (fun v1 =>
  jr_iinc 142 145 [.ref l0, .int l1, u2, .int v1, .int l4, .int (l5 + (1 : Int32))] rfl jc_i_1 rfl rfl rfl rfl
  (jr_goto 145 100 rfl rfl
  ((hk100 _ _ _ _ _ _ _)))))
noncomputable def F_Mod_wood_c100 (k86 : Nat → Int32 → Int32 → Int32 → LH → Option (Int32 × LH)) (k100 : Nat → Int32 → Int32 → Int32 → Int32 → LH → Option (Int32 × LH)) (l0 : Nat) (l1 : Int32) (l3 : Int32) (l4 : Int32) (l5 : Int32) (h : LH) : Option (Int32 × LH) :=
 jf_gr h l0 11 35 fun v1 =>
 jf_ia h v1 ((108 : Int32) + l4) fun v2 =>
 if l5 < v2 then
 jf_gr h l0 11 35 fun v3 =>
 jf_ia h v3 (((0 : Int32) + ((6 : Int32) * l4)) + l5) fun v4 =>
 if v4 = l1 then
 F_Mod_wood_b140 k86 k100 l0 l1 l4 l5 l3 (1 : Int32) h
else
 F_Mod_wood_b140 k86 k100 l0 l1 l4 l5 l3 (0 : Int32) h
else
 k86 l0 l1 l3 (l4 + (1 : Int32)) h
set_option maxRecDepth 100000 in
theorem F_Mod_wood_c100_ok {d : Nat} {q : (Int32 × LH)} {k86 : Nat → Int32 → Int32 → Int32 → LH → Option (Int32 × LH)} {k100 : Nat → Int32 → Int32 → Int32 → Int32 → LH → Option (Int32 × LH)} (hd : 2 ≤ d) (hk86 : ∀ (l0 : Nat) (l1 : Int32) (l3 : Int32) (l4 : Int32) (u2 : Value) (u5 : Value) (h : LH), k86 l0 l1 l3 l4 h = some q → JR d jM_230 86 [.ref l0, .int l1, u2, .int l3, .int l4, u5] [] h (jo_i q)) (hk100 : ∀ (l0 : Nat) (l1 : Int32) (l3 : Int32) (l4 : Int32) (l5 : Int32) (u2 : Value) (h : LH), k100 l0 l1 l3 l4 l5 h = some q → JR d jM_230 100 [.ref l0, .int l1, u2, .int l3, .int l4, .int l5] [] h (jo_i q)) {l0 : Nat} {l1 : Int32} {l3 : Int32} {l4 : Int32} {l5 : Int32} {u2 : Value} {h : LH} : F_Mod_wood_c100 k86 k100 l0 l1 l3 l4 l5 h = some q → JR d jM_230 100 [.ref l0, .int l1, u2, .int l3, .int l4, .int l5] [] h (jo_i q) := by
 unfold F_Mod_wood_c100
 exact jr_iload 100 102 rfl rfl rfl
  (jr_aloadn 102 103 rfl rfl rfl
  (jr_gr 103 106 rfl jg_11_85_2 rfl (fun v1 =>
  jr_bipush 106 108 (108 : Int32) rfl jc_b_108 rfl
  (jr_iload 108 110 rfl rfl rfl
  (jr_iadd 110 111 rfl rfl
  (jr_ia 111 112 rfl rfl (fun v2 =>
  jr_icmp_ge 112 148 115 rfl rfl rfl
  (jr_iinc 148 151 [.ref l0, .int l1, u2, .int l3, .int (l4 + (1 : Int32)), .int l5] rfl jc_i_1 rfl rfl rfl rfl
  (jr_goto 151 86 rfl rfl
  ((hk86 _ _ _ _ _ _ _))))
  (jr_iloadn 115 116 rfl rfl rfl
  (jr_aloadn 116 117 rfl rfl rfl
  (jr_gr 117 120 rfl jg_11_85_2 rfl (fun v3 =>
  jr_iconst 120 121 (0 : Int32) rfl jc_i_0 rfl
  (jr_bipush 121 123 (6 : Int32) rfl jc_b_6 rfl
  (jr_iload 123 125 rfl rfl rfl
  (jr_imul 125 126 rfl rfl
  (jr_iadd 126 127 rfl rfl
  (jr_iload 127 129 rfl rfl rfl
  (jr_iadd 129 130 rfl rfl
  (jr_ia 130 131 rfl rfl (fun v4 =>
  jr_iloadn 131 132 rfl rfl rfl
  (jr_icmp_ne 132 139 135 rfl rfl rfl
  (jr_iconst 139 140 (0 : Int32) rfl jc_i_0 rfl
  ((F_Mod_wood_b140_ok hd hk86 hk100)))
  (jr_iconst 135 136 (1 : Int32) rfl jc_i_1 rfl
  (jr_goto 136 140 rfl rfl
  ((F_Mod_wood_b140_ok hd hk86 hk100))))))))))))))))))))))))
noncomputable def F_Mod_wood_l100 (k86 : Nat → Int32 → Int32 → Int32 → LH → Option (Int32 × LH)) : Nat → Nat → Int32 → Int32 → Int32 → Int32 → LH → Option (Int32 × LH)
 | 0, _, _, _, _, _, _ => none
 | n + 1, l0, l1, l3, l4, l5, h => F_Mod_wood_c100 k86 (F_Mod_wood_l100 k86 n) l0 l1 l3 l4 l5 h
theorem F_Mod_wood_l100_ok {d : Nat} {q : (Int32 × LH)} {k86 : Nat → Int32 → Int32 → Int32 → LH → Option (Int32 × LH)} (hd : 2 ≤ d) (hk86 : ∀ (l0 : Nat) (l1 : Int32) (l3 : Int32) (l4 : Int32) (u2 : Value) (u5 : Value) (h : LH), k86 l0 l1 l3 l4 h = some q → JR d jM_230 86 [.ref l0, .int l1, u2, .int l3, .int l4, u5] [] h (jo_i q)) : ∀ (n : Nat) (l0 : Nat) (l1 : Int32) (l3 : Int32) (l4 : Int32) (l5 : Int32) (u2 : Value) (h : LH), F_Mod_wood_l100 k86 n l0 l1 l3 l4 l5 h = some q → JR d jM_230 100 [.ref l0, .int l1, u2, .int l3, .int l4, .int l5] [] h (jo_i q)
 | 0 => fun _ _ _ _ _ _ _ hq => nomatch (show (none : Option (Int32 × LH)) = some q from hq)
 | n + 1 => fun _ _ _ _ _ _ _ hq => F_Mod_wood_c100_ok hd hk86 (F_Mod_wood_l100_ok hd hk86 n) hq
noncomputable def F_Mod_wood_c86 (k86 : Nat → Int32 → Int32 → Int32 → LH → Option (Int32 × LH)) (l0 : Nat) (l1 : Int32) (l3 : Int32) (l4 : Int32) (h : LH) : Option (Int32 × LH) :=
 jf_gr h l0 11 12 fun v1 =>
 jf_ia h v1 (0 : Int32) fun v2 =>
 if l4 < v2 then
 F_Mod_wood_l100 k86 jF l0 l1 l3 l4 (0 : Int32) h
else
 some (l3, h)
set_option maxRecDepth 100000 in
theorem F_Mod_wood_c86_ok {d : Nat} {q : (Int32 × LH)} {k86 : Nat → Int32 → Int32 → Int32 → LH → Option (Int32 × LH)} (hd : 2 ≤ d) (hk86 : ∀ (l0 : Nat) (l1 : Int32) (l3 : Int32) (l4 : Int32) (u2 : Value) (u5 : Value) (h : LH), k86 l0 l1 l3 l4 h = some q → JR d jM_230 86 [.ref l0, .int l1, u2, .int l3, .int l4, u5] [] h (jo_i q)) {l0 : Nat} {l1 : Int32} {l3 : Int32} {l4 : Int32} {u2 : Value} {u5 : Value} {h : LH} : F_Mod_wood_c86 k86 l0 l1 l3 l4 h = some q → JR d jM_230 86 [.ref l0, .int l1, u2, .int l3, .int l4, u5] [] h (jo_i q) := by
 unfold F_Mod_wood_c86
 exact jr_iload 86 88 rfl rfl rfl
  (jr_aloadn 88 89 rfl rfl rfl
  (jr_gr 89 92 rfl jg_11_23_2 rfl (fun v1 =>
  jr_iconst 92 93 (0 : Int32) rfl jc_i_0 rfl
  (jr_ia 93 94 rfl rfl (fun v2 =>
  jr_icmp_ge 94 154 97 rfl rfl rfl
  (jr_iloadn 154 155 rfl rfl rfl
  (jr_ri 155 rfl rfl))
  (jr_iconst 97 98 (0 : Int32) rfl jc_i_0 rfl
  (jr_istore 98 100 [.ref l0, .int l1, u2, .int l3, .int l4, .int (0 : Int32)] rfl rfl rfl rfl
  ((F_Mod_wood_l100_ok hd hk86 jF _ _ _ _ _ _ _)))))))))
noncomputable def F_Mod_wood_l86 : Nat → Nat → Int32 → Int32 → Int32 → LH → Option (Int32 × LH)
 | 0, _, _, _, _, _ => none
 | n + 1, l0, l1, l3, l4, h => F_Mod_wood_c86 (F_Mod_wood_l86 n) l0 l1 l3 l4 h
theorem F_Mod_wood_l86_ok {d : Nat} {q : (Int32 × LH)} (hd : 2 ≤ d) : ∀ (n : Nat) (l0 : Nat) (l1 : Int32) (l3 : Int32) (l4 : Int32) (u2 : Value) (u5 : Value) (h : LH), F_Mod_wood_l86 n l0 l1 l3 l4 h = some q → JR d jM_230 86 [.ref l0, .int l1, u2, .int l3, .int l4, u5] [] h (jo_i q)
 | 0 => fun _ _ _ _ _ _ _ hq => nomatch (show (none : Option (Int32 × LH)) = some q from hq)
 | n + 1 => fun _ _ _ _ _ _ _ hq => F_Mod_wood_c86_ok hd (F_Mod_wood_l86_ok hd n) hq
noncomputable def F_Mod_wood_b42 (l0 : Nat) (l1 : Int32) (l2 : Int32) (s0 : Nat) (s1 : Int32) (h : LH) : Option (Int32 × LH) :=
 jf_kd h s0 11
 (jf_bi (F_Mod_bad s0 s1 (2 : Int32) (1 : Int32) h) fun v1 h2 =>
 if v1 = 0 then
 if l2 < (3 : Int32) then
 jf_gr h2 l0 11 20 fun v5 =>
 jf_aa h2 v5 l1 fun v6 =>
 jf_ia h2 v6 l2 fun v7 =>
 some (v7, h2)
else
 if l2 = (3 : Int32) then
 jf_gr h2 l0 11 35 fun v3 =>
 jf_ia h2 v3 ((117 : Int32) + l1) fun v4 =>
 some (v4, h2)
else
 F_Mod_wood_l86  jF l0 l1 (0 : Int32) (0 : Int32) h2
else
 F_Mod_wood_b50  h2)
set_option maxRecDepth 100000 in
theorem F_Mod_wood_b42_ok {d : Nat} {q : (Int32 × LH)} (hd : 2 ≤ d) {l0 : Nat} {l1 : Int32} {l2 : Int32} {s0 : Nat} {s1 : Int32} {u3 : Value} {u4 : Value} {u5 : Value} {h : LH} : F_Mod_wood_b42 l0 l1 l2 s0 s1 h = some q → JR d jM_230 42 [.ref l0, .int l1, .int l2, u3, u4, u5] [.int s1, .ref s0] h (jo_i q) := by
 unfold F_Mod_wood_b42
 exact jr_iconst 42 43 (2 : Int32) rfl jc_i_2 rfl
  (jr_iconst 43 44 (1 : Int32) rfl jc_i_1 rfl
  (jr_cVi 44 47 [] rfl rfl rfl rfl rfl rfl rfl rfl (as := [.int s1, .int (2 : Int32), .int (1 : Int32)]) (F_Mod_bad_ok (Nat.le_trans (by decide : 1 ≤ 2) hd)) (fun v1 h2 =>
  jr_if_eq 47 52 50 rfl rfl rfl
  (jr_iloadn 52 53 rfl rfl rfl
  (jr_iconst 53 54 (3 : Int32) rfl jc_i_3 rfl
  (jr_icmp_ge 54 66 57 rfl rfl rfl
  (jr_iloadn 66 67 rfl rfl rfl
  (jr_iconst 67 68 (3 : Int32) rfl jc_i_3 rfl
  (jr_icmp_ne 68 81 71 rfl rfl rfl
  (jr_iconst 81 82 (0 : Int32) rfl jc_i_0 rfl
  (jr_istoren 82 83 [.ref l0, .int l1, .int l2, .int (0 : Int32), u4, u5] rfl rfl rfl rfl
  (jr_iconst 83 84 (0 : Int32) rfl jc_i_0 rfl
  (jr_istore 84 86 [.ref l0, .int l1, .int l2, .int (0 : Int32), .int (0 : Int32), u5] rfl rfl rfl rfl
  ((F_Mod_wood_l86_ok hd  jF _ _ _ _ _ _ _))))))
  (jr_aloadn 71 72 rfl rfl rfl
  (jr_gr 72 75 rfl jg_11_85_2 rfl (fun v3 =>
  jr_bipush 75 77 (117 : Int32) rfl jc_b_117 rfl
  (jr_iloadn 77 78 rfl rfl rfl
  (jr_iadd 78 79 rfl rfl
  (jr_ia 79 80 rfl rfl (fun v4 =>
  jr_ri 80 rfl rfl))))))))))
  (jr_aloadn 57 58 rfl rfl rfl
  (jr_gr 58 61 rfl jg_11_49_2 rfl (fun v5 =>
  jr_iloadn 61 62 rfl rfl rfl
  (jr_aa 62 63 rfl rfl (fun v6 =>
  jr_iloadn 63 64 rfl rfl rfl
  (jr_ia 64 65 rfl rfl (fun v7 =>
  jr_ri 65 rfl rfl))))))))))
  ((F_Mod_wood_b50_ok hd )))))
noncomputable def F_Mod_wood_b19 (l0 : Nat) (l1 : Int32) (l2 : Int32) (s0 : Nat) (s1 : Int32) (h : LH) : Option (Int32 × LH) :=
 jf_kd h s0 11
 (jf_bi (F_Mod_bad s0 s1 (1 : Int32) (0 : Int32) h) fun v1 h2 =>
 if v1 = 0 then
 jf_bi (F_Mod_in l2 (0 : Int32) (4 : Int32) h2) fun v3 h4 =>
 if v3 = 0 then
 F_Mod_wood_b42  l0 l1 l2 l0 (1 : Int32) h4
else
 F_Mod_wood_b42  l0 l1 l2 l0 (0 : Int32) h4
else
 F_Mod_wood_b50  h2)
set_option maxRecDepth 100000 in
theorem F_Mod_wood_b19_ok {d : Nat} {q : (Int32 × LH)} (hd : 2 ≤ d) {l0 : Nat} {l1 : Int32} {l2 : Int32} {s0 : Nat} {s1 : Int32} {u3 : Value} {u4 : Value} {u5 : Value} {h : LH} : F_Mod_wood_b19 l0 l1 l2 s0 s1 h = some q → JR d jM_230 19 [.ref l0, .int l1, .int l2, u3, u4, u5] [.int s1, .ref s0] h (jo_i q) := by
 unfold F_Mod_wood_b19
 exact jr_iconst 19 20 (1 : Int32) rfl jc_i_1 rfl
  (jr_iconst 20 21 (0 : Int32) rfl jc_i_0 rfl
  (jr_cVi 21 24 [] rfl rfl rfl rfl rfl rfl rfl rfl (as := [.int s1, .int (1 : Int32), .int (0 : Int32)]) (F_Mod_bad_ok (Nat.le_trans (by decide : 1 ≤ 2) hd)) (fun v1 h2 =>
  jr_if_ne 24 50 27 rfl rfl rfl
  ((F_Mod_wood_b50_ok hd ))
  (jr_aloadn 27 28 rfl rfl rfl
  (jr_iloadn 28 29 rfl rfl rfl
  (jr_iconst 29 30 (0 : Int32) rfl jc_i_0 rfl
  (jr_iconst 30 31 (4 : Int32) rfl jc_i_4 rfl
  (jr_cSi 31 34 [.ref l0] rfl rfl rfl rfl rfl rfl rfl (as := [.int l2, .int (0 : Int32), .int (4 : Int32)]) (F_Mod_in_ok (Nat.le_trans (by decide : 1 ≤ 2) hd)) (fun v3 h4 =>
  jr_if_ne 34 41 37 rfl rfl rfl
  (jr_iconst 41 42 (0 : Int32) rfl jc_i_0 rfl
  ((F_Mod_wood_b42_ok hd )))
  (jr_iconst 37 38 (1 : Int32) rfl jc_i_1 rfl
  (jr_goto 38 42 rfl rfl
  ((F_Mod_wood_b42_ok hd )))))))))))))
noncomputable def F_Mod_wood (l0 : Nat) (l1 : Int32) (l2 : Int32) (h : LH) : Option (Int32 × LH) :=
 jf_pi h l0 11 0 (0 : Int32) fun h1 =>
 jf_kd h1 l0 11
 (jf_bi (F_Mod_isWood l0 l1 h1) fun v2 h3 =>
 if v2 = 0 then
 F_Mod_wood_b19  l0 l1 l2 l0 (1 : Int32) h3
else
 F_Mod_wood_b19  l0 l1 l2 l0 (0 : Int32) h3)
set_option maxRecDepth 100000 in
theorem F_Mod_wood_ok {d : Nat} (hd : 3 ≤ d) {l0 : Nat} {l1 : Int32} {l2 : Int32} {h : LH} {q : (Int32 × LH)} : F_Mod_wood l0 l1 l2 h = some q → jl_Sem jt_T jt_Ms d 230 [.ref l0, .int l1, .int l2] h (jo_i q) := by
 unfold F_Mod_wood
 exact jr_enter (D := 2) hd jM_230_at rfl rfl rfl (fun d hd =>
  jr_aloadn 0 1 rfl rfl rfl
  (jr_iconst 1 2 (0 : Int32) rfl jc_i_0 rfl
  (jr_pi 2 5 rfl jg_11_109_3 rfl (fun h1 =>
  jr_aloadn 5 6 rfl rfl rfl
  (jr_aloadn 6 7 rfl rfl rfl
  (jr_iloadn 7 8 rfl rfl rfl
  (jr_cVi 8 11 [.ref l0] rfl rfl rfl rfl rfl rfl rfl rfl (as := [.int l1]) (F_Mod_isWood_ok (Nat.le_trans (by decide : 2 ≤ 2) hd)) (fun v2 h3 =>
  jr_if_ne 11 18 14 rfl rfl rfl
  (jr_iconst 18 19 (0 : Int32) rfl jc_i_0 rfl
  ((F_Mod_wood_b19_ok hd )))
  (jr_iconst 14 15 (1 : Int32) rfl jc_i_1 rfl
  (jr_goto 15 19 rfl rfl
  ((F_Mod_wood_b19_ok hd ))))))))))))
noncomputable def jM_232 : JMeth := (11, false, 1, jk_232, [], 3)
set_option maxRecDepth 100000 in
theorem jM_232_at : jt_Ms 232 = some jM_232 := rfl
noncomputable def F_Mod_comer_b58 (h : LH) : Option (Int32 × LH) :=
 some ((0 : Int32), h)
set_option maxRecDepth 100000 in
theorem F_Mod_comer_b58_ok {d : Nat} {q : (Int32 × LH)} (hd : 1 ≤ d) {u0 : Value} {u1 : Value} {u2 : Value} {h : LH} : F_Mod_comer_b58 h = some q → JR d jM_232 58 [u0, u1, u2] [] h (jo_i q) := by
 unfold F_Mod_comer_b58
 exact jr_iconst 58 59 (0 : Int32) rfl jc_i_0 rfl
  (jr_ri 59 rfl rfl)
noncomputable def F_Mod_comer_b85 (s0 : Int32) (h : LH) : Option (Int32 × LH) :=
 some (s0, h)
set_option maxRecDepth 100000 in
theorem F_Mod_comer_b85_ok {d : Nat} {q : (Int32 × LH)} (hd : 1 ≤ d) {s0 : Int32} {u0 : Value} {u1 : Value} {u2 : Value} {h : LH} : F_Mod_comer_b85 s0 h = some q → JR d jM_232 85 [u0, u1, u2] [.int s0] h (jo_i q) := by
 unfold F_Mod_comer_b85
 exact jr_ri 85 rfl rfl
noncomputable def F_Mod_comer_b50 (l0 : Nat) (l1 : Int32) (l2 : Int32) (s0 : Nat) (s1 : Int32) (h : LH) : Option (Int32 × LH) :=
 jf_kd h s0 11
 (jf_bi (F_Mod_bad s0 s1 (2 : Int32) (1 : Int32) h) fun v1 h2 =>
 if v1 = 0 then
 if l2 < (3 : Int32) then
 jf_gr h2 l0 11 22 fun v5 =>
 jf_aa h2 v5 l1 fun v6 =>
 jf_ia h2 v6 l2 fun v7 =>
 F_Mod_comer_b85  v7 h2
else
 jf_gr h2 l0 11 35 fun v3 =>
 jf_ia h2 v3 ((123 : Int32) + l1) fun v4 =>
 F_Mod_comer_b85  v4 h2
else
 F_Mod_comer_b58  h2)
set_option maxRecDepth 100000 in
theorem F_Mod_comer_b50_ok {d : Nat} {q : (Int32 × LH)} (hd : 1 ≤ d) {l0 : Nat} {l1 : Int32} {l2 : Int32} {s0 : Nat} {s1 : Int32} {h : LH} : F_Mod_comer_b50 l0 l1 l2 s0 s1 h = some q → JR d jM_232 50 [.ref l0, .int l1, .int l2] [.int s1, .ref s0] h (jo_i q) := by
 unfold F_Mod_comer_b50
 exact jr_iconst 50 51 (2 : Int32) rfl jc_i_2 rfl
  (jr_iconst 51 52 (1 : Int32) rfl jc_i_1 rfl
  (jr_cVi 52 55 [] rfl rfl rfl rfl rfl rfl rfl rfl (as := [.int s1, .int (2 : Int32), .int (1 : Int32)]) (F_Mod_bad_ok (Nat.le_trans (by decide : 1 ≤ 1) hd)) (fun v1 h2 =>
  jr_if_eq 55 60 58 rfl rfl rfl
  (jr_iloadn 60 61 rfl rfl rfl
  (jr_iconst 61 62 (3 : Int32) rfl jc_i_3 rfl
  (jr_icmp_ge 62 76 65 rfl rfl rfl
  (jr_aloadn 76 77 rfl rfl rfl
  (jr_gr 77 80 rfl jg_11_85_2 rfl (fun v3 =>
  jr_bipush 80 82 (123 : Int32) rfl jc_b_123 rfl
  (jr_iloadn 82 83 rfl rfl rfl
  (jr_iadd 83 84 rfl rfl
  (jr_ia 84 85 rfl rfl (fun v4 =>
  (F_Mod_comer_b85_ok hd ))))))))
  (jr_aloadn 65 66 rfl rfl rfl
  (jr_gr 66 69 rfl jg_11_55_2 rfl (fun v5 =>
  jr_iloadn 69 70 rfl rfl rfl
  (jr_aa 70 71 rfl rfl (fun v6 =>
  jr_iloadn 71 72 rfl rfl rfl
  (jr_ia 72 73 rfl rfl (fun v7 =>
  jr_goto 73 85 rfl rfl
  ((F_Mod_comer_b85_ok hd ))))))))))))
  ((F_Mod_comer_b58_ok hd )))))
noncomputable def F_Mod_comer_b27 (l0 : Nat) (l1 : Int32) (l2 : Int32) (s0 : Nat) (s1 : Int32) (h : LH) : Option (Int32 × LH) :=
 jf_kd h s0 11
 (jf_bi (F_Mod_bad s0 s1 (1 : Int32) (0 : Int32) h) fun v1 h2 =>
 if v1 = 0 then
 jf_bi (F_Mod_in l2 (0 : Int32) (3 : Int32) h2) fun v3 h4 =>
 if v3 = 0 then
 F_Mod_comer_b50  l0 l1 l2 l0 (1 : Int32) h4
else
 F_Mod_comer_b50  l0 l1 l2 l0 (0 : Int32) h4
else
 F_Mod_comer_b58  h2)
set_option maxRecDepth 100000 in
theorem F_Mod_comer_b27_ok {d : Nat} {q : (Int32 × LH)} (hd : 1 ≤ d) {l0 : Nat} {l1 : Int32} {l2 : Int32} {s0 : Nat} {s1 : Int32} {h : LH} : F_Mod_comer_b27 l0 l1 l2 s0 s1 h = some q → JR d jM_232 27 [.ref l0, .int l1, .int l2] [.int s1, .ref s0] h (jo_i q) := by
 unfold F_Mod_comer_b27
 exact jr_iconst 27 28 (1 : Int32) rfl jc_i_1 rfl
  (jr_iconst 28 29 (0 : Int32) rfl jc_i_0 rfl
  (jr_cVi 29 32 [] rfl rfl rfl rfl rfl rfl rfl rfl (as := [.int s1, .int (1 : Int32), .int (0 : Int32)]) (F_Mod_bad_ok (Nat.le_trans (by decide : 1 ≤ 1) hd)) (fun v1 h2 =>
  jr_if_ne 32 58 35 rfl rfl rfl
  ((F_Mod_comer_b58_ok hd ))
  (jr_aloadn 35 36 rfl rfl rfl
  (jr_iloadn 36 37 rfl rfl rfl
  (jr_iconst 37 38 (0 : Int32) rfl jc_i_0 rfl
  (jr_iconst 38 39 (3 : Int32) rfl jc_i_3 rfl
  (jr_cSi 39 42 [.ref l0] rfl rfl rfl rfl rfl rfl rfl (as := [.int l2, .int (0 : Int32), .int (3 : Int32)]) (F_Mod_in_ok (Nat.le_trans (by decide : 1 ≤ 1) hd)) (fun v3 h4 =>
  jr_if_ne 42 49 45 rfl rfl rfl
  (jr_iconst 49 50 (0 : Int32) rfl jc_i_0 rfl
  ((F_Mod_comer_b50_ok hd )))
  (jr_iconst 45 46 (1 : Int32) rfl jc_i_1 rfl
  (jr_goto 46 50 rfl rfl
  ((F_Mod_comer_b50_ok hd )))))))))))))
noncomputable def F_Mod_comer (l0 : Nat) (l1 : Int32) (l2 : Int32) (h : LH) : Option (Int32 × LH) :=
 jf_pi h l0 11 0 (0 : Int32) fun h1 =>
 jf_gr h1 l0 11 12 fun v2 =>
 jf_ia h1 v2 (2 : Int32) fun v3 =>
 jf_bi (F_Mod_in l1 (0 : Int32) (v3 - (1 : Int32)) h1) fun v4 h5 =>
 if v4 = 0 then
 F_Mod_comer_b27  l0 l1 l2 l0 (1 : Int32) h5
else
 F_Mod_comer_b27  l0 l1 l2 l0 (0 : Int32) h5
set_option maxRecDepth 100000 in
theorem F_Mod_comer_ok {d : Nat} (hd : 2 ≤ d) {l0 : Nat} {l1 : Int32} {l2 : Int32} {h : LH} {q : (Int32 × LH)} : F_Mod_comer l0 l1 l2 h = some q → jl_Sem jt_T jt_Ms d 232 [.ref l0, .int l1, .int l2] h (jo_i q) := by
 unfold F_Mod_comer
 exact jr_enter (D := 1) hd jM_232_at rfl rfl rfl (fun d hd =>
  jr_aloadn 0 1 rfl rfl rfl
  (jr_iconst 1 2 (0 : Int32) rfl jc_i_0 rfl
  (jr_pi 2 5 rfl jg_11_109_3 rfl (fun h1 =>
  jr_aloadn 5 6 rfl rfl rfl
  (jr_iloadn 6 7 rfl rfl rfl
  (jr_iconst 7 8 (0 : Int32) rfl jc_i_0 rfl
  (jr_aloadn 8 9 rfl rfl rfl
  (jr_gr 9 12 rfl jg_11_23_2 rfl (fun v2 =>
  jr_iconst 12 13 (2 : Int32) rfl jc_i_2 rfl
  (jr_ia 13 14 rfl rfl (fun v3 =>
  jr_iconst 14 15 (1 : Int32) rfl jc_i_1 rfl
  (jr_isub 15 16 rfl rfl
  (jr_cSi 16 19 [.ref l0] rfl rfl rfl rfl rfl rfl rfl (as := [.int l1, .int (0 : Int32), .int (v3 - (1 : Int32))]) (F_Mod_in_ok (Nat.le_trans (by decide : 1 ≤ 1) hd)) (fun v4 h5 =>
  jr_if_ne 19 26 22 rfl rfl rfl
  (jr_iconst 26 27 (0 : Int32) rfl jc_i_0 rfl
  ((F_Mod_comer_b27_ok hd )))
  (jr_iconst 22 23 (1 : Int32) rfl jc_i_1 rfl
  (jr_goto 23 27 rfl rfl
  ((F_Mod_comer_b27_ok hd ))))))))))))))))))
noncomputable def jM_233 : JMeth := (11, false, 1, jk_233, [], 4)
set_option maxRecDepth 100000 in
theorem jM_233_at : jt_Ms 233 = some jM_233 := rfl
noncomputable def F_Mod_log_b69 (h : LH) : Option (Int32 × LH) :=
 some ((0 : Int32), h)
set_option maxRecDepth 100000 in
theorem F_Mod_log_b69_ok {d : Nat} {q : (Int32 × LH)} (hd : 2 ≤ d) {u0 : Value} {u1 : Value} {u2 : Value} {u3 : Value} {h : LH} : F_Mod_log_b69 h = some q → JR d jM_233 69 [u0, u1, u2, u3] [] h (jo_i q) := by
 unfold F_Mod_log_b69
 exact jr_iconst 69 70 (0 : Int32) rfl jc_i_0 rfl
  (jr_ri 70 rfl rfl)
noncomputable def F_Mod_log_b85 (l1 : Int32) (l2 : Int32) (s0 : Nat) (s1 : Int32) (h : LH) : Option (Int32 × LH) :=
 jf_ia h s0 ((s1 + ((6 : Int32) * l1)) + l2) fun v1 =>
 some (v1, h)
set_option maxRecDepth 100000 in
theorem F_Mod_log_b85_ok {d : Nat} {q : (Int32 × LH)} (hd : 2 ≤ d) {l1 : Int32} {l2 : Int32} {s0 : Nat} {s1 : Int32} {u0 : Value} {u3 : Value} {h : LH} : F_Mod_log_b85 l1 l2 s0 s1 h = some q → JR d jM_233 85 [u0, .int l1, .int l2, u3] [.int s1, .ref s0] h (jo_i q) := by
 unfold F_Mod_log_b85
 exact jr_bipush 85 87 (6 : Int32) rfl jc_b_6 rfl
  (jr_iloadn 87 88 rfl rfl rfl
  (jr_imul 88 89 rfl rfl
  (jr_iadd 89 90 rfl rfl
  (jr_iloadn 90 91 rfl rfl rfl
  (jr_iadd 91 92 rfl rfl
  (jr_ia 92 93 rfl rfl (fun v1 =>
  jr_ri 93 rfl rfl)))))))
noncomputable def F_Mod_log_b61 (l0 : Nat) (l1 : Int32) (l2 : Int32) (l3 : Int32) (s0 : Nat) (s1 : Int32) (h : LH) : Option (Int32 × LH) :=
 jf_kd h s0 11
 (jf_bi (F_Mod_bad s0 s1 (2 : Int32) (1 : Int32) h) fun v1 h2 =>
 if v1 = 0 then
 jf_gr h2 l0 11 35 fun v3 =>
 if l3 = 0 then
 F_Mod_log_b85  l1 l2 v3 (0 : Int32) h2
else
 F_Mod_log_b85  l1 l2 v3 (54 : Int32) h2
else
 F_Mod_log_b69  h2)
set_option maxRecDepth 100000 in
theorem F_Mod_log_b61_ok {d : Nat} {q : (Int32 × LH)} (hd : 2 ≤ d) {l0 : Nat} {l1 : Int32} {l2 : Int32} {l3 : Int32} {s0 : Nat} {s1 : Int32} {h : LH} : F_Mod_log_b61 l0 l1 l2 l3 s0 s1 h = some q → JR d jM_233 61 [.ref l0, .int l1, .int l2, .int l3] [.int s1, .ref s0] h (jo_i q) := by
 unfold F_Mod_log_b61
 exact jr_iconst 61 62 (2 : Int32) rfl jc_i_2 rfl
  (jr_iconst 62 63 (1 : Int32) rfl jc_i_1 rfl
  (jr_cVi 63 66 [] rfl rfl rfl rfl rfl rfl rfl rfl (as := [.int s1, .int (2 : Int32), .int (1 : Int32)]) (F_Mod_bad_ok (Nat.le_trans (by decide : 1 ≤ 2) hd)) (fun v1 h2 =>
  jr_if_eq 66 71 69 rfl rfl rfl
  (jr_aloadn 71 72 rfl rfl rfl
  (jr_gr 72 75 rfl jg_11_85_2 rfl (fun v3 =>
  jr_iloadn 75 76 rfl rfl rfl
  (jr_if_ne 76 83 79 rfl rfl rfl
  (jr_bipush 83 85 (54 : Int32) rfl jc_b_54 rfl
  ((F_Mod_log_b85_ok hd )))
  (jr_iconst 79 80 (0 : Int32) rfl jc_i_0 rfl
  (jr_goto 80 85 rfl rfl
  ((F_Mod_log_b85_ok hd ))))))))
  ((F_Mod_log_b69_ok hd )))))
noncomputable def F_Mod_log_b38 (l0 : Nat) (l1 : Int32) (l2 : Int32) (l3 : Int32) (s0 : Nat) (s1 : Int32) (h : LH) : Option (Int32 × LH) :=
 jf_kd h s0 11
 (jf_bi (F_Mod_bad s0 s1 (1 : Int32) (0 : Int32) h) fun v1 h2 =>
 if v1 = 0 then
 jf_bi (F_Mod_in l3 (0 : Int32) (1 : Int32) h2) fun v3 h4 =>
 if v3 = 0 then
 F_Mod_log_b61  l0 l1 l2 l3 l0 (1 : Int32) h4
else
 F_Mod_log_b61  l0 l1 l2 l3 l0 (0 : Int32) h4
else
 F_Mod_log_b69  h2)
set_option maxRecDepth 100000 in
theorem F_Mod_log_b38_ok {d : Nat} {q : (Int32 × LH)} (hd : 2 ≤ d) {l0 : Nat} {l1 : Int32} {l2 : Int32} {l3 : Int32} {s0 : Nat} {s1 : Int32} {h : LH} : F_Mod_log_b38 l0 l1 l2 l3 s0 s1 h = some q → JR d jM_233 38 [.ref l0, .int l1, .int l2, .int l3] [.int s1, .ref s0] h (jo_i q) := by
 unfold F_Mod_log_b38
 exact jr_iconst 38 39 (1 : Int32) rfl jc_i_1 rfl
  (jr_iconst 39 40 (0 : Int32) rfl jc_i_0 rfl
  (jr_cVi 40 43 [] rfl rfl rfl rfl rfl rfl rfl rfl (as := [.int s1, .int (1 : Int32), .int (0 : Int32)]) (F_Mod_bad_ok (Nat.le_trans (by decide : 1 ≤ 2) hd)) (fun v1 h2 =>
  jr_if_ne 43 69 46 rfl rfl rfl
  ((F_Mod_log_b69_ok hd ))
  (jr_aloadn 46 47 rfl rfl rfl
  (jr_iloadn 47 48 rfl rfl rfl
  (jr_iconst 48 49 (0 : Int32) rfl jc_i_0 rfl
  (jr_iconst 49 50 (1 : Int32) rfl jc_i_1 rfl
  (jr_cSi 50 53 [.ref l0] rfl rfl rfl rfl rfl rfl rfl (as := [.int l3, .int (0 : Int32), .int (1 : Int32)]) (F_Mod_in_ok (Nat.le_trans (by decide : 1 ≤ 2) hd)) (fun v3 h4 =>
  jr_if_ne 53 60 56 rfl rfl rfl
  (jr_iconst 60 61 (0 : Int32) rfl jc_i_0 rfl
  ((F_Mod_log_b61_ok hd )))
  (jr_iconst 56 57 (1 : Int32) rfl jc_i_1 rfl
  (jr_goto 57 61 rfl rfl
  ((F_Mod_log_b61_ok hd )))))))))))))
noncomputable def F_Mod_log_b33 (l0 : Nat) (l1 : Int32) (l2 : Int32) (l3 : Int32) (s0 : Nat) (h : LH) : Option (Int32 × LH) :=
 F_Mod_log_b38  l0 l1 l2 l3 s0 (1 : Int32) h
set_option maxRecDepth 100000 in
theorem F_Mod_log_b33_ok {d : Nat} {q : (Int32 × LH)} (hd : 2 ≤ d) {l0 : Nat} {l1 : Int32} {l2 : Int32} {l3 : Int32} {s0 : Nat} {h : LH} : F_Mod_log_b33 l0 l1 l2 l3 s0 h = some q → JR d jM_233 33 [.ref l0, .int l1, .int l2, .int l3] [.ref s0] h (jo_i q) := by
 unfold F_Mod_log_b33
 exact jr_iconst 33 34 (1 : Int32) rfl jc_i_1 rfl
  (jr_goto 34 38 rfl rfl
  ((F_Mod_log_b38_ok hd )))
noncomputable def F_Mod_log (l0 : Nat) (l1 : Int32) (l2 : Int32) (l3 : Int32) (h : LH) : Option (Int32 × LH) :=
 jf_pi h l0 11 0 (0 : Int32) fun h1 =>
 jf_kd h1 l0 11
 (jf_bi (F_Mod_isGate l0 l1 h1) fun v2 h3 =>
 if v2 = 0 then
 F_Mod_log_b33  l0 l1 l2 l3 l0 h3
else
 jf_gr h3 l0 11 35 fun v4 =>
 jf_ia h3 v4 ((108 : Int32) + l1) fun v5 =>
 jf_bi (F_Mod_in l2 (0 : Int32) (v5 - (1 : Int32)) h3) fun v6 h7 =>
 if v6 = 0 then
 F_Mod_log_b33  l0 l1 l2 l3 l0 h7
else
 F_Mod_log_b38  l0 l1 l2 l3 l0 (0 : Int32) h7)
set_option maxRecDepth 100000 in
theorem F_Mod_log_ok {d : Nat} (hd : 3 ≤ d) {l0 : Nat} {l1 : Int32} {l2 : Int32} {l3 : Int32} {h : LH} {q : (Int32 × LH)} : F_Mod_log l0 l1 l2 l3 h = some q → jl_Sem jt_T jt_Ms d 233 [.ref l0, .int l1, .int l2, .int l3] h (jo_i q) := by
 unfold F_Mod_log
 exact jr_enter (D := 2) hd jM_233_at rfl rfl rfl (fun d hd =>
  jr_aloadn 0 1 rfl rfl rfl
  (jr_iconst 1 2 (0 : Int32) rfl jc_i_0 rfl
  (jr_pi 2 5 rfl jg_11_109_3 rfl (fun h1 =>
  jr_aloadn 5 6 rfl rfl rfl
  (jr_aloadn 6 7 rfl rfl rfl
  (jr_iloadn 7 8 rfl rfl rfl
  (jr_cVi 8 11 [.ref l0] rfl rfl rfl rfl rfl rfl rfl rfl (as := [.int l1]) (F_Mod_isGate_ok (Nat.le_trans (by decide : 2 ≤ 2) hd)) (fun v2 h3 =>
  jr_if_eq 11 33 14 rfl rfl rfl
  ((F_Mod_log_b33_ok hd ))
  (jr_iloadn 14 15 rfl rfl rfl
  (jr_iconst 15 16 (0 : Int32) rfl jc_i_0 rfl
  (jr_aloadn 16 17 rfl rfl rfl
  (jr_gr 17 20 rfl jg_11_85_2 rfl (fun v4 =>
  jr_bipush 20 22 (108 : Int32) rfl jc_b_108 rfl
  (jr_iloadn 22 23 rfl rfl rfl
  (jr_iadd 23 24 rfl rfl
  (jr_ia 24 25 rfl rfl (fun v5 =>
  jr_iconst 25 26 (1 : Int32) rfl jc_i_1 rfl
  (jr_isub 26 27 rfl rfl
  (jr_cSi 27 30 [.ref l0] rfl rfl rfl rfl rfl rfl rfl (as := [.int l2, .int (0 : Int32), .int (v5 - (1 : Int32))]) (F_Mod_in_ok (Nat.le_trans (by decide : 1 ≤ 2) hd)) (fun v6 h7 =>
  jr_if_ne 30 37 33 rfl rfl rfl
  (jr_iconst 37 38 (0 : Int32) rfl jc_i_0 rfl
  ((F_Mod_log_b38_ok hd )))
  ((F_Mod_log_b33_ok hd ))))))))))))))))))))))
noncomputable def jM_234 : JMeth := (11, false, 2, jk_234, [], 4)
set_option maxRecDepth 100000 in
theorem jM_234_at : jt_Ms 234 = some jM_234 := rfl
noncomputable def F_Mod_would_b62 (h : LH) : Option (Int32 × LH) :=
 jf_rz (0 : Int32) (some ((0 : Int32), h))
set_option maxRecDepth 100000 in
theorem F_Mod_would_b62_ok {d : Nat} {q : (Int32 × LH)} (hd : 5 ≤ d) {u0 : Value} {u1 : Value} {u2 : Value} {u3 : Value} {h : LH} : F_Mod_would_b62 h = some q → JR d jM_234 62 [u0, u1, u2, u3] [] h (jo_i q) := by
 unfold F_Mod_would_b62
 exact jr_iconst 62 63 (0 : Int32) rfl jc_i_0 rfl
  (jr_rz 63 rfl rfl)
noncomputable def F_Mod_would_b54 (l0 : Nat) (l1 : Int32) (l2 : Int32) (l3 : Int32) (s0 : Nat) (s1 : Int32) (h : LH) : Option (Int32 × LH) :=
 jf_kd h s0 11
 (jf_bi (F_Mod_bad s0 s1 (2 : Int32) (1 : Int32) h) fun v1 h2 =>
 if v1 = 0 then
 jf_gr h2 l0 11 35 fun v3 =>
 jf_kd h2 l0 11
 (jf_bi (F_Mod_isShutBy l0 v3 l1 l2 l3 h2) fun v4 h5 =>
 jf_rz v4 (some (v4, h5)))
else
 F_Mod_would_b62  h2)
set_option maxRecDepth 100000 in
theorem F_Mod_would_b54_ok {d : Nat} {q : (Int32 × LH)} (hd : 5 ≤ d) {l0 : Nat} {l1 : Int32} {l2 : Int32} {l3 : Int32} {s0 : Nat} {s1 : Int32} {h : LH} : F_Mod_would_b54 l0 l1 l2 l3 s0 s1 h = some q → JR d jM_234 54 [.ref l0, .int l1, .int l2, .int l3] [.int s1, .ref s0] h (jo_i q) := by
 unfold F_Mod_would_b54
 exact jr_iconst 54 55 (2 : Int32) rfl jc_i_2 rfl
  (jr_iconst 55 56 (1 : Int32) rfl jc_i_1 rfl
  (jr_cVi 56 59 [] rfl rfl rfl rfl rfl rfl rfl rfl (as := [.int s1, .int (2 : Int32), .int (1 : Int32)]) (F_Mod_bad_ok (Nat.le_trans (by decide : 1 ≤ 5) hd)) (fun v1 h2 =>
  jr_if_eq 59 64 62 rfl rfl rfl
  (jr_aloadn 64 65 rfl rfl rfl
  (jr_aloadn 65 66 rfl rfl rfl
  (jr_gr 66 69 rfl jg_11_85_2 rfl (fun v3 =>
  jr_iloadn 69 70 rfl rfl rfl
  (jr_iloadn 70 71 rfl rfl rfl
  (jr_iloadn 71 72 rfl rfl rfl
  (jr_cVi 72 75 [] rfl rfl rfl rfl rfl rfl rfl rfl (as := [.ref v3, .int l1, .int l2, .int l3]) (F_Mod_isShutBy_ok (Nat.le_trans (by decide : 5 ≤ 5) hd)) (fun v4 h5 =>
  jr_rz 75 rfl rfl))))))))
  ((F_Mod_would_b62_ok hd )))))
noncomputable def F_Mod_would_b49 (l0 : Nat) (l1 : Int32) (l2 : Int32) (l3 : Int32) (s0 : Nat) (h : LH) : Option (Int32 × LH) :=
 F_Mod_would_b54  l0 l1 l2 l3 s0 (1 : Int32) h
set_option maxRecDepth 100000 in
theorem F_Mod_would_b49_ok {d : Nat} {q : (Int32 × LH)} (hd : 5 ≤ d) {l0 : Nat} {l1 : Int32} {l2 : Int32} {l3 : Int32} {s0 : Nat} {h : LH} : F_Mod_would_b49 l0 l1 l2 l3 s0 h = some q → JR d jM_234 49 [.ref l0, .int l1, .int l2, .int l3] [.ref s0] h (jo_i q) := by
 unfold F_Mod_would_b49
 exact jr_iconst 49 50 (1 : Int32) rfl jc_i_1 rfl
  (jr_goto 50 54 rfl rfl
  ((F_Mod_would_b54_ok hd )))
noncomputable def F_Mod_would_b19 (l0 : Nat) (l1 : Int32) (l2 : Int32) (l3 : Int32) (s0 : Nat) (s1 : Int32) (h : LH) : Option (Int32 × LH) :=
 jf_kd h s0 11
 (jf_bi (F_Mod_bad s0 s1 (1 : Int32) (0 : Int32) h) fun v1 h2 =>
 if v1 = 0 then
 jf_bi (F_Mod_in l2 (0 : Int32) (999 : Int32) h2) fun v3 h4 =>
 if v3 = 0 then
 F_Mod_would_b49  l0 l1 l2 l3 l0 h4
else
 jf_bi (F_Mod_in l3 (0 : Int32) (6 : Int32) h4) fun v5 h6 =>
 if v5 = 0 then
 F_Mod_would_b49  l0 l1 l2 l3 l0 h6
else
 F_Mod_would_b54  l0 l1 l2 l3 l0 (0 : Int32) h6
else
 F_Mod_would_b62  h2)
set_option maxRecDepth 100000 in
theorem F_Mod_would_b19_ok {d : Nat} {q : (Int32 × LH)} (hd : 5 ≤ d) {l0 : Nat} {l1 : Int32} {l2 : Int32} {l3 : Int32} {s0 : Nat} {s1 : Int32} {h : LH} : F_Mod_would_b19 l0 l1 l2 l3 s0 s1 h = some q → JR d jM_234 19 [.ref l0, .int l1, .int l2, .int l3] [.int s1, .ref s0] h (jo_i q) := by
 unfold F_Mod_would_b19
 exact jr_iconst 19 20 (1 : Int32) rfl jc_i_1 rfl
  (jr_iconst 20 21 (0 : Int32) rfl jc_i_0 rfl
  (jr_cVi 21 24 [] rfl rfl rfl rfl rfl rfl rfl rfl (as := [.int s1, .int (1 : Int32), .int (0 : Int32)]) (F_Mod_bad_ok (Nat.le_trans (by decide : 1 ≤ 5) hd)) (fun v1 h2 =>
  jr_if_ne 24 62 27 rfl rfl rfl
  ((F_Mod_would_b62_ok hd ))
  (jr_aloadn 27 28 rfl rfl rfl
  (jr_iloadn 28 29 rfl rfl rfl
  (jr_iconst 29 30 (0 : Int32) rfl jc_i_0 rfl
  (jr_sipush 30 33 (999 : Int32) rfl jc_s_999 rfl
  (jr_cSi 33 36 [.ref l0] rfl rfl rfl rfl rfl rfl rfl (as := [.int l2, .int (0 : Int32), .int (999 : Int32)]) (F_Mod_in_ok (Nat.le_trans (by decide : 1 ≤ 5) hd)) (fun v3 h4 =>
  jr_if_eq 36 49 39 rfl rfl rfl
  ((F_Mod_would_b49_ok hd ))
  (jr_iloadn 39 40 rfl rfl rfl
  (jr_iconst 40 41 (0 : Int32) rfl jc_i_0 rfl
  (jr_bipush 41 43 (6 : Int32) rfl jc_b_6 rfl
  (jr_cSi 43 46 [.ref l0] rfl rfl rfl rfl rfl rfl rfl (as := [.int l3, .int (0 : Int32), .int (6 : Int32)]) (F_Mod_in_ok (Nat.le_trans (by decide : 1 ≤ 5) hd)) (fun v5 h6 =>
  jr_if_ne 46 53 49 rfl rfl rfl
  (jr_iconst 53 54 (0 : Int32) rfl jc_i_0 rfl
  ((F_Mod_would_b54_ok hd )))
  ((F_Mod_would_b49_ok hd ))))))))))))))))
noncomputable def F_Mod_would (l0 : Nat) (l1 : Int32) (l2 : Int32) (l3 : Int32) (h : LH) : Option (Int32 × LH) :=
 jf_pi h l0 11 0 (0 : Int32) fun h1 =>
 jf_kd h1 l0 11
 (jf_bi (F_Mod_isGate l0 l1 h1) fun v2 h3 =>
 if v2 = 0 then
 F_Mod_would_b19  l0 l1 l2 l3 l0 (1 : Int32) h3
else
 F_Mod_would_b19  l0 l1 l2 l3 l0 (0 : Int32) h3)
set_option maxRecDepth 100000 in
theorem F_Mod_would_ok {d : Nat} (hd : 6 ≤ d) {l0 : Nat} {l1 : Int32} {l2 : Int32} {l3 : Int32} {h : LH} {q : (Int32 × LH)} : F_Mod_would l0 l1 l2 l3 h = some q → jl_Sem jt_T jt_Ms d 234 [.ref l0, .int l1, .int l2, .int l3] h (jo_i q) := by
 unfold F_Mod_would
 exact jr_enter (D := 5) hd jM_234_at rfl rfl rfl (fun d hd =>
  jr_aloadn 0 1 rfl rfl rfl
  (jr_iconst 1 2 (0 : Int32) rfl jc_i_0 rfl
  (jr_pi 2 5 rfl jg_11_109_3 rfl (fun h1 =>
  jr_aloadn 5 6 rfl rfl rfl
  (jr_aloadn 6 7 rfl rfl rfl
  (jr_iloadn 7 8 rfl rfl rfl
  (jr_cVi 8 11 [.ref l0] rfl rfl rfl rfl rfl rfl rfl rfl (as := [.int l1]) (F_Mod_isGate_ok (Nat.le_trans (by decide : 2 ≤ 5) hd)) (fun v2 h3 =>
  jr_if_ne 11 18 14 rfl rfl rfl
  (jr_iconst 18 19 (0 : Int32) rfl jc_i_0 rfl
  ((F_Mod_would_b19_ok hd )))
  (jr_iconst 14 15 (1 : Int32) rfl jc_i_1 rfl
  (jr_goto 15 19 rfl rfl
  ((F_Mod_would_b19_ok hd ))))))))))))
noncomputable def jM_236 : JMeth := (11, false, 0, jk_236, [], 1)
set_option maxRecDepth 100000 in
theorem jM_236_at : jt_Ms 236 = some jM_236 := rfl
noncomputable def F_Mod_tries (l0 : Nat) (h : LH) : Option LH :=
 jf_gr h l0 11 35 fun v1 =>
 jf_gr h l0 11 36 fun v2 =>
 (F_Mod_copies v1 v2 h).bind fun h3 =>
 jf_pz h3 l0 11 44 (0 : Int32) fun h4 =>
 some h4
set_option maxRecDepth 100000 in
theorem F_Mod_tries_ok {d : Nat} (hd : 2 ≤ d) {l0 : Nat} {h : LH} {q : LH} : F_Mod_tries l0 h = some q → jl_Sem jt_T jt_Ms d 236 [.ref l0] h (jo_v q) := by
 unfold F_Mod_tries
 exact jr_enter (D := 1) hd jM_236_at rfl rfl rfl (fun d hd =>
  jr_aloadn 0 1 rfl rfl rfl
  (jr_gr 1 4 rfl jg_11_85_2 rfl (fun v1 =>
  jr_aloadn 4 5 rfl rfl rfl
  (jr_gr 5 8 rfl jg_11_88_2 rfl (fun v2 =>
  jr_cSv 8 11 [] rfl rfl rfl rfl rfl rfl rfl (as := [.ref v1, .ref v2]) (F_Mod_copies_ok (Nat.le_trans (by decide : 1 ≤ 1) hd)) (fun h3 =>
  jr_aloadn 11 12 rfl rfl rfl
  (jr_iconst 12 13 (0 : Int32) rfl jc_i_0 rfl
  (jr_pz 13 16 rfl jg_11_268_4 rfl (fun h4 =>
  jr_rv 16 rfl rfl)))))))))
noncomputable def jM_235 : JMeth := (11, false, 1, jk_235, [], 4)
set_option maxRecDepth 100000 in
theorem jM_235_at : jt_Ms 235 = some jM_235 := rfl
noncomputable def F_Mod_when_b50 (h : LH) : Option (Int32 × LH) :=
 some ((0 : Int32), h)
set_option maxRecDepth 100000 in
theorem F_Mod_when_b50_ok {d : Nat} {q : (Int32 × LH)} (hd : 8 ≤ d) {u0 : Value} {u1 : Value} {u2 : Value} {u3 : Value} {h : LH} : F_Mod_when_b50 h = some q → JR d jM_235 50 [u0, u1, u2, u3] [] h (jo_i q) := by
 unfold F_Mod_when_b50
 exact jr_iconst 50 51 (0 : Int32) rfl jc_i_0 rfl
  (jr_ri 51 rfl rfl)
noncomputable def F_Mod_when_b83 (k58 : Nat → Int32 → Int32 → Int32 → LH → Option (Int32 × LH)) (l0 : Nat) (l1 : Int32) (l2 : Int32) (l3 : Int32) (s0 : Int32) (s1 : Int32) (h : LH) : Option (Int32 × LH) :=
 if s0 = s1 then
 some (l3, h)
else
 jf_gr h l0 11 36 fun v1 =>
 jf_kd h l0 11
 ((F_Mod_hourEnds l0 v1 h).bind fun h2 =>
 k58 l0 l1 l2 (l3 + (1 : Int32)) h2)
set_option maxRecDepth 100000 in
theorem F_Mod_when_b83_ok {d : Nat} {q : (Int32 × LH)} {k58 : Nat → Int32 → Int32 → Int32 → LH → Option (Int32 × LH)} (hd : 8 ≤ d) (hk58 : ∀ (l0 : Nat) (l1 : Int32) (l2 : Int32) (l3 : Int32) (h : LH), k58 l0 l1 l2 l3 h = some q → JR d jM_235 58 [.ref l0, .int l1, .int l2, .int l3] [] h (jo_i q)) {l0 : Nat} {l1 : Int32} {l2 : Int32} {l3 : Int32} {s0 : Int32} {s1 : Int32} {h : LH} : F_Mod_when_b83 k58 l0 l1 l2 l3 s0 s1 h = some q → JR d jM_235 83 [.ref l0, .int l1, .int l2, .int l3] [.int s1, .int s0] h (jo_i q) := by
 unfold F_Mod_when_b83
 exact jr_icmp_ne 83 88 86 rfl rfl rfl
  (jr_aloadn 88 89 rfl rfl rfl
  (jr_aloadn 89 90 rfl rfl rfl
  (jr_gr 90 93 rfl jg_11_88_2 rfl (fun v1 =>
  jr_cVv 93 96 [] rfl rfl rfl rfl rfl rfl rfl rfl (as := [.ref v1]) (F_Mod_hourEnds_ok (Nat.le_trans (by decide : 8 ≤ 8) hd)) (fun h2 =>
  jr_iinc 96 99 [.ref l0, .int l1, .int l2, .int (l3 + (1 : Int32))] rfl jc_i_1 rfl rfl rfl rfl
  (jr_goto 99 58 rfl rfl
  ((hk58 _ _ _ _ _))))))))
  (jr_iloadn 86 87 rfl rfl rfl
  (jr_ri 87 rfl rfl))
noncomputable def F_Mod_when_c58 (k58 : Nat → Int32 → Int32 → Int32 → LH → Option (Int32 × LH)) (l0 : Nat) (l1 : Int32) (l2 : Int32) (l3 : Int32) (h : LH) : Option (Int32 × LH) :=
 if (48 : Int32) < l3 then
 some ((-1 : Int32), h)
else
 jf_gr h l0 11 36 fun v1 =>
 jf_kd h l0 11
 (jf_bi (F_Mod_isShut l0 v1 l1 h) fun v2 h3 =>
 if l2 = (1 : Int32) then
 F_Mod_when_b83 k58 l0 l1 l2 l3 v2 (1 : Int32) h3
else
 F_Mod_when_b83 k58 l0 l1 l2 l3 v2 (0 : Int32) h3)
set_option maxRecDepth 100000 in
theorem F_Mod_when_c58_ok {d : Nat} {q : (Int32 × LH)} {k58 : Nat → Int32 → Int32 → Int32 → LH → Option (Int32 × LH)} (hd : 8 ≤ d) (hk58 : ∀ (l0 : Nat) (l1 : Int32) (l2 : Int32) (l3 : Int32) (h : LH), k58 l0 l1 l2 l3 h = some q → JR d jM_235 58 [.ref l0, .int l1, .int l2, .int l3] [] h (jo_i q)) {l0 : Nat} {l1 : Int32} {l2 : Int32} {l3 : Int32} {h : LH} : F_Mod_when_c58 k58 l0 l1 l2 l3 h = some q → JR d jM_235 58 [.ref l0, .int l1, .int l2, .int l3] [] h (jo_i q) := by
 unfold F_Mod_when_c58
 exact jr_iloadn 58 59 rfl rfl rfl
  (jr_bipush 59 61 (48 : Int32) rfl jc_b_48 rfl
  (jr_icmp_gt 61 102 64 rfl rfl rfl
  (jr_iconst 102 103 (-1 : Int32) rfl jc_i_m1 rfl
  (jr_ri 103 rfl rfl))
  (jr_aloadn 64 65 rfl rfl rfl
  (jr_aloadn 65 66 rfl rfl rfl
  (jr_gr 66 69 rfl jg_11_88_2 rfl (fun v1 =>
  jr_iloadn 69 70 rfl rfl rfl
  (jr_cVi 70 73 [] rfl rfl rfl rfl rfl rfl rfl rfl (as := [.ref v1, .int l1]) (F_Mod_isShut_ok (Nat.le_trans (by decide : 6 ≤ 8) hd)) (fun v2 h3 =>
  jr_iloadn 73 74 rfl rfl rfl
  (jr_iconst 74 75 (1 : Int32) rfl jc_i_1 rfl
  (jr_icmp_ne 75 82 78 rfl rfl rfl
  (jr_iconst 82 83 (0 : Int32) rfl jc_i_0 rfl
  ((F_Mod_when_b83_ok hd hk58)))
  (jr_iconst 78 79 (1 : Int32) rfl jc_i_1 rfl
  (jr_goto 79 83 rfl rfl
  ((F_Mod_when_b83_ok hd hk58))))))))))))))
noncomputable def F_Mod_when_l58 : Nat → Nat → Int32 → Int32 → Int32 → LH → Option (Int32 × LH)
 | 0, _, _, _, _, _ => none
 | n + 1, l0, l1, l2, l3, h => F_Mod_when_c58 (F_Mod_when_l58 n) l0 l1 l2 l3 h
theorem F_Mod_when_l58_ok {d : Nat} {q : (Int32 × LH)} (hd : 8 ≤ d) : ∀ (n : Nat) (l0 : Nat) (l1 : Int32) (l2 : Int32) (l3 : Int32) (h : LH), F_Mod_when_l58 n l0 l1 l2 l3 h = some q → JR d jM_235 58 [.ref l0, .int l1, .int l2, .int l3] [] h (jo_i q)
 | 0 => fun _ _ _ _ _ hq => nomatch (show (none : Option (Int32 × LH)) = some q from hq)
 | n + 1 => fun _ _ _ _ _ hq => F_Mod_when_c58_ok hd (F_Mod_when_l58_ok hd n) hq
noncomputable def F_Mod_when_b42 (l0 : Nat) (l1 : Int32) (l2 : Int32) (s0 : Nat) (s1 : Int32) (h : LH) : Option (Int32 × LH) :=
 jf_kd h s0 11
 (jf_bi (F_Mod_bad s0 s1 (2 : Int32) (1 : Int32) h) fun v1 h2 =>
 if v1 = 0 then
 jf_kd h2 l0 11
 ((F_Mod_tries l0 h2).bind fun h3 =>
 F_Mod_when_l58  jF l0 l1 l2 (0 : Int32) h3)
else
 F_Mod_when_b50  h2)
set_option maxRecDepth 100000 in
theorem F_Mod_when_b42_ok {d : Nat} {q : (Int32 × LH)} (hd : 8 ≤ d) {l0 : Nat} {l1 : Int32} {l2 : Int32} {s0 : Nat} {s1 : Int32} {u3 : Value} {h : LH} : F_Mod_when_b42 l0 l1 l2 s0 s1 h = some q → JR d jM_235 42 [.ref l0, .int l1, .int l2, u3] [.int s1, .ref s0] h (jo_i q) := by
 unfold F_Mod_when_b42
 exact jr_iconst 42 43 (2 : Int32) rfl jc_i_2 rfl
  (jr_iconst 43 44 (1 : Int32) rfl jc_i_1 rfl
  (jr_cVi 44 47 [] rfl rfl rfl rfl rfl rfl rfl rfl (as := [.int s1, .int (2 : Int32), .int (1 : Int32)]) (F_Mod_bad_ok (Nat.le_trans (by decide : 1 ≤ 8) hd)) (fun v1 h2 =>
  jr_if_eq 47 52 50 rfl rfl rfl
  (jr_aloadn 52 53 rfl rfl rfl
  (jr_cVv 53 56 [] rfl rfl rfl rfl rfl rfl rfl rfl (as := []) (F_Mod_tries_ok (Nat.le_trans (by decide : 2 ≤ 8) hd)) (fun h3 =>
  jr_iconst 56 57 (0 : Int32) rfl jc_i_0 rfl
  (jr_istoren 57 58 [.ref l0, .int l1, .int l2, .int (0 : Int32)] rfl rfl rfl rfl
  ((F_Mod_when_l58_ok hd  jF _ _ _ _ _))))))
  ((F_Mod_when_b50_ok hd )))))
noncomputable def F_Mod_when_b19 (l0 : Nat) (l1 : Int32) (l2 : Int32) (s0 : Nat) (s1 : Int32) (h : LH) : Option (Int32 × LH) :=
 jf_kd h s0 11
 (jf_bi (F_Mod_bad s0 s1 (1 : Int32) (0 : Int32) h) fun v1 h2 =>
 if v1 = 0 then
 jf_bi (F_Mod_in l2 (0 : Int32) (1 : Int32) h2) fun v3 h4 =>
 if v3 = 0 then
 F_Mod_when_b42  l0 l1 l2 l0 (1 : Int32) h4
else
 F_Mod_when_b42  l0 l1 l2 l0 (0 : Int32) h4
else
 F_Mod_when_b50  h2)
set_option maxRecDepth 100000 in
theorem F_Mod_when_b19_ok {d : Nat} {q : (Int32 × LH)} (hd : 8 ≤ d) {l0 : Nat} {l1 : Int32} {l2 : Int32} {s0 : Nat} {s1 : Int32} {u3 : Value} {h : LH} : F_Mod_when_b19 l0 l1 l2 s0 s1 h = some q → JR d jM_235 19 [.ref l0, .int l1, .int l2, u3] [.int s1, .ref s0] h (jo_i q) := by
 unfold F_Mod_when_b19
 exact jr_iconst 19 20 (1 : Int32) rfl jc_i_1 rfl
  (jr_iconst 20 21 (0 : Int32) rfl jc_i_0 rfl
  (jr_cVi 21 24 [] rfl rfl rfl rfl rfl rfl rfl rfl (as := [.int s1, .int (1 : Int32), .int (0 : Int32)]) (F_Mod_bad_ok (Nat.le_trans (by decide : 1 ≤ 8) hd)) (fun v1 h2 =>
  jr_if_ne 24 50 27 rfl rfl rfl
  ((F_Mod_when_b50_ok hd ))
  (jr_aloadn 27 28 rfl rfl rfl
  (jr_iloadn 28 29 rfl rfl rfl
  (jr_iconst 29 30 (0 : Int32) rfl jc_i_0 rfl
  (jr_iconst 30 31 (1 : Int32) rfl jc_i_1 rfl
  (jr_cSi 31 34 [.ref l0] rfl rfl rfl rfl rfl rfl rfl (as := [.int l2, .int (0 : Int32), .int (1 : Int32)]) (F_Mod_in_ok (Nat.le_trans (by decide : 1 ≤ 8) hd)) (fun v3 h4 =>
  jr_if_ne 34 41 37 rfl rfl rfl
  (jr_iconst 41 42 (0 : Int32) rfl jc_i_0 rfl
  ((F_Mod_when_b42_ok hd )))
  (jr_iconst 37 38 (1 : Int32) rfl jc_i_1 rfl
  (jr_goto 38 42 rfl rfl
  ((F_Mod_when_b42_ok hd )))))))))))))
noncomputable def F_Mod_when (l0 : Nat) (l1 : Int32) (l2 : Int32) (h : LH) : Option (Int32 × LH) :=
 jf_pi h l0 11 0 (0 : Int32) fun h1 =>
 jf_kd h1 l0 11
 (jf_bi (F_Mod_isGate l0 l1 h1) fun v2 h3 =>
 if v2 = 0 then
 F_Mod_when_b19  l0 l1 l2 l0 (1 : Int32) h3
else
 F_Mod_when_b19  l0 l1 l2 l0 (0 : Int32) h3)
set_option maxRecDepth 100000 in
theorem F_Mod_when_ok {d : Nat} (hd : 9 ≤ d) {l0 : Nat} {l1 : Int32} {l2 : Int32} {h : LH} {q : (Int32 × LH)} : F_Mod_when l0 l1 l2 h = some q → jl_Sem jt_T jt_Ms d 235 [.ref l0, .int l1, .int l2] h (jo_i q) := by
 unfold F_Mod_when
 exact jr_enter (D := 8) hd jM_235_at rfl rfl rfl (fun d hd =>
  jr_aloadn 0 1 rfl rfl rfl
  (jr_iconst 1 2 (0 : Int32) rfl jc_i_0 rfl
  (jr_pi 2 5 rfl jg_11_109_3 rfl (fun h1 =>
  jr_aloadn 5 6 rfl rfl rfl
  (jr_aloadn 6 7 rfl rfl rfl
  (jr_iloadn 7 8 rfl rfl rfl
  (jr_cVi 8 11 [.ref l0] rfl rfl rfl rfl rfl rfl rfl rfl (as := [.int l1]) (F_Mod_isGate_ok (Nat.le_trans (by decide : 2 ≤ 8) hd)) (fun v2 h3 =>
  jr_if_ne 11 18 14 rfl rfl rfl
  (jr_iconst 18 19 (0 : Int32) rfl jc_i_0 rfl
  ((F_Mod_when_b19_ok hd )))
  (jr_iconst 14 15 (1 : Int32) rfl jc_i_1 rfl
  (jr_goto 15 19 rfl rfl
  ((F_Mod_when_b19_ok hd ))))))))))))
noncomputable def jM_237 : JMeth := (11, false, 1, jk_237, [], 5)
set_option maxRecDepth 100000 in
theorem jM_237_at : jt_Ms 237 = some jM_237 := rfl
noncomputable def F_Mod_shut_b51 (h : LH) : Option (Int32 × LH) :=
 some ((0 : Int32), h)
set_option maxRecDepth 100000 in
theorem F_Mod_shut_b51_ok {d : Nat} {q : (Int32 × LH)} (hd : 8 ≤ d) {u0 : Value} {u1 : Value} {u2 : Value} {u3 : Value} {u4 : Value} {h : LH} : F_Mod_shut_b51 h = some q → JR d jM_237 51 [u0, u1, u2, u3, u4] [] h (jo_i q) := by
 unfold F_Mod_shut_b51
 exact jr_iconst 51 52 (0 : Int32) rfl jc_i_0 rfl
  (jr_ri 52 rfl rfl)
noncomputable def F_Mod_shut_b89 (k62 : Nat → Int32 → Int32 → Int32 → Int32 → LH → Option (Int32 × LH)) (l0 : Nat) (l1 : Int32) (l2 : Int32) (l4 : Int32) (s0 : Int32) (s1 : Int32) (h : LH) : Option (Int32 × LH) :=
 jf_let (s0 ||| s1) fun v1 =>
 jf_gr h l0 11 36 fun v2 =>
 jf_kd h l0 11
 ((F_Mod_hourEnds l0 v2 h).bind fun h3 =>
 k62 l0 l1 l2 v1 (l4 + (1 : Int32)) h3)
set_option maxRecDepth 100000 in
theorem F_Mod_shut_b89_ok {d : Nat} {q : (Int32 × LH)} {k62 : Nat → Int32 → Int32 → Int32 → Int32 → LH → Option (Int32 × LH)} (hd : 8 ≤ d) (hk62 : ∀ (l0 : Nat) (l1 : Int32) (l2 : Int32) (l3 : Int32) (l4 : Int32) (h : LH), k62 l0 l1 l2 l3 l4 h = some q → JR d jM_237 62 [.ref l0, .int l1, .int l2, .int l3, .int l4] [] h (jo_i q)) {l0 : Nat} {l1 : Int32} {l2 : Int32} {l4 : Int32} {s0 : Int32} {s1 : Int32} {u3 : Value} {h : LH} : F_Mod_shut_b89 k62 l0 l1 l2 l4 s0 s1 h = some q → JR d jM_237 89 [.ref l0, .int l1, .int l2, u3, .int l4] [.int s1, .int s0] h (jo_i q) := by
 unfold F_Mod_shut_b89
 exact jr_ior 89 90 rfl rfl
  (jr_istorenL 90 91 (fun v1 => [.ref l0, .int l1, .int l2, .int v1, .int l4]) rfl rfl (fun _ => rfl) rfl (fun v1 =>
  jr_aloadn 91 92 rfl rfl rfl
  (jr_aloadn 92 93 rfl rfl rfl
  (jr_gr 93 96 rfl jg_11_88_2 rfl (fun v2 =>
  jr_cVv 96 99 [] rfl rfl rfl rfl rfl rfl rfl rfl (as := [.ref v2]) (F_Mod_hourEnds_ok (Nat.le_trans (by decide : 8 ≤ 8) hd)) (fun h3 =>
  jr_iinc 99 102 [.ref l0, .int l1, .int l2, .int v1, .int (l4 + (1 : Int32))] rfl jc_i_1 rfl rfl rfl rfl
  (jr_goto 102 62 rfl rfl
  ((hk62 _ _ _ _ _ _)))))))))
noncomputable def F_Mod_shut_c62 (k62 : Nat → Int32 → Int32 → Int32 → Int32 → LH → Option (Int32 × LH)) (l0 : Nat) (l1 : Int32) (l2 : Int32) (l3 : Int32) (l4 : Int32) (h : LH) : Option (Int32 × LH) :=
 if l4 < l2 then
 jf_gr h l0 11 36 fun v1 =>
 jf_kd h l0 11
 (jf_bi (F_Mod_isShut l0 v1 l1 h) fun v2 h3 =>
 if v2 = 0 then
 F_Mod_shut_b89 k62 l0 l1 l2 l4 l3 (0 : Int32) h3
else
 F_Mod_shut_b89 k62 l0 l1 l2 l4 l3 ((1 : Int32) <<< (l4 &&& 31)) h3)
else
 some (l3, h)
set_option maxRecDepth 100000 in
theorem F_Mod_shut_c62_ok {d : Nat} {q : (Int32 × LH)} {k62 : Nat → Int32 → Int32 → Int32 → Int32 → LH → Option (Int32 × LH)} (hd : 8 ≤ d) (hk62 : ∀ (l0 : Nat) (l1 : Int32) (l2 : Int32) (l3 : Int32) (l4 : Int32) (h : LH), k62 l0 l1 l2 l3 l4 h = some q → JR d jM_237 62 [.ref l0, .int l1, .int l2, .int l3, .int l4] [] h (jo_i q)) {l0 : Nat} {l1 : Int32} {l2 : Int32} {l3 : Int32} {l4 : Int32} {h : LH} : F_Mod_shut_c62 k62 l0 l1 l2 l3 l4 h = some q → JR d jM_237 62 [.ref l0, .int l1, .int l2, .int l3, .int l4] [] h (jo_i q) := by
 unfold F_Mod_shut_c62
 exact jr_iload 62 64 rfl rfl rfl
  (jr_iloadn 64 65 rfl rfl rfl
  (jr_icmp_ge 65 105 68 rfl rfl rfl
  (jr_iloadn 105 106 rfl rfl rfl
  (jr_ri 106 rfl rfl))
  (jr_iloadn 68 69 rfl rfl rfl
  (jr_aloadn 69 70 rfl rfl rfl
  (jr_aloadn 70 71 rfl rfl rfl
  (jr_gr 71 74 rfl jg_11_88_2 rfl (fun v1 =>
  jr_iloadn 74 75 rfl rfl rfl
  (jr_cVi 75 78 [.int l3] rfl rfl rfl rfl rfl rfl rfl rfl (as := [.ref v1, .int l1]) (F_Mod_isShut_ok (Nat.le_trans (by decide : 6 ≤ 8) hd)) (fun v2 h3 =>
  jr_if_eq 78 88 81 rfl rfl rfl
  (jr_iconst 88 89 (0 : Int32) rfl jc_i_0 rfl
  ((F_Mod_shut_b89_ok hd hk62)))
  (jr_iconst 81 82 (1 : Int32) rfl jc_i_1 rfl
  (jr_iload 82 84 rfl rfl rfl
  (jr_ishl 84 85 rfl rfl
  (jr_goto 85 89 rfl rfl
  ((F_Mod_shut_b89_ok hd hk62)))))))))))))))
noncomputable def F_Mod_shut_l62 : Nat → Nat → Int32 → Int32 → Int32 → Int32 → LH → Option (Int32 × LH)
 | 0, _, _, _, _, _, _ => none
 | n + 1, l0, l1, l2, l3, l4, h => F_Mod_shut_c62 (F_Mod_shut_l62 n) l0 l1 l2 l3 l4 h
theorem F_Mod_shut_l62_ok {d : Nat} {q : (Int32 × LH)} (hd : 8 ≤ d) : ∀ (n : Nat) (l0 : Nat) (l1 : Int32) (l2 : Int32) (l3 : Int32) (l4 : Int32) (h : LH), F_Mod_shut_l62 n l0 l1 l2 l3 l4 h = some q → JR d jM_237 62 [.ref l0, .int l1, .int l2, .int l3, .int l4] [] h (jo_i q)
 | 0 => fun _ _ _ _ _ _ hq => nomatch (show (none : Option (Int32 × LH)) = some q from hq)
 | n + 1 => fun _ _ _ _ _ _ hq => F_Mod_shut_c62_ok hd (F_Mod_shut_l62_ok hd n) hq
noncomputable def F_Mod_shut_b43 (l0 : Nat) (l1 : Int32) (l2 : Int32) (s0 : Nat) (s1 : Int32) (h : LH) : Option (Int32 × LH) :=
 jf_kd h s0 11
 (jf_bi (F_Mod_bad s0 s1 (2 : Int32) (1 : Int32) h) fun v1 h2 =>
 if v1 = 0 then
 jf_kd h2 l0 11
 ((F_Mod_tries l0 h2).bind fun h3 =>
 F_Mod_shut_l62  jF l0 l1 l2 (0 : Int32) (0 : Int32) h3)
else
 F_Mod_shut_b51  h2)
set_option maxRecDepth 100000 in
theorem F_Mod_shut_b43_ok {d : Nat} {q : (Int32 × LH)} (hd : 8 ≤ d) {l0 : Nat} {l1 : Int32} {l2 : Int32} {s0 : Nat} {s1 : Int32} {u3 : Value} {u4 : Value} {h : LH} : F_Mod_shut_b43 l0 l1 l2 s0 s1 h = some q → JR d jM_237 43 [.ref l0, .int l1, .int l2, u3, u4] [.int s1, .ref s0] h (jo_i q) := by
 unfold F_Mod_shut_b43
 exact jr_iconst 43 44 (2 : Int32) rfl jc_i_2 rfl
  (jr_iconst 44 45 (1 : Int32) rfl jc_i_1 rfl
  (jr_cVi 45 48 [] rfl rfl rfl rfl rfl rfl rfl rfl (as := [.int s1, .int (2 : Int32), .int (1 : Int32)]) (F_Mod_bad_ok (Nat.le_trans (by decide : 1 ≤ 8) hd)) (fun v1 h2 =>
  jr_if_eq 48 53 51 rfl rfl rfl
  (jr_iconst 53 54 (0 : Int32) rfl jc_i_0 rfl
  (jr_istoren 54 55 [.ref l0, .int l1, .int l2, .int (0 : Int32), u4] rfl rfl rfl rfl
  (jr_aloadn 55 56 rfl rfl rfl
  (jr_cVv 56 59 [] rfl rfl rfl rfl rfl rfl rfl rfl (as := []) (F_Mod_tries_ok (Nat.le_trans (by decide : 2 ≤ 8) hd)) (fun h3 =>
  jr_iconst 59 60 (0 : Int32) rfl jc_i_0 rfl
  (jr_istore 60 62 [.ref l0, .int l1, .int l2, .int (0 : Int32), .int (0 : Int32)] rfl rfl rfl rfl
  ((F_Mod_shut_l62_ok hd  jF _ _ _ _ _ _))))))))
  ((F_Mod_shut_b51_ok hd )))))
noncomputable def F_Mod_shut_b19 (l0 : Nat) (l1 : Int32) (l2 : Int32) (s0 : Nat) (s1 : Int32) (h : LH) : Option (Int32 × LH) :=
 jf_kd h s0 11
 (jf_bi (F_Mod_bad s0 s1 (1 : Int32) (0 : Int32) h) fun v1 h2 =>
 if v1 = 0 then
 jf_bi (F_Mod_in l2 (0 : Int32) (30 : Int32) h2) fun v3 h4 =>
 if v3 = 0 then
 F_Mod_shut_b43  l0 l1 l2 l0 (1 : Int32) h4
else
 F_Mod_shut_b43  l0 l1 l2 l0 (0 : Int32) h4
else
 F_Mod_shut_b51  h2)
set_option maxRecDepth 100000 in
theorem F_Mod_shut_b19_ok {d : Nat} {q : (Int32 × LH)} (hd : 8 ≤ d) {l0 : Nat} {l1 : Int32} {l2 : Int32} {s0 : Nat} {s1 : Int32} {u3 : Value} {u4 : Value} {h : LH} : F_Mod_shut_b19 l0 l1 l2 s0 s1 h = some q → JR d jM_237 19 [.ref l0, .int l1, .int l2, u3, u4] [.int s1, .ref s0] h (jo_i q) := by
 unfold F_Mod_shut_b19
 exact jr_iconst 19 20 (1 : Int32) rfl jc_i_1 rfl
  (jr_iconst 20 21 (0 : Int32) rfl jc_i_0 rfl
  (jr_cVi 21 24 [] rfl rfl rfl rfl rfl rfl rfl rfl (as := [.int s1, .int (1 : Int32), .int (0 : Int32)]) (F_Mod_bad_ok (Nat.le_trans (by decide : 1 ≤ 8) hd)) (fun v1 h2 =>
  jr_if_ne 24 51 27 rfl rfl rfl
  ((F_Mod_shut_b51_ok hd ))
  (jr_aloadn 27 28 rfl rfl rfl
  (jr_iloadn 28 29 rfl rfl rfl
  (jr_iconst 29 30 (0 : Int32) rfl jc_i_0 rfl
  (jr_bipush 30 32 (30 : Int32) rfl jc_b_30 rfl
  (jr_cSi 32 35 [.ref l0] rfl rfl rfl rfl rfl rfl rfl (as := [.int l2, .int (0 : Int32), .int (30 : Int32)]) (F_Mod_in_ok (Nat.le_trans (by decide : 1 ≤ 8) hd)) (fun v3 h4 =>
  jr_if_ne 35 42 38 rfl rfl rfl
  (jr_iconst 42 43 (0 : Int32) rfl jc_i_0 rfl
  ((F_Mod_shut_b43_ok hd )))
  (jr_iconst 38 39 (1 : Int32) rfl jc_i_1 rfl
  (jr_goto 39 43 rfl rfl
  ((F_Mod_shut_b43_ok hd )))))))))))))
noncomputable def F_Mod_shut (l0 : Nat) (l1 : Int32) (l2 : Int32) (h : LH) : Option (Int32 × LH) :=
 jf_pi h l0 11 0 (0 : Int32) fun h1 =>
 jf_kd h1 l0 11
 (jf_bi (F_Mod_isGate l0 l1 h1) fun v2 h3 =>
 if v2 = 0 then
 F_Mod_shut_b19  l0 l1 l2 l0 (1 : Int32) h3
else
 F_Mod_shut_b19  l0 l1 l2 l0 (0 : Int32) h3)
set_option maxRecDepth 100000 in
theorem F_Mod_shut_ok {d : Nat} (hd : 9 ≤ d) {l0 : Nat} {l1 : Int32} {l2 : Int32} {h : LH} {q : (Int32 × LH)} : F_Mod_shut l0 l1 l2 h = some q → jl_Sem jt_T jt_Ms d 237 [.ref l0, .int l1, .int l2] h (jo_i q) := by
 unfold F_Mod_shut
 exact jr_enter (D := 8) hd jM_237_at rfl rfl rfl (fun d hd =>
  jr_aloadn 0 1 rfl rfl rfl
  (jr_iconst 1 2 (0 : Int32) rfl jc_i_0 rfl
  (jr_pi 2 5 rfl jg_11_109_3 rfl (fun h1 =>
  jr_aloadn 5 6 rfl rfl rfl
  (jr_aloadn 6 7 rfl rfl rfl
  (jr_iloadn 7 8 rfl rfl rfl
  (jr_cVi 8 11 [.ref l0] rfl rfl rfl rfl rfl rfl rfl rfl (as := [.int l1]) (F_Mod_isGate_ok (Nat.le_trans (by decide : 2 ≤ 8) hd)) (fun v2 h3 =>
  jr_if_ne 11 18 14 rfl rfl rfl
  (jr_iconst 18 19 (0 : Int32) rfl jc_i_0 rfl
  ((F_Mod_shut_b19_ok hd )))
  (jr_iconst 14 15 (1 : Int32) rfl jc_i_1 rfl
  (jr_goto 15 19 rfl rfl
  ((F_Mod_shut_b19_ok hd ))))))))))))
noncomputable def jM_239 : JMeth := (11, false, 2, jk_239, [], 7)
set_option maxRecDepth 100000 in
theorem jM_239_at : jt_Ms 239 = some jM_239 := rfl
noncomputable def F_Mod_isKept_c16 (k7 : Nat → Int32 → Int32 → Int32 → Int32 → Int32 → LH → Option (Int32 × LH)) (k16 : Nat → Int32 → Int32 → Int32 → Int32 → Int32 → Int32 → LH → Option (Int32 × LH)) (l0 : Nat) (l1 : Int32) (l2 : Int32) (l3 : Int32) (l4 : Int32) (l5 : Int32) (l6 : Int32) (h : LH) : Option (Int32 × LH) :=
 jf_gr h l0 11 47 fun v1 =>
 jf_ia h v1 l5 fun v2 =>
 if l6 < v2 then
 jf_gr h l0 11 36 fun v10 =>
 jf_kd h l0 11
 (jf_bi (F_Mod_laysOn l0 v10 l1 l2 h) fun v11 h12 =>
 if v11 = 0 then
 jf_rz (0 : Int32) (some ((0 : Int32), h12))
else
 k16 l0 l1 l2 l3 l4 l5 (l6 + (1 : Int32)) h12)
else
 jf_gr h l0 11 36 fun v3 =>
 jf_kd h l0 11
 (jf_bi (F_Mod_isShut l0 v3 l1 h) fun v4 h5 =>
 jf_bi (F_Mod_has l4 l5 h5) fun v6 h7 =>
 if v4 = v6 then
 jf_gr h7 l0 11 36 fun v8 =>
 jf_kd h7 l0 11
 ((F_Mod_hourEnds l0 v8 h7).bind fun h9 =>
 k7 l0 l1 l2 l3 l4 (l5 + (1 : Int32)) h9)
else
 jf_rz (0 : Int32) (some ((0 : Int32), h7)))
set_option maxRecDepth 100000 in
theorem F_Mod_isKept_c16_ok {d : Nat} {q : (Int32 × LH)} {k7 : Nat → Int32 → Int32 → Int32 → Int32 → Int32 → LH → Option (Int32 × LH)} {k16 : Nat → Int32 → Int32 → Int32 → Int32 → Int32 → Int32 → LH → Option (Int32 × LH)} (hd : 8 ≤ d) (hk7 : ∀ (l0 : Nat) (l1 : Int32) (l2 : Int32) (l3 : Int32) (l4 : Int32) (l5 : Int32) (u6 : Value) (h : LH), k7 l0 l1 l2 l3 l4 l5 h = some q → JR d jM_239 7 [.ref l0, .int l1, .int l2, .int l3, .int l4, .int l5, u6] [] h (jo_i q)) (hk16 : ∀ (l0 : Nat) (l1 : Int32) (l2 : Int32) (l3 : Int32) (l4 : Int32) (l5 : Int32) (l6 : Int32) (h : LH), k16 l0 l1 l2 l3 l4 l5 l6 h = some q → JR d jM_239 16 [.ref l0, .int l1, .int l2, .int l3, .int l4, .int l5, .int l6] [] h (jo_i q)) {l0 : Nat} {l1 : Int32} {l2 : Int32} {l3 : Int32} {l4 : Int32} {l5 : Int32} {l6 : Int32} {h : LH} : F_Mod_isKept_c16 k7 k16 l0 l1 l2 l3 l4 l5 l6 h = some q → JR d jM_239 16 [.ref l0, .int l1, .int l2, .int l3, .int l4, .int l5, .int l6] [] h (jo_i q) := by
 unfold F_Mod_isKept_c16
 exact jr_iload 16 18 rfl rfl rfl
  (jr_aloadn 18 19 rfl rfl rfl
  (jr_gr 19 22 rfl jg_11_97_2 rfl (fun v1 =>
  jr_iload 22 24 rfl rfl rfl
  (jr_ia 24 25 rfl rfl (fun v2 =>
  jr_icmp_ge 25 49 28 rfl rfl rfl
  (jr_aloadn 49 50 rfl rfl rfl
  (jr_aloadn 50 51 rfl rfl rfl
  (jr_gr 51 54 rfl jg_11_88_2 rfl (fun v3 =>
  jr_iloadn 54 55 rfl rfl rfl
  (jr_cVi 55 58 [] rfl rfl rfl rfl rfl rfl rfl rfl (as := [.ref v3, .int l1]) (F_Mod_isShut_ok (Nat.le_trans (by decide : 6 ≤ 8) hd)) (fun v4 h5 =>
  jr_iload 58 60 rfl rfl rfl
  (jr_iload 60 62 rfl rfl rfl
  (jr_cSi 62 65 [.int v4] rfl rfl rfl rfl rfl rfl rfl (as := [.int l4, .int l5]) (F_Mod_has_ok (Nat.le_trans (by decide : 1 ≤ 8) hd)) (fun v6 h7 =>
  jr_icmp_eq 65 70 68 rfl rfl rfl
  (jr_aloadn 70 71 rfl rfl rfl
  (jr_aloadn 71 72 rfl rfl rfl
  (jr_gr 72 75 rfl jg_11_88_2 rfl (fun v8 =>
  jr_cVv 75 78 [] rfl rfl rfl rfl rfl rfl rfl rfl (as := [.ref v8]) (F_Mod_hourEnds_ok (Nat.le_trans (by decide : 8 ≤ 8) hd)) (fun h9 =>
  jr_iinc 78 81 [.ref l0, .int l1, .int l2, .int l3, .int l4, .int (l5 + (1 : Int32)), .int l6] rfl jc_i_1 rfl rfl rfl rfl
  (jr_goto 81 7 rfl rfl
  ((hk7 _ _ _ _ _ _ _ _))))))))
  (jr_iconst 68 69 (0 : Int32) rfl jc_i_0 rfl
  (jr_rz 69 rfl rfl)))))))))))
  (jr_aloadn 28 29 rfl rfl rfl
  (jr_aloadn 29 30 rfl rfl rfl
  (jr_gr 30 33 rfl jg_11_88_2 rfl (fun v10 =>
  jr_iloadn 33 34 rfl rfl rfl
  (jr_iloadn 34 35 rfl rfl rfl
  (jr_cVi 35 38 [] rfl rfl rfl rfl rfl rfl rfl rfl (as := [.ref v10, .int l1, .int l2]) (F_Mod_laysOn_ok (Nat.le_trans (by decide : 1 ≤ 8) hd)) (fun v11 h12 =>
  jr_if_ne 38 43 41 rfl rfl rfl
  (jr_iinc 43 46 [.ref l0, .int l1, .int l2, .int l3, .int l4, .int l5, .int (l6 + (1 : Int32))] rfl jc_i_1 rfl rfl rfl rfl
  (jr_goto 46 16 rfl rfl
  ((hk16 _ _ _ _ _ _ _ _))))
  (jr_iconst 41 42 (0 : Int32) rfl jc_i_0 rfl
  (jr_rz 42 rfl rfl))))))))))))))
noncomputable def F_Mod_isKept_l16 (k7 : Nat → Int32 → Int32 → Int32 → Int32 → Int32 → LH → Option (Int32 × LH)) : Nat → Nat → Int32 → Int32 → Int32 → Int32 → Int32 → Int32 → LH → Option (Int32 × LH)
 | 0, _, _, _, _, _, _, _, _ => none
 | n + 1, l0, l1, l2, l3, l4, l5, l6, h => F_Mod_isKept_c16 k7 (F_Mod_isKept_l16 k7 n) l0 l1 l2 l3 l4 l5 l6 h
theorem F_Mod_isKept_l16_ok {d : Nat} {q : (Int32 × LH)} {k7 : Nat → Int32 → Int32 → Int32 → Int32 → Int32 → LH → Option (Int32 × LH)} (hd : 8 ≤ d) (hk7 : ∀ (l0 : Nat) (l1 : Int32) (l2 : Int32) (l3 : Int32) (l4 : Int32) (l5 : Int32) (u6 : Value) (h : LH), k7 l0 l1 l2 l3 l4 l5 h = some q → JR d jM_239 7 [.ref l0, .int l1, .int l2, .int l3, .int l4, .int l5, u6] [] h (jo_i q)) : ∀ (n : Nat) (l0 : Nat) (l1 : Int32) (l2 : Int32) (l3 : Int32) (l4 : Int32) (l5 : Int32) (l6 : Int32) (h : LH), F_Mod_isKept_l16 k7 n l0 l1 l2 l3 l4 l5 l6 h = some q → JR d jM_239 16 [.ref l0, .int l1, .int l2, .int l3, .int l4, .int l5, .int l6] [] h (jo_i q)
 | 0 => fun _ _ _ _ _ _ _ _ hq => nomatch (show (none : Option (Int32 × LH)) = some q from hq)
 | n + 1 => fun _ _ _ _ _ _ _ _ hq => F_Mod_isKept_c16_ok hd hk7 (F_Mod_isKept_l16_ok hd hk7 n) hq
noncomputable def F_Mod_isKept_c7 (k7 : Nat → Int32 → Int32 → Int32 → Int32 → Int32 → LH → Option (Int32 × LH)) (l0 : Nat) (l1 : Int32) (l2 : Int32) (l3 : Int32) (l4 : Int32) (l5 : Int32) (h : LH) : Option (Int32 × LH) :=
 if l5 < l3 then
 F_Mod_isKept_l16 k7 jF l0 l1 l2 l3 l4 l5 (0 : Int32) h
else
 jf_rz (1 : Int32) (some ((1 : Int32), h))
set_option maxRecDepth 100000 in
theorem F_Mod_isKept_c7_ok {d : Nat} {q : (Int32 × LH)} {k7 : Nat → Int32 → Int32 → Int32 → Int32 → Int32 → LH → Option (Int32 × LH)} (hd : 8 ≤ d) (hk7 : ∀ (l0 : Nat) (l1 : Int32) (l2 : Int32) (l3 : Int32) (l4 : Int32) (l5 : Int32) (u6 : Value) (h : LH), k7 l0 l1 l2 l3 l4 l5 h = some q → JR d jM_239 7 [.ref l0, .int l1, .int l2, .int l3, .int l4, .int l5, u6] [] h (jo_i q)) {l0 : Nat} {l1 : Int32} {l2 : Int32} {l3 : Int32} {l4 : Int32} {l5 : Int32} {u6 : Value} {h : LH} : F_Mod_isKept_c7 k7 l0 l1 l2 l3 l4 l5 h = some q → JR d jM_239 7 [.ref l0, .int l1, .int l2, .int l3, .int l4, .int l5, u6] [] h (jo_i q) := by
 unfold F_Mod_isKept_c7
 exact jr_iload 7 9 rfl rfl rfl
  (jr_iloadn 9 10 rfl rfl rfl
  (jr_icmp_ge 10 84 13 rfl rfl rfl
  (jr_iconst 84 85 (1 : Int32) rfl jc_i_1 rfl
  (jr_rz 85 rfl rfl))
  (jr_iconst 13 14 (0 : Int32) rfl jc_i_0 rfl
  (jr_istore 14 16 [.ref l0, .int l1, .int l2, .int l3, .int l4, .int l5, .int (0 : Int32)] rfl rfl rfl rfl
  ((F_Mod_isKept_l16_ok hd hk7 jF _ _ _ _ _ _ _ _))))))
noncomputable def F_Mod_isKept_l7 : Nat → Nat → Int32 → Int32 → Int32 → Int32 → Int32 → LH → Option (Int32 × LH)
 | 0, _, _, _, _, _, _, _ => none
 | n + 1, l0, l1, l2, l3, l4, l5, h => F_Mod_isKept_c7 (F_Mod_isKept_l7 n) l0 l1 l2 l3 l4 l5 h
theorem F_Mod_isKept_l7_ok {d : Nat} {q : (Int32 × LH)} (hd : 8 ≤ d) : ∀ (n : Nat) (l0 : Nat) (l1 : Int32) (l2 : Int32) (l3 : Int32) (l4 : Int32) (l5 : Int32) (u6 : Value) (h : LH), F_Mod_isKept_l7 n l0 l1 l2 l3 l4 l5 h = some q → JR d jM_239 7 [.ref l0, .int l1, .int l2, .int l3, .int l4, .int l5, u6] [] h (jo_i q)
 | 0 => fun _ _ _ _ _ _ _ _ hq => nomatch (show (none : Option (Int32 × LH)) = some q from hq)
 | n + 1 => fun _ _ _ _ _ _ _ _ hq => F_Mod_isKept_c7_ok hd (F_Mod_isKept_l7_ok hd n) hq
noncomputable def F_Mod_isKept (l0 : Nat) (l1 : Int32) (l2 : Int32) (l3 : Int32) (l4 : Int32) (h : LH) : Option (Int32 × LH) :=
 jf_kd h l0 11
 ((F_Mod_tries l0 h).bind fun h1 =>
 F_Mod_isKept_l7  jF l0 l1 l2 l3 l4 (0 : Int32) h1)
set_option maxRecDepth 100000 in
theorem F_Mod_isKept_ok {d : Nat} (hd : 9 ≤ d) {l0 : Nat} {l1 : Int32} {l2 : Int32} {l3 : Int32} {l4 : Int32} {h : LH} {q : (Int32 × LH)} : F_Mod_isKept l0 l1 l2 l3 l4 h = some q → jl_Sem jt_T jt_Ms d 239 [.ref l0, .int l1, .int l2, .int l3, .int l4] h (jo_i q) := by
 unfold F_Mod_isKept
 exact jr_enter (D := 8) hd jM_239_at rfl rfl rfl (fun d hd =>
  jr_aloadn 0 1 rfl rfl rfl
  (jr_cVv 1 4 [] rfl rfl rfl rfl rfl rfl rfl rfl (as := []) (F_Mod_tries_ok (Nat.le_trans (by decide : 2 ≤ 8) hd)) (fun h1 =>
  jr_iconst 4 5 (0 : Int32) rfl jc_i_0 rfl
  (jr_istore 5 7 [.ref l0, .int l1, .int l2, .int l3, .int l4, .int (0 : Int32), .retAddr 0] rfl rfl rfl rfl
  ((F_Mod_isKept_l7_ok hd  jF _ _ _ _ _ _ _ _))))))
noncomputable def jM_238 : JMeth := (11, false, 1, jk_238, [], 14)
set_option maxRecDepth 100000 in
theorem jM_238_at : jt_Ms 238 = some jM_238 := rfl
noncomputable def F_Mod_keeps_b90 (h : LH) : Option (Int32 × LH) :=
 some ((0 : Int32), h)
set_option maxRecDepth 100000 in
theorem F_Mod_keeps_b90_ok {d : Nat} {q : (Int32 × LH)} (hd : 9 ≤ d) {u0 : Value} {u1 : Value} {u2 : Value} {u3 : Value} {u4 : Value} {u5 : Value} {u6 : Value} {u7 : Value} {u8 : Value} {u9 : Value} {u10 : Value} {u11 : Value} {u12 : Value} {u13 : Value} {h : LH} : F_Mod_keeps_b90 h = some q → JR d jM_238 90 [u0, u1, u2, u3, u4, u5, u6, u7, u8, u9, u10, u11, u12, u13] [] h (jo_i q) := by
 unfold F_Mod_keeps_b90
 exact jr_iconst 90 91 (0 : Int32) rfl jc_i_0 rfl
  (jr_ri 91 rfl rfl)
noncomputable def F_Mod_keeps_b271 (s0 : Int32) (h : LH) : Option (Int32 × LH) :=
 some (s0, h)
set_option maxRecDepth 100000 in
theorem F_Mod_keeps_b271_ok {d : Nat} {q : (Int32 × LH)} (hd : 9 ≤ d) {s0 : Int32} {u0 : Value} {u1 : Value} {u2 : Value} {u3 : Value} {u4 : Value} {u5 : Value} {u6 : Value} {u7 : Value} {u8 : Value} {u9 : Value} {u10 : Value} {u11 : Value} {u12 : Value} {u13 : Value} {h : LH} : F_Mod_keeps_b271 s0 h = some q → JR d jM_238 271 [u0, u1, u2, u3, u4, u5, u6, u7, u8, u9, u10, u11, u12, u13] [.int s0] h (jo_i q) := by
 unfold F_Mod_keeps_b271
 exact jr_ri 271 rfl rfl
noncomputable def F_Mod_keeps_b253 (k125 : Nat → Int32 → Int32 → Int32 → Int32 → Int32 → Int32 → Int32 → Int32 → Int32 → LH → Option (Int32 × LH)) (l0 : Nat) (l1 : Int32) (l2 : Int32) (l3 : Int32) (l4 : Int32) (l5 : Int32) (l6 : Int32) (l7 : Int32) (l8 : Int32) (l9 : Int32) (h : LH) : Option (Int32 × LH) :=
 k125 l0 l1 l2 l3 l4 l5 l6 l7 l8 (l9 + (1 : Int32)) h
set_option maxRecDepth 100000 in
theorem F_Mod_keeps_b253_ok {d : Nat} {q : (Int32 × LH)} {k125 : Nat → Int32 → Int32 → Int32 → Int32 → Int32 → Int32 → Int32 → Int32 → Int32 → LH → Option (Int32 × LH)} (hd : 9 ≤ d) (hk125 : ∀ (l0 : Nat) (l1 : Int32) (l2 : Int32) (l3 : Int32) (l4 : Int32) (l5 : Int32) (l6 : Int32) (l7 : Int32) (l8 : Int32) (l9 : Int32) (u10 : Value) (u11 : Value) (u12 : Value) (u13 : Value) (h : LH), k125 l0 l1 l2 l3 l4 l5 l6 l7 l8 l9 h = some q → JR d jM_238 125 [.ref l0, .int l1, .int l2, .int l3, .int l4, .int l5, .int l6, .int l7, .int l8, .int l9, u10, u11, u12, u13] [] h (jo_i q)) {l0 : Nat} {l1 : Int32} {l2 : Int32} {l3 : Int32} {l4 : Int32} {l5 : Int32} {l6 : Int32} {l7 : Int32} {l8 : Int32} {l9 : Int32} {u10 : Value} {u11 : Value} {u12 : Value} {u13 : Value} {h : LH} : F_Mod_keeps_b253 k125 l0 l1 l2 l3 l4 l5 l6 l7 l8 l9 h = some q → JR d jM_238 253 [.ref l0, .int l1, .int l2, .int l3, .int l4, .int l5, .int l6, .int l7, .int l8, .int l9, u10, u11, u12, u13] [] h (jo_i q) := by
 unfold F_Mod_keeps_b253
 exact jr_iinc 253 256 [.ref l0, .int l1, .int l2, .int l3, .int l4, .int l5, .int l6, .int l7, .int l8, .int (l9 + (1 : Int32)), u10, u11, u12, u13] rfl jc_i_1 rfl rfl rfl rfl
  (jr_goto 256 125 rfl rfl
  ((hk125 _ _ _ _ _ _ _ _ _ _ _ _ _ _ _)))
noncomputable def F_Mod_keeps_c218 (k125 : Nat → Int32 → Int32 → Int32 → Int32 → Int32 → Int32 → Int32 → Int32 → Int32 → LH → Option (Int32 × LH)) (k218 : Nat → Int32 → Int32 → Int32 → Int32 → Int32 → Int32 → Int32 → Int32 → Int32 → Int32 → LH → Option (Int32 × LH)) (l0 : Nat) (l1 : Int32) (l2 : Int32) (l3 : Int32) (l4 : Int32) (l5 : Int32) (l6 : Int32) (l9 : Int32) (l11 : Int32) (l12 : Int32) (l13 : Int32) (h : LH) : Option (Int32 × LH) :=
 if l13 < l3 then
 jf_gr h l0 11 47 fun v1 =>
 jf_ia h v1 l13 fun v2 =>
 jf_let (((10 : Int32) * l12) + v2) fun v3 =>
 k218 l0 l1 l2 l3 l4 l5 l6 l9 l11 v3 (l13 + (1 : Int32)) h
else
 F_Mod_keeps_b253 k125 l0 l1 l2 l3 l4 l5 l6 l11 l12 l9 h
set_option maxRecDepth 100000 in
theorem F_Mod_keeps_c218_ok {d : Nat} {q : (Int32 × LH)} {k125 : Nat → Int32 → Int32 → Int32 → Int32 → Int32 → Int32 → Int32 → Int32 → Int32 → LH → Option (Int32 × LH)} {k218 : Nat → Int32 → Int32 → Int32 → Int32 → Int32 → Int32 → Int32 → Int32 → Int32 → Int32 → LH → Option (Int32 × LH)} (hd : 9 ≤ d) (hk125 : ∀ (l0 : Nat) (l1 : Int32) (l2 : Int32) (l3 : Int32) (l4 : Int32) (l5 : Int32) (l6 : Int32) (l7 : Int32) (l8 : Int32) (l9 : Int32) (u10 : Value) (u11 : Value) (u12 : Value) (u13 : Value) (h : LH), k125 l0 l1 l2 l3 l4 l5 l6 l7 l8 l9 h = some q → JR d jM_238 125 [.ref l0, .int l1, .int l2, .int l3, .int l4, .int l5, .int l6, .int l7, .int l8, .int l9, u10, u11, u12, u13] [] h (jo_i q)) (hk218 : ∀ (l0 : Nat) (l1 : Int32) (l2 : Int32) (l3 : Int32) (l4 : Int32) (l5 : Int32) (l6 : Int32) (l9 : Int32) (l11 : Int32) (l12 : Int32) (l13 : Int32) (u7 : Value) (u8 : Value) (u10 : Value) (h : LH), k218 l0 l1 l2 l3 l4 l5 l6 l9 l11 l12 l13 h = some q → JR d jM_238 218 [.ref l0, .int l1, .int l2, .int l3, .int l4, .int l5, .int l6, u7, u8, .int l9, u10, .int l11, .int l12, .int l13] [] h (jo_i q)) {l0 : Nat} {l1 : Int32} {l2 : Int32} {l3 : Int32} {l4 : Int32} {l5 : Int32} {l6 : Int32} {l9 : Int32} {l11 : Int32} {l12 : Int32} {l13 : Int32} {u7 : Value} {u8 : Value} {u10 : Value} {h : LH} : F_Mod_keeps_c218 k125 k218 l0 l1 l2 l3 l4 l5 l6 l9 l11 l12 l13 h = some q → JR d jM_238 218 [.ref l0, .int l1, .int l2, .int l3, .int l4, .int l5, .int l6, u7, u8, .int l9, u10, .int l11, .int l12, .int l13] [] h (jo_i q) := by
 unfold F_Mod_keeps_c218
 exact jr_iload 218 220 rfl rfl rfl
  (jr_iloadn 220 221 rfl rfl rfl
  (jr_icmp_ge 221 245 224 rfl rfl rfl
  (jr_iload 245 247 rfl rfl rfl
  (jr_istore 247 249 [.ref l0, .int l1, .int l2, .int l3, .int l4, .int l5, .int l6, .int l11, u8, .int l9, u10, .int l11, .int l12, .int l13] rfl rfl rfl rfl
  (jr_iload 249 251 rfl rfl rfl
  (jr_istore 251 253 [.ref l0, .int l1, .int l2, .int l3, .int l4, .int l5, .int l6, .int l11, .int l12, .int l9, u10, .int l11, .int l12, .int l13] rfl rfl rfl rfl
  ((F_Mod_keeps_b253_ok hd hk125))))))
  (jr_bipush 224 226 (10 : Int32) rfl jc_b_10 rfl
  (jr_iload 226 228 rfl rfl rfl
  (jr_imul 228 229 rfl rfl
  (jr_aloadn 229 230 rfl rfl rfl
  (jr_gr 230 233 rfl jg_11_97_2 rfl (fun v1 =>
  jr_iload 233 235 rfl rfl rfl
  (jr_ia 235 236 rfl rfl (fun v2 =>
  jr_iadd 236 237 rfl rfl
  (jr_istoreL 237 239 (fun v3 => [.ref l0, .int l1, .int l2, .int l3, .int l4, .int l5, .int l6, u7, u8, .int l9, u10, .int l11, .int v3, .int l13]) rfl rfl (fun _ => rfl) rfl (fun v3 =>
  jr_iinc 239 242 [.ref l0, .int l1, .int l2, .int l3, .int l4, .int l5, .int l6, u7, u8, .int l9, u10, .int l11, .int v3, .int (l13 + (1 : Int32))] rfl jc_i_1 rfl rfl rfl rfl
  (jr_goto 242 218 rfl rfl
  ((hk218 _ _ _ _ _ _ _ _ _ _ _ _ _ _ _)))))))))))))))
noncomputable def F_Mod_keeps_l218 (k125 : Nat → Int32 → Int32 → Int32 → Int32 → Int32 → Int32 → Int32 → Int32 → Int32 → LH → Option (Int32 × LH)) : Nat → Nat → Int32 → Int32 → Int32 → Int32 → Int32 → Int32 → Int32 → Int32 → Int32 → Int32 → LH → Option (Int32 × LH)
 | 0, _, _, _, _, _, _, _, _, _, _, _, _ => none
 | n + 1, l0, l1, l2, l3, l4, l5, l6, l9, l11, l12, l13, h => F_Mod_keeps_c218 k125 (F_Mod_keeps_l218 k125 n) l0 l1 l2 l3 l4 l5 l6 l9 l11 l12 l13 h
theorem F_Mod_keeps_l218_ok {d : Nat} {q : (Int32 × LH)} {k125 : Nat → Int32 → Int32 → Int32 → Int32 → Int32 → Int32 → Int32 → Int32 → Int32 → LH → Option (Int32 × LH)} (hd : 9 ≤ d) (hk125 : ∀ (l0 : Nat) (l1 : Int32) (l2 : Int32) (l3 : Int32) (l4 : Int32) (l5 : Int32) (l6 : Int32) (l7 : Int32) (l8 : Int32) (l9 : Int32) (u10 : Value) (u11 : Value) (u12 : Value) (u13 : Value) (h : LH), k125 l0 l1 l2 l3 l4 l5 l6 l7 l8 l9 h = some q → JR d jM_238 125 [.ref l0, .int l1, .int l2, .int l3, .int l4, .int l5, .int l6, .int l7, .int l8, .int l9, u10, u11, u12, u13] [] h (jo_i q)) : ∀ (n : Nat) (l0 : Nat) (l1 : Int32) (l2 : Int32) (l3 : Int32) (l4 : Int32) (l5 : Int32) (l6 : Int32) (l9 : Int32) (l11 : Int32) (l12 : Int32) (l13 : Int32) (u7 : Value) (u8 : Value) (u10 : Value) (h : LH), F_Mod_keeps_l218 k125 n l0 l1 l2 l3 l4 l5 l6 l9 l11 l12 l13 h = some q → JR d jM_238 218 [.ref l0, .int l1, .int l2, .int l3, .int l4, .int l5, .int l6, u7, u8, .int l9, u10, .int l11, .int l12, .int l13] [] h (jo_i q)
 | 0 => fun _ _ _ _ _ _ _ _ _ _ _ _ _ _ _ hq => nomatch (show (none : Option (Int32 × LH)) = some q from hq)
 | n + 1 => fun _ _ _ _ _ _ _ _ _ _ _ _ _ _ _ hq => F_Mod_keeps_c218_ok hd hk125 (F_Mod_keeps_l218_ok hd hk125 n) hq
noncomputable def F_Mod_keeps_b200 (k125 : Nat → Int32 → Int32 → Int32 → Int32 → Int32 → Int32 → Int32 → Int32 → Int32 → LH → Option (Int32 × LH)) (l0 : Nat) (l1 : Int32) (l2 : Int32) (l3 : Int32) (l4 : Int32) (l5 : Int32) (l6 : Int32) (l7 : Int32) (l8 : Int32) (l9 : Int32) (l11 : Int32) (l12 : Int32) (h : LH) : Option (Int32 × LH) :=
 jf_kd h l0 11
 (jf_bi (F_Mod_isKept l0 l1 l2 l3 l4 h) fun v1 h2 =>
 if v1 = 0 then
 F_Mod_keeps_b253 k125 l0 l1 l2 l3 l4 l5 l6 l7 l8 l9 h2
else
 F_Mod_keeps_l218 k125 jF l0 l1 l2 l3 l4 l5 l6 l9 l11 l12 (0 : Int32) h2)
set_option maxRecDepth 100000 in
theorem F_Mod_keeps_b200_ok {d : Nat} {q : (Int32 × LH)} {k125 : Nat → Int32 → Int32 → Int32 → Int32 → Int32 → Int32 → Int32 → Int32 → Int32 → LH → Option (Int32 × LH)} (hd : 9 ≤ d) (hk125 : ∀ (l0 : Nat) (l1 : Int32) (l2 : Int32) (l3 : Int32) (l4 : Int32) (l5 : Int32) (l6 : Int32) (l7 : Int32) (l8 : Int32) (l9 : Int32) (u10 : Value) (u11 : Value) (u12 : Value) (u13 : Value) (h : LH), k125 l0 l1 l2 l3 l4 l5 l6 l7 l8 l9 h = some q → JR d jM_238 125 [.ref l0, .int l1, .int l2, .int l3, .int l4, .int l5, .int l6, .int l7, .int l8, .int l9, u10, u11, u12, u13] [] h (jo_i q)) {l0 : Nat} {l1 : Int32} {l2 : Int32} {l3 : Int32} {l4 : Int32} {l5 : Int32} {l6 : Int32} {l7 : Int32} {l8 : Int32} {l9 : Int32} {l11 : Int32} {l12 : Int32} {u10 : Value} {u13 : Value} {h : LH} : F_Mod_keeps_b200 k125 l0 l1 l2 l3 l4 l5 l6 l7 l8 l9 l11 l12 h = some q → JR d jM_238 200 [.ref l0, .int l1, .int l2, .int l3, .int l4, .int l5, .int l6, .int l7, .int l8, .int l9, u10, .int l11, .int l12, u13] [] h (jo_i q) := by
 unfold F_Mod_keeps_b200
 exact jr_aloadn 200 201 rfl rfl rfl
  (jr_iloadn 201 202 rfl rfl rfl
  (jr_iloadn 202 203 rfl rfl rfl
  (jr_iloadn 203 204 rfl rfl rfl
  (jr_iload 204 206 rfl rfl rfl
  (jr_cVi 206 209 [] rfl rfl rfl rfl rfl rfl rfl rfl (as := [.int l1, .int l2, .int l3, .int l4]) (F_Mod_isKept_ok (Nat.le_trans (by decide : 9 ≤ 9) hd)) (fun v1 h2 =>
  jr_if_ne 209 215 212 rfl rfl rfl
  (jr_iconst 215 216 (0 : Int32) rfl jc_i_0 rfl
  (jr_istore 216 218 [.ref l0, .int l1, .int l2, .int l3, .int l4, .int l5, .int l6, .int l7, .int l8, .int l9, u10, .int l11, .int l12, .int (0 : Int32)] rfl rfl rfl rfl
  ((F_Mod_keeps_l218_ok hd hk125 jF _ _ _ _ _ _ _ _ _ _ _ _ _ _ _))))
  (jr_goto 212 253 rfl rfl
  ((F_Mod_keeps_b253_ok hd hk125)))))))))
noncomputable def F_Mod_keeps_c147 (k125 : Nat → Int32 → Int32 → Int32 → Int32 → Int32 → Int32 → Int32 → Int32 → Int32 → LH → Option (Int32 × LH)) (k147 : Nat → Int32 → Int32 → Int32 → Int32 → Int32 → Int32 → Int32 → Int32 → Int32 → Int32 → Int32 → Int32 → Int32 → LH → Option (Int32 × LH)) (l0 : Nat) (l1 : Int32) (l2 : Int32) (l3 : Int32) (l4 : Int32) (l5 : Int32) (l6 : Int32) (l7 : Int32) (l8 : Int32) (l9 : Int32) (l10 : Int32) (l11 : Int32) (l12 : Int32) (l13 : Int32) (h : LH) : Option (Int32 × LH) :=
 if l13 < 0 then
 if l7 = (-1 : Int32) then
 F_Mod_keeps_b200 k125 l0 l1 l2 l3 l4 l5 l6 l7 l8 l9 l11 l12 h
else
 if l11 < l7 then
 F_Mod_keeps_b200 k125 l0 l1 l2 l3 l4 l5 l6 l7 l8 l9 l11 l12 h
else
 F_Mod_keeps_b253 k125 l0 l1 l2 l3 l4 l5 l6 l7 l8 l9 h
else
 jf_gr h l0 11 47 fun v1 =>
 jf_dv (3 : Int32) (l10 - l10 / (3 : Int32) * (3 : Int32)) fun v2 =>
 jf_is h v1 l13 v2 fun h3 =>
 jf_gr h3 l0 11 47 fun v4 =>
 jf_ia h3 v4 l13 fun v5 =>
 jf_let (l11 + v5) fun v6 =>
 jf_dv (3 : Int32) (l10 / (3 : Int32)) fun v7 =>
 k147 l0 l1 l2 l3 l4 l5 l6 l7 l8 l9 v7 v6 l12 (l13 + (-1 : Int32)) h3
set_option maxRecDepth 100000 in
theorem F_Mod_keeps_c147_ok {d : Nat} {q : (Int32 × LH)} {k125 : Nat → Int32 → Int32 → Int32 → Int32 → Int32 → Int32 → Int32 → Int32 → Int32 → LH → Option (Int32 × LH)} {k147 : Nat → Int32 → Int32 → Int32 → Int32 → Int32 → Int32 → Int32 → Int32 → Int32 → Int32 → Int32 → Int32 → Int32 → LH → Option (Int32 × LH)} (hd : 9 ≤ d) (hk125 : ∀ (l0 : Nat) (l1 : Int32) (l2 : Int32) (l3 : Int32) (l4 : Int32) (l5 : Int32) (l6 : Int32) (l7 : Int32) (l8 : Int32) (l9 : Int32) (u10 : Value) (u11 : Value) (u12 : Value) (u13 : Value) (h : LH), k125 l0 l1 l2 l3 l4 l5 l6 l7 l8 l9 h = some q → JR d jM_238 125 [.ref l0, .int l1, .int l2, .int l3, .int l4, .int l5, .int l6, .int l7, .int l8, .int l9, u10, u11, u12, u13] [] h (jo_i q)) (hk147 : ∀ (l0 : Nat) (l1 : Int32) (l2 : Int32) (l3 : Int32) (l4 : Int32) (l5 : Int32) (l6 : Int32) (l7 : Int32) (l8 : Int32) (l9 : Int32) (l10 : Int32) (l11 : Int32) (l12 : Int32) (l13 : Int32) (h : LH), k147 l0 l1 l2 l3 l4 l5 l6 l7 l8 l9 l10 l11 l12 l13 h = some q → JR d jM_238 147 [.ref l0, .int l1, .int l2, .int l3, .int l4, .int l5, .int l6, .int l7, .int l8, .int l9, .int l10, .int l11, .int l12, .int l13] [] h (jo_i q)) {l0 : Nat} {l1 : Int32} {l2 : Int32} {l3 : Int32} {l4 : Int32} {l5 : Int32} {l6 : Int32} {l7 : Int32} {l8 : Int32} {l9 : Int32} {l10 : Int32} {l11 : Int32} {l12 : Int32} {l13 : Int32} {h : LH} : F_Mod_keeps_c147 k125 k147 l0 l1 l2 l3 l4 l5 l6 l7 l8 l9 l10 l11 l12 l13 h = some q → JR d jM_238 147 [.ref l0, .int l1, .int l2, .int l3, .int l4, .int l5, .int l6, .int l7, .int l8, .int l9, .int l10, .int l11, .int l12, .int l13] [] h (jo_i q) := by
 unfold F_Mod_keeps_c147
 exact jr_iload 147 149 rfl rfl rfl
  (jr_if_lt 149 187 152 rfl rfl rfl
  (jr_iload 187 189 rfl rfl rfl
  (jr_iconst 189 190 (-1 : Int32) rfl jc_i_m1 rfl
  (jr_icmp_eq 190 200 193 rfl rfl rfl
  ((F_Mod_keeps_b200_ok hd hk125))
  (jr_iload 193 195 rfl rfl rfl
  (jr_iload 195 197 rfl rfl rfl
  (jr_icmp_ge 197 253 200 rfl rfl rfl
  ((F_Mod_keeps_b253_ok hd hk125))
  ((F_Mod_keeps_b200_ok hd hk125))))))))
  (jr_aloadn 152 153 rfl rfl rfl
  (jr_gr 153 156 rfl jg_11_97_2 rfl (fun v1 =>
  jr_iload 156 158 rfl rfl rfl
  (jr_iload 158 160 rfl rfl rfl
  (jr_iconst 160 161 (3 : Int32) rfl jc_i_3 rfl
  (jr_irem 161 162 rfl rfl (fun v2 =>
  jr_is 162 163 rfl rfl (fun h3 =>
  jr_iload 163 165 rfl rfl rfl
  (jr_aloadn 165 166 rfl rfl rfl
  (jr_gr 166 169 rfl jg_11_97_2 rfl (fun v4 =>
  jr_iload 169 171 rfl rfl rfl
  (jr_ia 171 172 rfl rfl (fun v5 =>
  jr_iadd 172 173 rfl rfl
  (jr_istoreL 173 175 (fun v6 => [.ref l0, .int l1, .int l2, .int l3, .int l4, .int l5, .int l6, .int l7, .int l8, .int l9, .int l10, .int v6, .int l12, .int l13]) rfl rfl (fun _ => rfl) rfl (fun v6 =>
  jr_iload 175 177 rfl rfl rfl
  (jr_iconst 177 178 (3 : Int32) rfl jc_i_3 rfl
  (jr_idiv 178 179 rfl rfl (fun v7 =>
  jr_istore 179 181 [.ref l0, .int l1, .int l2, .int l3, .int l4, .int l5, .int l6, .int l7, .int l8, .int l9, .int v7, .int v6, .int l12, .int l13] rfl rfl rfl rfl
  (jr_iinc 181 184 [.ref l0, .int l1, .int l2, .int l3, .int l4, .int l5, .int l6, .int l7, .int l8, .int l9, .int v7, .int v6, .int l12, .int (l13 + (-1 : Int32))] rfl jc_i_m1 rfl rfl rfl rfl
  (jr_goto 184 147 rfl rfl
  ((hk147 _ _ _ _ _ _ _ _ _ _ _ _ _ _ _)))))))))))))))))))))))
noncomputable def F_Mod_keeps_l147 (k125 : Nat → Int32 → Int32 → Int32 → Int32 → Int32 → Int32 → Int32 → Int32 → Int32 → LH → Option (Int32 × LH)) : Nat → Nat → Int32 → Int32 → Int32 → Int32 → Int32 → Int32 → Int32 → Int32 → Int32 → Int32 → Int32 → Int32 → Int32 → LH → Option (Int32 × LH)
 | 0, _, _, _, _, _, _, _, _, _, _, _, _, _, _, _ => none
 | n + 1, l0, l1, l2, l3, l4, l5, l6, l7, l8, l9, l10, l11, l12, l13, h => F_Mod_keeps_c147 k125 (F_Mod_keeps_l147 k125 n) l0 l1 l2 l3 l4 l5 l6 l7 l8 l9 l10 l11 l12 l13 h
theorem F_Mod_keeps_l147_ok {d : Nat} {q : (Int32 × LH)} {k125 : Nat → Int32 → Int32 → Int32 → Int32 → Int32 → Int32 → Int32 → Int32 → Int32 → LH → Option (Int32 × LH)} (hd : 9 ≤ d) (hk125 : ∀ (l0 : Nat) (l1 : Int32) (l2 : Int32) (l3 : Int32) (l4 : Int32) (l5 : Int32) (l6 : Int32) (l7 : Int32) (l8 : Int32) (l9 : Int32) (u10 : Value) (u11 : Value) (u12 : Value) (u13 : Value) (h : LH), k125 l0 l1 l2 l3 l4 l5 l6 l7 l8 l9 h = some q → JR d jM_238 125 [.ref l0, .int l1, .int l2, .int l3, .int l4, .int l5, .int l6, .int l7, .int l8, .int l9, u10, u11, u12, u13] [] h (jo_i q)) : ∀ (n : Nat) (l0 : Nat) (l1 : Int32) (l2 : Int32) (l3 : Int32) (l4 : Int32) (l5 : Int32) (l6 : Int32) (l7 : Int32) (l8 : Int32) (l9 : Int32) (l10 : Int32) (l11 : Int32) (l12 : Int32) (l13 : Int32) (h : LH), F_Mod_keeps_l147 k125 n l0 l1 l2 l3 l4 l5 l6 l7 l8 l9 l10 l11 l12 l13 h = some q → JR d jM_238 147 [.ref l0, .int l1, .int l2, .int l3, .int l4, .int l5, .int l6, .int l7, .int l8, .int l9, .int l10, .int l11, .int l12, .int l13] [] h (jo_i q)
 | 0 => fun _ _ _ _ _ _ _ _ _ _ _ _ _ _ _ hq => nomatch (show (none : Option (Int32 × LH)) = some q from hq)
 | n + 1 => fun _ _ _ _ _ _ _ _ _ _ _ _ _ _ _ hq => F_Mod_keeps_c147_ok hd hk125 (F_Mod_keeps_l147_ok hd hk125 n) hq
noncomputable def F_Mod_keeps_c125 (k125 : Nat → Int32 → Int32 → Int32 → Int32 → Int32 → Int32 → Int32 → Int32 → Int32 → LH → Option (Int32 × LH)) (l0 : Nat) (l1 : Int32) (l2 : Int32) (l3 : Int32) (l4 : Int32) (l5 : Int32) (l6 : Int32) (l7 : Int32) (l8 : Int32) (l9 : Int32) (h : LH) : Option (Int32 × LH) :=
 if l9 < l6 then
 jf_let (l3 - (1 : Int32)) fun v1 =>
 F_Mod_keeps_l147 k125 jF l0 l1 l2 l3 l4 l5 l6 l7 l8 l9 l9 (0 : Int32) (0 : Int32) v1 h
else
 if l5 = 0 then
 F_Mod_keeps_b271  l7 h
else
 F_Mod_keeps_b271  l8 h
set_option maxRecDepth 100000 in
theorem F_Mod_keeps_c125_ok {d : Nat} {q : (Int32 × LH)} {k125 : Nat → Int32 → Int32 → Int32 → Int32 → Int32 → Int32 → Int32 → Int32 → Int32 → LH → Option (Int32 × LH)} (hd : 9 ≤ d) (hk125 : ∀ (l0 : Nat) (l1 : Int32) (l2 : Int32) (l3 : Int32) (l4 : Int32) (l5 : Int32) (l6 : Int32) (l7 : Int32) (l8 : Int32) (l9 : Int32) (u10 : Value) (u11 : Value) (u12 : Value) (u13 : Value) (h : LH), k125 l0 l1 l2 l3 l4 l5 l6 l7 l8 l9 h = some q → JR d jM_238 125 [.ref l0, .int l1, .int l2, .int l3, .int l4, .int l5, .int l6, .int l7, .int l8, .int l9, u10, u11, u12, u13] [] h (jo_i q)) {l0 : Nat} {l1 : Int32} {l2 : Int32} {l3 : Int32} {l4 : Int32} {l5 : Int32} {l6 : Int32} {l7 : Int32} {l8 : Int32} {l9 : Int32} {u10 : Value} {u11 : Value} {u12 : Value} {u13 : Value} {h : LH} : F_Mod_keeps_c125 k125 l0 l1 l2 l3 l4 l5 l6 l7 l8 l9 h = some q → JR d jM_238 125 [.ref l0, .int l1, .int l2, .int l3, .int l4, .int l5, .int l6, .int l7, .int l8, .int l9, u10, u11, u12, u13] [] h (jo_i q) := by
 unfold F_Mod_keeps_c125
 exact jr_iload 125 127 rfl rfl rfl
  (jr_iload 127 129 rfl rfl rfl
  (jr_icmp_ge 129 259 132 rfl rfl rfl
  (jr_iload 259 261 rfl rfl rfl
  (jr_if_ne 261 269 264 rfl rfl rfl
  (jr_iload 269 271 rfl rfl rfl
  ((F_Mod_keeps_b271_ok hd )))
  (jr_iload 264 266 rfl rfl rfl
  (jr_goto 266 271 rfl rfl
  ((F_Mod_keeps_b271_ok hd ))))))
  (jr_iload 132 134 rfl rfl rfl
  (jr_istore 134 136 [.ref l0, .int l1, .int l2, .int l3, .int l4, .int l5, .int l6, .int l7, .int l8, .int l9, .int l9, u11, u12, u13] rfl rfl rfl rfl
  (jr_iconst 136 137 (0 : Int32) rfl jc_i_0 rfl
  (jr_istore 137 139 [.ref l0, .int l1, .int l2, .int l3, .int l4, .int l5, .int l6, .int l7, .int l8, .int l9, .int l9, .int (0 : Int32), u12, u13] rfl rfl rfl rfl
  (jr_iconst 139 140 (0 : Int32) rfl jc_i_0 rfl
  (jr_istore 140 142 [.ref l0, .int l1, .int l2, .int l3, .int l4, .int l5, .int l6, .int l7, .int l8, .int l9, .int l9, .int (0 : Int32), .int (0 : Int32), u13] rfl rfl rfl rfl
  (jr_iloadn 142 143 rfl rfl rfl
  (jr_iconst 143 144 (1 : Int32) rfl jc_i_1 rfl
  (jr_isub 144 145 rfl rfl
  (jr_istoreL 145 147 (fun v1 => [.ref l0, .int l1, .int l2, .int l3, .int l4, .int l5, .int l6, .int l7, .int l8, .int l9, .int l9, .int (0 : Int32), .int (0 : Int32), .int v1]) rfl rfl (fun _ => rfl) rfl (fun v1 =>
  (F_Mod_keeps_l147_ok hd hk125 jF _ _ _ _ _ _ _ _ _ _ _ _ _ _ _))))))))))))))
noncomputable def F_Mod_keeps_l125 : Nat → Nat → Int32 → Int32 → Int32 → Int32 → Int32 → Int32 → Int32 → Int32 → Int32 → LH → Option (Int32 × LH)
 | 0, _, _, _, _, _, _, _, _, _, _, _ => none
 | n + 1, l0, l1, l2, l3, l4, l5, l6, l7, l8, l9, h => F_Mod_keeps_c125 (F_Mod_keeps_l125 n) l0 l1 l2 l3 l4 l5 l6 l7 l8 l9 h
theorem F_Mod_keeps_l125_ok {d : Nat} {q : (Int32 × LH)} (hd : 9 ≤ d) : ∀ (n : Nat) (l0 : Nat) (l1 : Int32) (l2 : Int32) (l3 : Int32) (l4 : Int32) (l5 : Int32) (l6 : Int32) (l7 : Int32) (l8 : Int32) (l9 : Int32) (u10 : Value) (u11 : Value) (u12 : Value) (u13 : Value) (h : LH), F_Mod_keeps_l125 n l0 l1 l2 l3 l4 l5 l6 l7 l8 l9 h = some q → JR d jM_238 125 [.ref l0, .int l1, .int l2, .int l3, .int l4, .int l5, .int l6, .int l7, .int l8, .int l9, u10, u11, u12, u13] [] h (jo_i q)
 | 0 => fun _ _ _ _ _ _ _ _ _ _ _ _ _ _ _ hq => nomatch (show (none : Option (Int32 × LH)) = some q from hq)
 | n + 1 => fun _ _ _ _ _ _ _ _ _ _ _ _ _ _ _ hq => F_Mod_keeps_c125_ok hd (F_Mod_keeps_l125_ok hd n) hq
noncomputable def F_Mod_keeps_c104 (k104 : Nat → Int32 → Int32 → Int32 → Int32 → Int32 → Int32 → Int32 → Int32 → Int32 → LH → Option (Int32 × LH)) (l0 : Nat) (l1 : Int32) (l2 : Int32) (l3 : Int32) (l4 : Int32) (l5 : Int32) (l6 : Int32) (l7 : Int32) (l8 : Int32) (l9 : Int32) (h : LH) : Option (Int32 × LH) :=
 if l9 < l3 then
 jf_let (l6 * (3 : Int32)) fun v1 =>
 k104 l0 l1 l2 l3 l4 l5 v1 l7 l8 (l9 + (1 : Int32)) h
else
 F_Mod_keeps_l125  jF l0 l1 l2 l3 l4 l5 l6 l7 l8 (0 : Int32) h
set_option maxRecDepth 100000 in
theorem F_Mod_keeps_c104_ok {d : Nat} {q : (Int32 × LH)} {k104 : Nat → Int32 → Int32 → Int32 → Int32 → Int32 → Int32 → Int32 → Int32 → Int32 → LH → Option (Int32 × LH)} (hd : 9 ≤ d) (hk104 : ∀ (l0 : Nat) (l1 : Int32) (l2 : Int32) (l3 : Int32) (l4 : Int32) (l5 : Int32) (l6 : Int32) (l7 : Int32) (l8 : Int32) (l9 : Int32) (u10 : Value) (u11 : Value) (u12 : Value) (u13 : Value) (h : LH), k104 l0 l1 l2 l3 l4 l5 l6 l7 l8 l9 h = some q → JR d jM_238 104 [.ref l0, .int l1, .int l2, .int l3, .int l4, .int l5, .int l6, .int l7, .int l8, .int l9, u10, u11, u12, u13] [] h (jo_i q)) {l0 : Nat} {l1 : Int32} {l2 : Int32} {l3 : Int32} {l4 : Int32} {l5 : Int32} {l6 : Int32} {l7 : Int32} {l8 : Int32} {l9 : Int32} {u10 : Value} {u11 : Value} {u12 : Value} {u13 : Value} {h : LH} : F_Mod_keeps_c104 k104 l0 l1 l2 l3 l4 l5 l6 l7 l8 l9 h = some q → JR d jM_238 104 [.ref l0, .int l1, .int l2, .int l3, .int l4, .int l5, .int l6, .int l7, .int l8, .int l9, u10, u11, u12, u13] [] h (jo_i q) := by
 unfold F_Mod_keeps_c104
 exact jr_iload 104 106 rfl rfl rfl
  (jr_iloadn 106 107 rfl rfl rfl
  (jr_icmp_ge 107 122 110 rfl rfl rfl
  (jr_iconst 122 123 (0 : Int32) rfl jc_i_0 rfl
  (jr_istore 123 125 [.ref l0, .int l1, .int l2, .int l3, .int l4, .int l5, .int l6, .int l7, .int l8, .int (0 : Int32), u10, u11, u12, u13] rfl rfl rfl rfl
  ((F_Mod_keeps_l125_ok hd  jF _ _ _ _ _ _ _ _ _ _ _ _ _ _ _))))
  (jr_iload 110 112 rfl rfl rfl
  (jr_iconst 112 113 (3 : Int32) rfl jc_i_3 rfl
  (jr_imul 113 114 rfl rfl
  (jr_istoreL 114 116 (fun v1 => [.ref l0, .int l1, .int l2, .int l3, .int l4, .int l5, .int v1, .int l7, .int l8, .int l9, u10, u11, u12, u13]) rfl rfl (fun _ => rfl) rfl (fun v1 =>
  jr_iinc 116 119 [.ref l0, .int l1, .int l2, .int l3, .int l4, .int l5, .int v1, .int l7, .int l8, .int (l9 + (1 : Int32)), u10, u11, u12, u13] rfl jc_i_1 rfl rfl rfl rfl
  (jr_goto 119 104 rfl rfl
  ((hk104 _ _ _ _ _ _ _ _ _ _ _ _ _ _ _))))))))))
noncomputable def F_Mod_keeps_l104 : Nat → Nat → Int32 → Int32 → Int32 → Int32 → Int32 → Int32 → Int32 → Int32 → Int32 → LH → Option (Int32 × LH)
 | 0, _, _, _, _, _, _, _, _, _, _, _ => none
 | n + 1, l0, l1, l2, l3, l4, l5, l6, l7, l8, l9, h => F_Mod_keeps_c104 (F_Mod_keeps_l104 n) l0 l1 l2 l3 l4 l5 l6 l7 l8 l9 h
theorem F_Mod_keeps_l104_ok {d : Nat} {q : (Int32 × LH)} (hd : 9 ≤ d) : ∀ (n : Nat) (l0 : Nat) (l1 : Int32) (l2 : Int32) (l3 : Int32) (l4 : Int32) (l5 : Int32) (l6 : Int32) (l7 : Int32) (l8 : Int32) (l9 : Int32) (u10 : Value) (u11 : Value) (u12 : Value) (u13 : Value) (h : LH), F_Mod_keeps_l104 n l0 l1 l2 l3 l4 l5 l6 l7 l8 l9 h = some q → JR d jM_238 104 [.ref l0, .int l1, .int l2, .int l3, .int l4, .int l5, .int l6, .int l7, .int l8, .int l9, u10, u11, u12, u13] [] h (jo_i q)
 | 0 => fun _ _ _ _ _ _ _ _ _ _ _ _ _ _ _ hq => nomatch (show (none : Option (Int32 × LH)) = some q from hq)
 | n + 1 => fun _ _ _ _ _ _ _ _ _ _ _ _ _ _ _ hq => F_Mod_keeps_c104_ok hd (F_Mod_keeps_l104_ok hd n) hq
noncomputable def F_Mod_keeps_b82 (l0 : Nat) (l1 : Int32) (l2 : Int32) (l3 : Int32) (l4 : Int32) (l5 : Int32) (s0 : Nat) (s1 : Int32) (h : LH) : Option (Int32 × LH) :=
 jf_kd h s0 11
 (jf_bi (F_Mod_bad s0 s1 (2 : Int32) (1 : Int32) h) fun v1 h2 =>
 if v1 = 0 then
 F_Mod_keeps_l104  jF l0 l1 l2 l3 l4 l5 (1 : Int32) (-1 : Int32) (-1 : Int32) (0 : Int32) h2
else
 F_Mod_keeps_b90  h2)
set_option maxRecDepth 100000 in
theorem F_Mod_keeps_b82_ok {d : Nat} {q : (Int32 × LH)} (hd : 9 ≤ d) {l0 : Nat} {l1 : Int32} {l2 : Int32} {l3 : Int32} {l4 : Int32} {l5 : Int32} {s0 : Nat} {s1 : Int32} {u6 : Value} {u7 : Value} {u8 : Value} {u9 : Value} {u10 : Value} {u11 : Value} {u12 : Value} {u13 : Value} {h : LH} : F_Mod_keeps_b82 l0 l1 l2 l3 l4 l5 s0 s1 h = some q → JR d jM_238 82 [.ref l0, .int l1, .int l2, .int l3, .int l4, .int l5, u6, u7, u8, u9, u10, u11, u12, u13] [.int s1, .ref s0] h (jo_i q) := by
 unfold F_Mod_keeps_b82
 exact jr_iconst 82 83 (2 : Int32) rfl jc_i_2 rfl
  (jr_iconst 83 84 (1 : Int32) rfl jc_i_1 rfl
  (jr_cVi 84 87 [] rfl rfl rfl rfl rfl rfl rfl rfl (as := [.int s1, .int (2 : Int32), .int (1 : Int32)]) (F_Mod_bad_ok (Nat.le_trans (by decide : 1 ≤ 9) hd)) (fun v1 h2 =>
  jr_if_eq 87 92 90 rfl rfl rfl
  (jr_iconst 92 93 (1 : Int32) rfl jc_i_1 rfl
  (jr_istore 93 95 [.ref l0, .int l1, .int l2, .int l3, .int l4, .int l5, .int (1 : Int32), u7, u8, u9, u10, u11, u12, u13] rfl rfl rfl rfl
  (jr_iconst 95 96 (-1 : Int32) rfl jc_i_m1 rfl
  (jr_istore 96 98 [.ref l0, .int l1, .int l2, .int l3, .int l4, .int l5, .int (1 : Int32), .int (-1 : Int32), u8, u9, u10, u11, u12, u13] rfl rfl rfl rfl
  (jr_iconst 98 99 (-1 : Int32) rfl jc_i_m1 rfl
  (jr_istore 99 101 [.ref l0, .int l1, .int l2, .int l3, .int l4, .int l5, .int (1 : Int32), .int (-1 : Int32), .int (-1 : Int32), u9, u10, u11, u12, u13] rfl rfl rfl rfl
  (jr_iconst 101 102 (0 : Int32) rfl jc_i_0 rfl
  (jr_istore 102 104 [.ref l0, .int l1, .int l2, .int l3, .int l4, .int l5, .int (1 : Int32), .int (-1 : Int32), .int (-1 : Int32), .int (0 : Int32), u10, u11, u12, u13] rfl rfl rfl rfl
  ((F_Mod_keeps_l104_ok hd  jF _ _ _ _ _ _ _ _ _ _ _ _ _ _ _))))))))))
  ((F_Mod_keeps_b90_ok hd )))))
noncomputable def F_Mod_keeps_b77 (l0 : Nat) (l1 : Int32) (l2 : Int32) (l3 : Int32) (l4 : Int32) (l5 : Int32) (s0 : Nat) (h : LH) : Option (Int32 × LH) :=
 F_Mod_keeps_b82  l0 l1 l2 l3 l4 l5 s0 (1 : Int32) h
set_option maxRecDepth 100000 in
theorem F_Mod_keeps_b77_ok {d : Nat} {q : (Int32 × LH)} (hd : 9 ≤ d) {l0 : Nat} {l1 : Int32} {l2 : Int32} {l3 : Int32} {l4 : Int32} {l5 : Int32} {s0 : Nat} {u6 : Value} {u7 : Value} {u8 : Value} {u9 : Value} {u10 : Value} {u11 : Value} {u12 : Value} {u13 : Value} {h : LH} : F_Mod_keeps_b77 l0 l1 l2 l3 l4 l5 s0 h = some q → JR d jM_238 77 [.ref l0, .int l1, .int l2, .int l3, .int l4, .int l5, u6, u7, u8, u9, u10, u11, u12, u13] [.ref s0] h (jo_i q) := by
 unfold F_Mod_keeps_b77
 exact jr_iconst 77 78 (1 : Int32) rfl jc_i_1 rfl
  (jr_goto 78 82 rfl rfl
  ((F_Mod_keeps_b82_ok hd )))
noncomputable def F_Mod_keeps_b27 (l0 : Nat) (l1 : Int32) (l2 : Int32) (l3 : Int32) (l4 : Int32) (l5 : Int32) (s0 : Nat) (s1 : Int32) (h : LH) : Option (Int32 × LH) :=
 jf_kd h s0 11
 (jf_bi (F_Mod_bad s0 s1 (1 : Int32) (0 : Int32) h) fun v1 h2 =>
 if v1 = 0 then
 jf_bi (F_Mod_in l3 (0 : Int32) (5 : Int32) h2) fun v3 h4 =>
 if v3 = 0 then
 F_Mod_keeps_b77  l0 l1 l2 l3 l4 l5 l0 h4
else
 jf_bi (F_Mod_more (0 : Int32) l3 h4) fun v5 h6 =>
 jf_bi (F_Mod_less (5 : Int32) v5 h6) fun v7 h8 =>
 jf_bi (F_Mod_in l4 (0 : Int32) (((1 : Int32) <<< (v7 &&& 31)) - (1 : Int32)) h8) fun v9 h10 =>
 if v9 = 0 then
 F_Mod_keeps_b77  l0 l1 l2 l3 l4 l5 l0 h10
else
 jf_bi (F_Mod_in l5 (0 : Int32) (1 : Int32) h10) fun v11 h12 =>
 if v11 = 0 then
 F_Mod_keeps_b77  l0 l1 l2 l3 l4 l5 l0 h12
else
 F_Mod_keeps_b82  l0 l1 l2 l3 l4 l5 l0 (0 : Int32) h12
else
 F_Mod_keeps_b90  h2)
set_option maxRecDepth 100000 in
theorem F_Mod_keeps_b27_ok {d : Nat} {q : (Int32 × LH)} (hd : 9 ≤ d) {l0 : Nat} {l1 : Int32} {l2 : Int32} {l3 : Int32} {l4 : Int32} {l5 : Int32} {s0 : Nat} {s1 : Int32} {u6 : Value} {u7 : Value} {u8 : Value} {u9 : Value} {u10 : Value} {u11 : Value} {u12 : Value} {u13 : Value} {h : LH} : F_Mod_keeps_b27 l0 l1 l2 l3 l4 l5 s0 s1 h = some q → JR d jM_238 27 [.ref l0, .int l1, .int l2, .int l3, .int l4, .int l5, u6, u7, u8, u9, u10, u11, u12, u13] [.int s1, .ref s0] h (jo_i q) := by
 unfold F_Mod_keeps_b27
 exact jr_iconst 27 28 (1 : Int32) rfl jc_i_1 rfl
  (jr_iconst 28 29 (0 : Int32) rfl jc_i_0 rfl
  (jr_cVi 29 32 [] rfl rfl rfl rfl rfl rfl rfl rfl (as := [.int s1, .int (1 : Int32), .int (0 : Int32)]) (F_Mod_bad_ok (Nat.le_trans (by decide : 1 ≤ 9) hd)) (fun v1 h2 =>
  jr_if_ne 32 90 35 rfl rfl rfl
  ((F_Mod_keeps_b90_ok hd ))
  (jr_aloadn 35 36 rfl rfl rfl
  (jr_iloadn 36 37 rfl rfl rfl
  (jr_iconst 37 38 (0 : Int32) rfl jc_i_0 rfl
  (jr_iconst 38 39 (5 : Int32) rfl jc_i_5 rfl
  (jr_cSi 39 42 [.ref l0] rfl rfl rfl rfl rfl rfl rfl (as := [.int l3, .int (0 : Int32), .int (5 : Int32)]) (F_Mod_in_ok (Nat.le_trans (by decide : 1 ≤ 9) hd)) (fun v3 h4 =>
  jr_if_eq 42 77 45 rfl rfl rfl
  ((F_Mod_keeps_b77_ok hd ))
  (jr_iload 45 47 rfl rfl rfl
  (jr_iconst 47 48 (0 : Int32) rfl jc_i_0 rfl
  (jr_iconst 48 49 (1 : Int32) rfl jc_i_1 rfl
  (jr_iconst 49 50 (5 : Int32) rfl jc_i_5 rfl
  (jr_iconst 50 51 (0 : Int32) rfl jc_i_0 rfl
  (jr_iloadn 51 52 rfl rfl rfl
  (jr_cSi 52 55 [.int (5 : Int32), .int (1 : Int32), .int (0 : Int32), .int l4, .ref l0] rfl rfl rfl rfl rfl rfl rfl (as := [.int (0 : Int32), .int l3]) (F_Mod_more_ok (Nat.le_trans (by decide : 1 ≤ 9) hd)) (fun v5 h6 =>
  jr_cSi 55 58 [.int (1 : Int32), .int (0 : Int32), .int l4, .ref l0] rfl rfl rfl rfl rfl rfl rfl (as := [.int (5 : Int32), .int v5]) (F_Mod_less_ok (Nat.le_trans (by decide : 1 ≤ 9) hd)) (fun v7 h8 =>
  jr_ishl 58 59 rfl rfl
  (jr_iconst 59 60 (1 : Int32) rfl jc_i_1 rfl
  (jr_isub 60 61 rfl rfl
  (jr_cSi 61 64 [.ref l0] rfl rfl rfl rfl rfl rfl rfl (as := [.int l4, .int (0 : Int32), .int (((1 : Int32) <<< (v7 &&& 31)) - (1 : Int32))]) (F_Mod_in_ok (Nat.le_trans (by decide : 1 ≤ 9) hd)) (fun v9 h10 =>
  jr_if_eq 64 77 67 rfl rfl rfl
  ((F_Mod_keeps_b77_ok hd ))
  (jr_iload 67 69 rfl rfl rfl
  (jr_iconst 69 70 (0 : Int32) rfl jc_i_0 rfl
  (jr_iconst 70 71 (1 : Int32) rfl jc_i_1 rfl
  (jr_cSi 71 74 [.ref l0] rfl rfl rfl rfl rfl rfl rfl (as := [.int l5, .int (0 : Int32), .int (1 : Int32)]) (F_Mod_in_ok (Nat.le_trans (by decide : 1 ≤ 9) hd)) (fun v11 h12 =>
  jr_if_ne 74 81 77 rfl rfl rfl
  (jr_iconst 81 82 (0 : Int32) rfl jc_i_0 rfl
  ((F_Mod_keeps_b82_ok hd )))
  ((F_Mod_keeps_b77_ok hd )))))))))))))))))))))))))))))
noncomputable def F_Mod_keeps_b22 (l0 : Nat) (l1 : Int32) (l2 : Int32) (l3 : Int32) (l4 : Int32) (l5 : Int32) (s0 : Nat) (h : LH) : Option (Int32 × LH) :=
 F_Mod_keeps_b27  l0 l1 l2 l3 l4 l5 s0 (1 : Int32) h
set_option maxRecDepth 100000 in
theorem F_Mod_keeps_b22_ok {d : Nat} {q : (Int32 × LH)} (hd : 9 ≤ d) {l0 : Nat} {l1 : Int32} {l2 : Int32} {l3 : Int32} {l4 : Int32} {l5 : Int32} {s0 : Nat} {u6 : Value} {u7 : Value} {u8 : Value} {u9 : Value} {u10 : Value} {u11 : Value} {u12 : Value} {u13 : Value} {h : LH} : F_Mod_keeps_b22 l0 l1 l2 l3 l4 l5 s0 h = some q → JR d jM_238 22 [.ref l0, .int l1, .int l2, .int l3, .int l4, .int l5, u6, u7, u8, u9, u10, u11, u12, u13] [.ref s0] h (jo_i q) := by
 unfold F_Mod_keeps_b22
 exact jr_iconst 22 23 (1 : Int32) rfl jc_i_1 rfl
  (jr_goto 23 27 rfl rfl
  ((F_Mod_keeps_b27_ok hd )))
noncomputable def F_Mod_keeps (l0 : Nat) (l1 : Int32) (l2 : Int32) (l3 : Int32) (l4 : Int32) (l5 : Int32) (h : LH) : Option (Int32 × LH) :=
 jf_pi h l0 11 0 (0 : Int32) fun h1 =>
 jf_kd h1 l0 11
 (jf_bi (F_Mod_isGate l0 l1 h1) fun v2 h3 =>
 if v2 = 0 then
 F_Mod_keeps_b22  l0 l1 l2 l3 l4 l5 l0 h3
else
 jf_kd h3 l0 11
 (jf_bi (F_Mod_isWood l0 l2 h3) fun v4 h5 =>
 if v4 = 0 then
 F_Mod_keeps_b22  l0 l1 l2 l3 l4 l5 l0 h5
else
 F_Mod_keeps_b27  l0 l1 l2 l3 l4 l5 l0 (0 : Int32) h5))
set_option maxRecDepth 100000 in
theorem F_Mod_keeps_ok {d : Nat} (hd : 10 ≤ d) {l0 : Nat} {l1 : Int32} {l2 : Int32} {l3 : Int32} {l4 : Int32} {l5 : Int32} {h : LH} {q : (Int32 × LH)} : F_Mod_keeps l0 l1 l2 l3 l4 l5 h = some q → jl_Sem jt_T jt_Ms d 238 [.ref l0, .int l1, .int l2, .int l3, .int l4, .int l5] h (jo_i q) := by
 unfold F_Mod_keeps
 exact jr_enter (D := 9) hd jM_238_at rfl rfl rfl (fun d hd =>
  jr_aloadn 0 1 rfl rfl rfl
  (jr_iconst 1 2 (0 : Int32) rfl jc_i_0 rfl
  (jr_pi 2 5 rfl jg_11_109_3 rfl (fun h1 =>
  jr_aloadn 5 6 rfl rfl rfl
  (jr_aloadn 6 7 rfl rfl rfl
  (jr_iloadn 7 8 rfl rfl rfl
  (jr_cVi 8 11 [.ref l0] rfl rfl rfl rfl rfl rfl rfl rfl (as := [.int l1]) (F_Mod_isGate_ok (Nat.le_trans (by decide : 2 ≤ 9) hd)) (fun v2 h3 =>
  jr_if_eq 11 22 14 rfl rfl rfl
  ((F_Mod_keeps_b22_ok hd ))
  (jr_aloadn 14 15 rfl rfl rfl
  (jr_iloadn 15 16 rfl rfl rfl
  (jr_cVi 16 19 [.ref l0] rfl rfl rfl rfl rfl rfl rfl rfl (as := [.int l2]) (F_Mod_isWood_ok (Nat.le_trans (by decide : 2 ≤ 9) hd)) (fun v4 h5 =>
  jr_if_ne 19 26 22 rfl rfl rfl
  (jr_iconst 26 27 (0 : Int32) rfl jc_i_0 rfl
  ((F_Mod_keeps_b27_ok hd )))
  ((F_Mod_keeps_b22_ok hd ))))))))))))))
noncomputable def jM_241 : JMeth := (11, false, 1, jk_241, [], 4)
set_option maxRecDepth 100000 in
theorem jM_241_at : jt_Ms 241 = some jM_241 := rfl
noncomputable def F_Mod_round_b14 (l0 : Nat) (s0 : Int32) (h : LH) : Option (Int32 × LH) :=
 jf_gr h l0 11 12 fun v1 =>
 jf_ia h v1 (0 : Int32) fun v2 =>
 jf_bi (F_Mod_less s0 (v2 - s0) h) fun v3 h4 =>
 some (v3, h4)
set_option maxRecDepth 100000 in
theorem F_Mod_round_b14_ok {d : Nat} {q : (Int32 × LH)} (hd : 1 ≤ d) {l0 : Nat} {s0 : Int32} {u1 : Value} {u2 : Value} {u3 : Value} {h : LH} : F_Mod_round_b14 l0 s0 h = some q → JR d jM_241 14 [.ref l0, u1, u2, u3] [.int s0] h (jo_i q) := by
 unfold F_Mod_round_b14
 exact jr_istoren 14 15 [.ref l0, u1, u2, .int s0] rfl rfl rfl rfl
  (jr_iloadn 15 16 rfl rfl rfl
  (jr_aloadn 16 17 rfl rfl rfl
  (jr_gr 17 20 rfl jg_11_23_2 rfl (fun v1 =>
  jr_iconst 20 21 (0 : Int32) rfl jc_i_0 rfl
  (jr_ia 21 22 rfl rfl (fun v2 =>
  jr_iloadn 22 23 rfl rfl rfl
  (jr_isub 23 24 rfl rfl
  (jr_cSi 24 27 [] rfl rfl rfl rfl rfl rfl rfl (as := [.int s0, .int (v2 - s0)]) (F_Mod_less_ok (Nat.le_trans (by decide : 1 ≤ 1) hd)) (fun v3 h4 =>
  jr_ri 27 rfl rfl)))))))))
noncomputable def F_Mod_round (l0 : Nat) (l1 : Int32) (l2 : Int32) (h : LH) : Option (Int32 × LH) :=
 if l2 < l1 then
 F_Mod_round_b14  l0 (l1 - l2) h
else
 F_Mod_round_b14  l0 (l2 - l1) h
set_option maxRecDepth 100000 in
theorem F_Mod_round_ok {d : Nat} (hd : 2 ≤ d) {l0 : Nat} {l1 : Int32} {l2 : Int32} {h : LH} {q : (Int32 × LH)} : F_Mod_round l0 l1 l2 h = some q → jl_Sem jt_T jt_Ms d 241 [.ref l0, .int l1, .int l2] h (jo_i q) := by
 unfold F_Mod_round
 exact jr_enter (D := 1) hd jM_241_at rfl rfl rfl (fun d hd =>
  jr_iloadn 0 1 rfl rfl rfl
  (jr_iloadn 1 2 rfl rfl rfl
  (jr_icmp_le 2 11 5 rfl rfl rfl
  (jr_iloadn 11 12 rfl rfl rfl
  (jr_iloadn 12 13 rfl rfl rfl
  (jr_isub 13 14 rfl rfl
  ((F_Mod_round_b14_ok hd )))))
  (jr_iloadn 5 6 rfl rfl rfl
  (jr_iloadn 6 7 rfl rfl rfl
  (jr_isub 7 8 rfl rfl
  (jr_goto 8 14 rfl rfl
  ((F_Mod_round_b14_ok hd )))))))))
noncomputable def jM_240 : JMeth := (11, false, 1, jk_240, [], 6)
set_option maxRecDepth 100000 in
theorem jM_240_at : jt_Ms 240 = some jM_240 := rfl
noncomputable def F_Mod_thief_b50 (h : LH) : Option (Int32 × LH) :=
 some ((0 : Int32), h)
set_option maxRecDepth 100000 in
theorem F_Mod_thief_b50_ok {d : Nat} {q : (Int32 × LH)} (hd : 8 ≤ d) {u0 : Value} {u1 : Value} {u2 : Value} {u3 : Value} {u4 : Value} {u5 : Value} {h : LH} : F_Mod_thief_b50 h = some q → JR d jM_240 50 [u0, u1, u2, u3, u4, u5] [] h (jo_i q) := by
 unfold F_Mod_thief_b50
 exact jr_iconst 50 51 (0 : Int32) rfl jc_i_0 rfl
  (jr_ri 51 rfl rfl)
noncomputable def F_Mod_thief_b120 (k58 : Nat → Int32 → Int32 → Int32 → LH → Option (Int32 × LH)) (k77 : Nat → Int32 → Int32 → Int32 → Int32 → Int32 → LH → Option (Int32 × LH)) (l0 : Nat) (l1 : Int32) (l2 : Int32) (l3 : Int32) (l4 : Int32) (l5 : Int32) (h : LH) : Option (Int32 × LH) :=
 k77 l0 l1 l2 l3 l4 (l5 + (1 : Int32)) h
set_option maxRecDepth 100000 in
theorem F_Mod_thief_b120_ok {d : Nat} {q : (Int32 × LH)} {k58 : Nat → Int32 → Int32 → Int32 → LH → Option (Int32 × LH)} {k77 : Nat → Int32 → Int32 → Int32 → Int32 → Int32 → LH → Option (Int32 × LH)} (hd : 8 ≤ d) (hk58 : ∀ (l0 : Nat) (l1 : Int32) (l2 : Int32) (l3 : Int32) (u4 : Value) (u5 : Value) (h : LH), k58 l0 l1 l2 l3 h = some q → JR d jM_240 58 [.ref l0, .int l1, .int l2, .int l3, u4, u5] [] h (jo_i q)) (hk77 : ∀ (l0 : Nat) (l1 : Int32) (l2 : Int32) (l3 : Int32) (l4 : Int32) (l5 : Int32) (h : LH), k77 l0 l1 l2 l3 l4 l5 h = some q → JR d jM_240 77 [.ref l0, .int l1, .int l2, .int l3, .int l4, .int l5] [] h (jo_i q)) {l0 : Nat} {l1 : Int32} {l2 : Int32} {l3 : Int32} {l4 : Int32} {l5 : Int32} {h : LH} : F_Mod_thief_b120 k58 k77 l0 l1 l2 l3 l4 l5 h = some q → JR d jM_240 120 [.ref l0, .int l1, .int l2, .int l3, .int l4, .int l5] [] h (jo_i q) := by
 unfold F_Mod_thief_b120
 exact jr_iinc 120 123 [.ref l0, .int l1, .int l2, .int l3, .int l4, .int (l5 + (1 : Int32))] rfl jc_i_1 rfl rfl rfl rfl
  (jr_goto 123 77 rfl rfl
  ((hk77 _ _ _ _ _ _ _)))
noncomputable def F_Mod_thief_b119 (s0 : Int32) (h : LH) : Option (Int32 × LH) :=
 some (s0, h)
set_option maxRecDepth 100000 in
theorem F_Mod_thief_b119_ok {d : Nat} {q : (Int32 × LH)} (hd : 8 ≤ d) {s0 : Int32} {u0 : Value} {u1 : Value} {u2 : Value} {u3 : Value} {u4 : Value} {u5 : Value} {h : LH} : F_Mod_thief_b119 s0 h = some q → JR d jM_240 119 [u0, u1, u2, u3, u4, u5] [.int s0] h (jo_i q) := by
 unfold F_Mod_thief_b119
 exact jr_ri 119 rfl rfl
noncomputable def F_Mod_thief_c77 (k58 : Nat → Int32 → Int32 → Int32 → LH → Option (Int32 × LH)) (k77 : Nat → Int32 → Int32 → Int32 → Int32 → Int32 → LH → Option (Int32 × LH)) (l0 : Nat) (l1 : Int32) (l2 : Int32) (l3 : Int32) (l4 : Int32) (l5 : Int32) (h : LH) : Option (Int32 × LH) :=
 jf_gr h l0 11 12 fun v1 =>
 jf_ia h v1 (0 : Int32) fun v2 =>
 if l5 < v2 then
 jf_kd h l0 11
 (jf_bi (F_Mod_round l0 l1 l5 h) fun v5 h6 =>
 if l3 < v5 then
 F_Mod_thief_b120 k58 k77 l0 l1 l2 l3 l4 l5 h6
else
 jf_bi (F_Mod_has l4 l5 h6) fun v7 h8 =>
 if v7 = 0 then
 if l2 = 0 then
 F_Mod_thief_b119  l3 h8
else
 F_Mod_thief_b119  l5 h8
else
 F_Mod_thief_b120 k58 k77 l0 l1 l2 l3 l4 l5 h8)
else
 jf_gr h l0 11 36 fun v3 =>
 jf_kd h l0 11
 ((F_Mod_hourEnds l0 v3 h).bind fun h4 =>
 k58 l0 l1 l2 (l3 + (1 : Int32)) h4)
set_option maxRecDepth 100000 in
theorem F_Mod_thief_c77_ok {d : Nat} {q : (Int32 × LH)} {k58 : Nat → Int32 → Int32 → Int32 → LH → Option (Int32 × LH)} {k77 : Nat → Int32 → Int32 → Int32 → Int32 → Int32 → LH → Option (Int32 × LH)} (hd : 8 ≤ d) (hk58 : ∀ (l0 : Nat) (l1 : Int32) (l2 : Int32) (l3 : Int32) (u4 : Value) (u5 : Value) (h : LH), k58 l0 l1 l2 l3 h = some q → JR d jM_240 58 [.ref l0, .int l1, .int l2, .int l3, u4, u5] [] h (jo_i q)) (hk77 : ∀ (l0 : Nat) (l1 : Int32) (l2 : Int32) (l3 : Int32) (l4 : Int32) (l5 : Int32) (h : LH), k77 l0 l1 l2 l3 l4 l5 h = some q → JR d jM_240 77 [.ref l0, .int l1, .int l2, .int l3, .int l4, .int l5] [] h (jo_i q)) {l0 : Nat} {l1 : Int32} {l2 : Int32} {l3 : Int32} {l4 : Int32} {l5 : Int32} {h : LH} : F_Mod_thief_c77 k58 k77 l0 l1 l2 l3 l4 l5 h = some q → JR d jM_240 77 [.ref l0, .int l1, .int l2, .int l3, .int l4, .int l5] [] h (jo_i q) := by
 unfold F_Mod_thief_c77
 exact jr_iload 77 79 rfl rfl rfl
  (jr_aloadn 79 80 rfl rfl rfl
  (jr_gr 80 83 rfl jg_11_23_2 rfl (fun v1 =>
  jr_iconst 83 84 (0 : Int32) rfl jc_i_0 rfl
  (jr_ia 84 85 rfl rfl (fun v2 =>
  jr_icmp_ge 85 126 88 rfl rfl rfl
  (jr_aloadn 126 127 rfl rfl rfl
  (jr_aloadn 127 128 rfl rfl rfl
  (jr_gr 128 131 rfl jg_11_88_2 rfl (fun v3 =>
  jr_cVv 131 134 [] rfl rfl rfl rfl rfl rfl rfl rfl (as := [.ref v3]) (F_Mod_hourEnds_ok (Nat.le_trans (by decide : 8 ≤ 8) hd)) (fun h4 =>
  jr_iinc 134 137 [.ref l0, .int l1, .int l2, .int (l3 + (1 : Int32)), .int l4, .int l5] rfl jc_i_1 rfl rfl rfl rfl
  (jr_goto 137 58 rfl rfl
  ((hk58 _ _ _ _ _ _ _))))))))
  (jr_aloadn 88 89 rfl rfl rfl
  (jr_iloadn 89 90 rfl rfl rfl
  (jr_iload 90 92 rfl rfl rfl
  (jr_cVi 92 95 [] rfl rfl rfl rfl rfl rfl rfl rfl (as := [.int l1, .int l5]) (F_Mod_round_ok (Nat.le_trans (by decide : 2 ≤ 8) hd)) (fun v5 h6 =>
  jr_iloadn 95 96 rfl rfl rfl
  (jr_icmp_gt 96 120 99 rfl rfl rfl
  ((F_Mod_thief_b120_ok hd hk58 hk77))
  (jr_iload 99 101 rfl rfl rfl
  (jr_iload 101 103 rfl rfl rfl
  (jr_cSi 103 106 [] rfl rfl rfl rfl rfl rfl rfl (as := [.int l4, .int l5]) (F_Mod_has_ok (Nat.le_trans (by decide : 1 ≤ 8) hd)) (fun v7 h8 =>
  jr_if_ne 106 120 109 rfl rfl rfl
  ((F_Mod_thief_b120_ok hd hk58 hk77))
  (jr_iloadn 109 110 rfl rfl rfl
  (jr_if_ne 110 117 113 rfl rfl rfl
  (jr_iload 117 119 rfl rfl rfl
  ((F_Mod_thief_b119_ok hd )))
  (jr_iloadn 113 114 rfl rfl rfl
  (jr_goto 114 119 rfl rfl
  ((F_Mod_thief_b119_ok hd )))))))))))))))))))))
noncomputable def F_Mod_thief_l77 (k58 : Nat → Int32 → Int32 → Int32 → LH → Option (Int32 × LH)) : Nat → Nat → Int32 → Int32 → Int32 → Int32 → Int32 → LH → Option (Int32 × LH)
 | 0, _, _, _, _, _, _, _ => none
 | n + 1, l0, l1, l2, l3, l4, l5, h => F_Mod_thief_c77 k58 (F_Mod_thief_l77 k58 n) l0 l1 l2 l3 l4 l5 h
theorem F_Mod_thief_l77_ok {d : Nat} {q : (Int32 × LH)} {k58 : Nat → Int32 → Int32 → Int32 → LH → Option (Int32 × LH)} (hd : 8 ≤ d) (hk58 : ∀ (l0 : Nat) (l1 : Int32) (l2 : Int32) (l3 : Int32) (u4 : Value) (u5 : Value) (h : LH), k58 l0 l1 l2 l3 h = some q → JR d jM_240 58 [.ref l0, .int l1, .int l2, .int l3, u4, u5] [] h (jo_i q)) : ∀ (n : Nat) (l0 : Nat) (l1 : Int32) (l2 : Int32) (l3 : Int32) (l4 : Int32) (l5 : Int32) (h : LH), F_Mod_thief_l77 k58 n l0 l1 l2 l3 l4 l5 h = some q → JR d jM_240 77 [.ref l0, .int l1, .int l2, .int l3, .int l4, .int l5] [] h (jo_i q)
 | 0 => fun _ _ _ _ _ _ _ hq => nomatch (show (none : Option (Int32 × LH)) = some q from hq)
 | n + 1 => fun _ _ _ _ _ _ _ hq => F_Mod_thief_c77_ok hd hk58 (F_Mod_thief_l77_ok hd hk58 n) hq
noncomputable def F_Mod_thief_c58 (k58 : Nat → Int32 → Int32 → Int32 → LH → Option (Int32 × LH)) (l0 : Nat) (l1 : Int32) (l2 : Int32) (l3 : Int32) (h : LH) : Option (Int32 × LH) :=
 if l3 < (48 : Int32) then
 jf_gr h l0 11 36 fun v1 =>
 jf_kd h l0 11
 (jf_bi (F_Mod_shutBits l0 v1 h) fun v2 h3 =>
 F_Mod_thief_l77 k58 jF l0 l1 l2 l3 v2 (0 : Int32) h3)
else
 some ((-1 : Int32), h)
set_option maxRecDepth 100000 in
theorem F_Mod_thief_c58_ok {d : Nat} {q : (Int32 × LH)} {k58 : Nat → Int32 → Int32 → Int32 → LH → Option (Int32 × LH)} (hd : 8 ≤ d) (hk58 : ∀ (l0 : Nat) (l1 : Int32) (l2 : Int32) (l3 : Int32) (u4 : Value) (u5 : Value) (h : LH), k58 l0 l1 l2 l3 h = some q → JR d jM_240 58 [.ref l0, .int l1, .int l2, .int l3, u4, u5] [] h (jo_i q)) {l0 : Nat} {l1 : Int32} {l2 : Int32} {l3 : Int32} {u4 : Value} {u5 : Value} {h : LH} : F_Mod_thief_c58 k58 l0 l1 l2 l3 h = some q → JR d jM_240 58 [.ref l0, .int l1, .int l2, .int l3, u4, u5] [] h (jo_i q) := by
 unfold F_Mod_thief_c58
 exact jr_iloadn 58 59 rfl rfl rfl
  (jr_bipush 59 61 (48 : Int32) rfl jc_b_48 rfl
  (jr_icmp_ge 61 140 64 rfl rfl rfl
  (jr_iconst 140 141 (-1 : Int32) rfl jc_i_m1 rfl
  (jr_ri 141 rfl rfl))
  (jr_aloadn 64 65 rfl rfl rfl
  (jr_aloadn 65 66 rfl rfl rfl
  (jr_gr 66 69 rfl jg_11_88_2 rfl (fun v1 =>
  jr_cVi 69 72 [] rfl rfl rfl rfl rfl rfl rfl rfl (as := [.ref v1]) (F_Mod_shutBits_ok (Nat.le_trans (by decide : 7 ≤ 8) hd)) (fun v2 h3 =>
  jr_istore 72 74 [.ref l0, .int l1, .int l2, .int l3, .int v2, u5] rfl rfl rfl rfl
  (jr_iconst 74 75 (0 : Int32) rfl jc_i_0 rfl
  (jr_istore 75 77 [.ref l0, .int l1, .int l2, .int l3, .int v2, .int (0 : Int32)] rfl rfl rfl rfl
  ((F_Mod_thief_l77_ok hd hk58 jF _ _ _ _ _ _ _)))))))))))
noncomputable def F_Mod_thief_l58 : Nat → Nat → Int32 → Int32 → Int32 → LH → Option (Int32 × LH)
 | 0, _, _, _, _, _ => none
 | n + 1, l0, l1, l2, l3, h => F_Mod_thief_c58 (F_Mod_thief_l58 n) l0 l1 l2 l3 h
theorem F_Mod_thief_l58_ok {d : Nat} {q : (Int32 × LH)} (hd : 8 ≤ d) : ∀ (n : Nat) (l0 : Nat) (l1 : Int32) (l2 : Int32) (l3 : Int32) (u4 : Value) (u5 : Value) (h : LH), F_Mod_thief_l58 n l0 l1 l2 l3 h = some q → JR d jM_240 58 [.ref l0, .int l1, .int l2, .int l3, u4, u5] [] h (jo_i q)
 | 0 => fun _ _ _ _ _ _ _ hq => nomatch (show (none : Option (Int32 × LH)) = some q from hq)
 | n + 1 => fun _ _ _ _ _ _ _ hq => F_Mod_thief_c58_ok hd (F_Mod_thief_l58_ok hd n) hq
noncomputable def F_Mod_thief_b42 (l0 : Nat) (l1 : Int32) (l2 : Int32) (s0 : Nat) (s1 : Int32) (h : LH) : Option (Int32 × LH) :=
 jf_kd h s0 11
 (jf_bi (F_Mod_bad s0 s1 (2 : Int32) (1 : Int32) h) fun v1 h2 =>
 if v1 = 0 then
 jf_kd h2 l0 11
 ((F_Mod_tries l0 h2).bind fun h3 =>
 F_Mod_thief_l58  jF l0 l1 l2 (0 : Int32) h3)
else
 F_Mod_thief_b50  h2)
set_option maxRecDepth 100000 in
theorem F_Mod_thief_b42_ok {d : Nat} {q : (Int32 × LH)} (hd : 8 ≤ d) {l0 : Nat} {l1 : Int32} {l2 : Int32} {s0 : Nat} {s1 : Int32} {u3 : Value} {u4 : Value} {u5 : Value} {h : LH} : F_Mod_thief_b42 l0 l1 l2 s0 s1 h = some q → JR d jM_240 42 [.ref l0, .int l1, .int l2, u3, u4, u5] [.int s1, .ref s0] h (jo_i q) := by
 unfold F_Mod_thief_b42
 exact jr_iconst 42 43 (2 : Int32) rfl jc_i_2 rfl
  (jr_iconst 43 44 (1 : Int32) rfl jc_i_1 rfl
  (jr_cVi 44 47 [] rfl rfl rfl rfl rfl rfl rfl rfl (as := [.int s1, .int (2 : Int32), .int (1 : Int32)]) (F_Mod_bad_ok (Nat.le_trans (by decide : 1 ≤ 8) hd)) (fun v1 h2 =>
  jr_if_eq 47 52 50 rfl rfl rfl
  (jr_aloadn 52 53 rfl rfl rfl
  (jr_cVv 53 56 [] rfl rfl rfl rfl rfl rfl rfl rfl (as := []) (F_Mod_tries_ok (Nat.le_trans (by decide : 2 ≤ 8) hd)) (fun h3 =>
  jr_iconst 56 57 (0 : Int32) rfl jc_i_0 rfl
  (jr_istoren 57 58 [.ref l0, .int l1, .int l2, .int (0 : Int32), u4, u5] rfl rfl rfl rfl
  ((F_Mod_thief_l58_ok hd  jF _ _ _ _ _ _ _))))))
  ((F_Mod_thief_b50_ok hd )))))
noncomputable def F_Mod_thief_b19 (l0 : Nat) (l1 : Int32) (l2 : Int32) (s0 : Nat) (s1 : Int32) (h : LH) : Option (Int32 × LH) :=
 jf_kd h s0 11
 (jf_bi (F_Mod_bad s0 s1 (1 : Int32) (0 : Int32) h) fun v1 h2 =>
 if v1 = 0 then
 jf_bi (F_Mod_in l2 (0 : Int32) (1 : Int32) h2) fun v3 h4 =>
 if v3 = 0 then
 F_Mod_thief_b42  l0 l1 l2 l0 (1 : Int32) h4
else
 F_Mod_thief_b42  l0 l1 l2 l0 (0 : Int32) h4
else
 F_Mod_thief_b50  h2)
set_option maxRecDepth 100000 in
theorem F_Mod_thief_b19_ok {d : Nat} {q : (Int32 × LH)} (hd : 8 ≤ d) {l0 : Nat} {l1 : Int32} {l2 : Int32} {s0 : Nat} {s1 : Int32} {u3 : Value} {u4 : Value} {u5 : Value} {h : LH} : F_Mod_thief_b19 l0 l1 l2 s0 s1 h = some q → JR d jM_240 19 [.ref l0, .int l1, .int l2, u3, u4, u5] [.int s1, .ref s0] h (jo_i q) := by
 unfold F_Mod_thief_b19
 exact jr_iconst 19 20 (1 : Int32) rfl jc_i_1 rfl
  (jr_iconst 20 21 (0 : Int32) rfl jc_i_0 rfl
  (jr_cVi 21 24 [] rfl rfl rfl rfl rfl rfl rfl rfl (as := [.int s1, .int (1 : Int32), .int (0 : Int32)]) (F_Mod_bad_ok (Nat.le_trans (by decide : 1 ≤ 8) hd)) (fun v1 h2 =>
  jr_if_ne 24 50 27 rfl rfl rfl
  ((F_Mod_thief_b50_ok hd ))
  (jr_aloadn 27 28 rfl rfl rfl
  (jr_iloadn 28 29 rfl rfl rfl
  (jr_iconst 29 30 (0 : Int32) rfl jc_i_0 rfl
  (jr_iconst 30 31 (1 : Int32) rfl jc_i_1 rfl
  (jr_cSi 31 34 [.ref l0] rfl rfl rfl rfl rfl rfl rfl (as := [.int l2, .int (0 : Int32), .int (1 : Int32)]) (F_Mod_in_ok (Nat.le_trans (by decide : 1 ≤ 8) hd)) (fun v3 h4 =>
  jr_if_ne 34 41 37 rfl rfl rfl
  (jr_iconst 41 42 (0 : Int32) rfl jc_i_0 rfl
  ((F_Mod_thief_b42_ok hd )))
  (jr_iconst 37 38 (1 : Int32) rfl jc_i_1 rfl
  (jr_goto 38 42 rfl rfl
  ((F_Mod_thief_b42_ok hd )))))))))))))
noncomputable def F_Mod_thief (l0 : Nat) (l1 : Int32) (l2 : Int32) (h : LH) : Option (Int32 × LH) :=
 jf_pi h l0 11 0 (0 : Int32) fun h1 =>
 jf_kd h1 l0 11
 (jf_bi (F_Mod_isGate l0 l1 h1) fun v2 h3 =>
 if v2 = 0 then
 F_Mod_thief_b19  l0 l1 l2 l0 (1 : Int32) h3
else
 F_Mod_thief_b19  l0 l1 l2 l0 (0 : Int32) h3)
set_option maxRecDepth 100000 in
theorem F_Mod_thief_ok {d : Nat} (hd : 9 ≤ d) {l0 : Nat} {l1 : Int32} {l2 : Int32} {h : LH} {q : (Int32 × LH)} : F_Mod_thief l0 l1 l2 h = some q → jl_Sem jt_T jt_Ms d 240 [.ref l0, .int l1, .int l2] h (jo_i q) := by
 unfold F_Mod_thief
 exact jr_enter (D := 8) hd jM_240_at rfl rfl rfl (fun d hd =>
  jr_aloadn 0 1 rfl rfl rfl
  (jr_iconst 1 2 (0 : Int32) rfl jc_i_0 rfl
  (jr_pi 2 5 rfl jg_11_109_3 rfl (fun h1 =>
  jr_aloadn 5 6 rfl rfl rfl
  (jr_aloadn 6 7 rfl rfl rfl
  (jr_iloadn 7 8 rfl rfl rfl
  (jr_cVi 8 11 [.ref l0] rfl rfl rfl rfl rfl rfl rfl rfl (as := [.int l1]) (F_Mod_isGate_ok (Nat.le_trans (by decide : 2 ≤ 8) hd)) (fun v2 h3 =>
  jr_if_ne 11 18 14 rfl rfl rfl
  (jr_iconst 18 19 (0 : Int32) rfl jc_i_0 rfl
  ((F_Mod_thief_b19_ok hd )))
  (jr_iconst 14 15 (1 : Int32) rfl jc_i_1 rfl
  (jr_goto 15 19 rfl rfl
  ((F_Mod_thief_b19_ok hd ))))))))))))
noncomputable def jM_244 : JMeth := (11, false, 1, jk_244, [], 4)
set_option maxRecDepth 100000 in
theorem jM_244_at : jt_Ms 244 = some jM_244 := rfl
noncomputable def F_Mod_steals_b28 (s0 : Int32) (h : LH) : Option (Int32 × LH) :=
 some (s0, h)
set_option maxRecDepth 100000 in
theorem F_Mod_steals_b28_ok {d : Nat} {q : (Int32 × LH)} (hd : 1 ≤ d) {s0 : Int32} {u0 : Value} {u1 : Value} {u2 : Value} {u3 : Value} {h : LH} : F_Mod_steals_b28 s0 h = some q → JR d jM_244 28 [u0, u1, u2, u3] [.int s0] h (jo_i q) := by
 unfold F_Mod_steals_b28
 exact jr_ri 28 rfl rfl
noncomputable def F_Mod_steals (l0 : Nat) (l1 : Int32) (l2 : Int32) (l3 : Int32) (h : LH) : Option (Int32 × LH) :=
 if l2 = l3 then
 F_Mod_steals_b28  (-2 : Int32) h
else
 jf_gr h l0 11 48 fun v1 =>
 jf_ia h v1 l1 fun v2 =>
 jf_bi (F_Mod_has v2 l2 h) fun v3 h4 =>
 if v3 = 0 then
 F_Mod_steals_b28  (3 : Int32) h4
else
 F_Mod_steals_b28  (0 : Int32) h4
set_option maxRecDepth 100000 in
theorem F_Mod_steals_ok {d : Nat} (hd : 2 ≤ d) {l0 : Nat} {l1 : Int32} {l2 : Int32} {l3 : Int32} {h : LH} {q : (Int32 × LH)} : F_Mod_steals l0 l1 l2 l3 h = some q → jl_Sem jt_T jt_Ms d 244 [.ref l0, .int l1, .int l2, .int l3] h (jo_i q) := by
 unfold F_Mod_steals
 exact jr_enter (D := 1) hd jM_244_at rfl rfl rfl (fun d hd =>
  jr_iloadn 0 1 rfl rfl rfl
  (jr_iloadn 1 2 rfl rfl rfl
  (jr_icmp_ne 2 10 5 rfl rfl rfl
  (jr_aloadn 10 11 rfl rfl rfl
  (jr_gr 11 14 rfl jg_11_100_2 rfl (fun v1 =>
  jr_iloadn 14 15 rfl rfl rfl
  (jr_ia 15 16 rfl rfl (fun v2 =>
  jr_iloadn 16 17 rfl rfl rfl
  (jr_cSi 17 20 [] rfl rfl rfl rfl rfl rfl rfl (as := [.int v2, .int l2]) (F_Mod_has_ok (Nat.le_trans (by decide : 1 ≤ 1) hd)) (fun v3 h4 =>
  jr_if_eq 20 27 23 rfl rfl rfl
  (jr_iconst 27 28 (3 : Int32) rfl jc_i_3 rfl
  ((F_Mod_steals_b28_ok hd )))
  (jr_iconst 23 24 (0 : Int32) rfl jc_i_0 rfl
  (jr_goto 24 28 rfl rfl
  ((F_Mod_steals_b28_ok hd )))))))))))
  (jr_bipush 5 7 (-2 : Int32) rfl jc_b_m2 rfl
  (jr_goto 7 28 rfl rfl
  ((F_Mod_steals_b28_ok hd )))))))
noncomputable def jM_243 : JMeth := (11, false, 2, jk_243, [], 8)
set_option maxRecDepth 100000 in
theorem jM_243_at : jt_Ms 243 = some jM_243 := rfl
noncomputable def F_Mod_isRest_c65 (k65 : Nat → Int32 → Int32 → Int32 → Int32 → LH → Option (Int32 × LH)) (l0 : Nat) (l2 : Int32) (l3 : Int32) (l5 : Int32) (l6 : Int32) (h : LH) : Option (Int32 × LH) :=
 jf_gr h l0 11 12 fun v1 =>
 jf_ia h v1 (0 : Int32) fun v2 =>
 if l6 < v2 then
 jf_kd h l0 11
 (jf_bi (F_Mod_steals l0 l2 l3 l6 h) fun v3 h4 =>
 if v3 < l5 then
 jf_rz (0 : Int32) (some ((0 : Int32), h4))
else
 k65 l0 l2 l3 l5 (l6 + (1 : Int32)) h4)
else
 jf_rz (1 : Int32) (some ((1 : Int32), h))
set_option maxRecDepth 100000 in
theorem F_Mod_isRest_c65_ok {d : Nat} {q : (Int32 × LH)} {k65 : Nat → Int32 → Int32 → Int32 → Int32 → LH → Option (Int32 × LH)} (hd : 2 ≤ d) (hk65 : ∀ (l0 : Nat) (l2 : Int32) (l3 : Int32) (l5 : Int32) (l6 : Int32) (u1 : Value) (u4 : Value) (u7 : Value) (h : LH), k65 l0 l2 l3 l5 l6 h = some q → JR d jM_243 65 [.ref l0, u1, .int l2, .int l3, u4, .int l5, .int l6, u7] [] h (jo_i q)) {l0 : Nat} {l2 : Int32} {l3 : Int32} {l5 : Int32} {l6 : Int32} {u1 : Value} {u4 : Value} {u7 : Value} {h : LH} : F_Mod_isRest_c65 k65 l0 l2 l3 l5 l6 h = some q → JR d jM_243 65 [.ref l0, u1, .int l2, .int l3, u4, .int l5, .int l6, u7] [] h (jo_i q) := by
 unfold F_Mod_isRest_c65
 exact jr_iload 65 67 rfl rfl rfl
  (jr_aloadn 67 68 rfl rfl rfl
  (jr_gr 68 71 rfl jg_11_23_2 rfl (fun v1 =>
  jr_iconst 71 72 (0 : Int32) rfl jc_i_0 rfl
  (jr_ia 72 73 rfl rfl (fun v2 =>
  jr_icmp_ge 73 97 76 rfl rfl rfl
  (jr_iconst 97 98 (1 : Int32) rfl jc_i_1 rfl
  (jr_rz 98 rfl rfl))
  (jr_aloadn 76 77 rfl rfl rfl
  (jr_iloadn 77 78 rfl rfl rfl
  (jr_iloadn 78 79 rfl rfl rfl
  (jr_iload 79 81 rfl rfl rfl
  (jr_cVi 81 84 [] rfl rfl rfl rfl rfl rfl rfl rfl (as := [.int l2, .int l3, .int l6]) (F_Mod_steals_ok (Nat.le_trans (by decide : 2 ≤ 2) hd)) (fun v3 h4 =>
  jr_iload 84 86 rfl rfl rfl
  (jr_icmp_ge 86 91 89 rfl rfl rfl
  (jr_iinc 91 94 [.ref l0, u1, .int l2, .int l3, u4, .int l5, .int (l6 + (1 : Int32)), u7] rfl jc_i_1 rfl rfl rfl rfl
  (jr_goto 94 65 rfl rfl
  ((hk65 _ _ _ _ _ _ _ _ _))))
  (jr_iconst 89 90 (0 : Int32) rfl jc_i_0 rfl
  (jr_rz 90 rfl rfl))))))))))))))
noncomputable def F_Mod_isRest_l65 : Nat → Nat → Int32 → Int32 → Int32 → Int32 → LH → Option (Int32 × LH)
 | 0, _, _, _, _, _, _ => none
 | n + 1, l0, l2, l3, l5, l6, h => F_Mod_isRest_c65 (F_Mod_isRest_l65 n) l0 l2 l3 l5 l6 h
theorem F_Mod_isRest_l65_ok {d : Nat} {q : (Int32 × LH)} (hd : 2 ≤ d) : ∀ (n : Nat) (l0 : Nat) (l2 : Int32) (l3 : Int32) (l5 : Int32) (l6 : Int32) (u1 : Value) (u4 : Value) (u7 : Value) (h : LH), F_Mod_isRest_l65 n l0 l2 l3 l5 l6 h = some q → JR d jM_243 65 [.ref l0, u1, .int l2, .int l3, u4, .int l5, .int l6, u7] [] h (jo_i q)
 | 0 => fun _ _ _ _ _ _ _ _ _ hq => nomatch (show (none : Option (Int32 × LH)) = some q from hq)
 | n + 1 => fun _ _ _ _ _ _ _ _ _ hq => F_Mod_isRest_c65_ok hd (F_Mod_isRest_l65_ok hd n) hq
noncomputable def F_Mod_isRest_c22 (k13 : Nat → Int32 → Int32 → Int32 → Int32 → Int32 → Int32 → LH → Option (Int32 × LH)) (k22 : Nat → Int32 → Int32 → Int32 → Int32 → Int32 → Int32 → Int32 → LH → Option (Int32 × LH)) (l0 : Nat) (l1 : Int32) (l2 : Int32) (l3 : Int32) (l4 : Int32) (l5 : Int32) (l6 : Int32) (l7 : Int32) (h : LH) : Option (Int32 × LH) :=
 jf_gr h l0 11 12 fun v1 =>
 jf_ia h v1 (0 : Int32) fun v2 =>
 if l7 < v2 then
 jf_kd h l0 11
 (jf_bi (F_Mod_steals l0 l6 l7 l4 h) fun v3 h4 =>
 if l5 < v3 then
 jf_rz (0 : Int32) (some ((0 : Int32), h4))
else
 k22 l0 l1 l2 l3 l4 l5 l6 (l7 + (1 : Int32)) h4)
else
 k13 l0 l1 l2 l3 l4 l5 (l6 + (1 : Int32)) h
set_option maxRecDepth 100000 in
theorem F_Mod_isRest_c22_ok {d : Nat} {q : (Int32 × LH)} {k13 : Nat → Int32 → Int32 → Int32 → Int32 → Int32 → Int32 → LH → Option (Int32 × LH)} {k22 : Nat → Int32 → Int32 → Int32 → Int32 → Int32 → Int32 → Int32 → LH → Option (Int32 × LH)} (hd : 2 ≤ d) (hk13 : ∀ (l0 : Nat) (l1 : Int32) (l2 : Int32) (l3 : Int32) (l4 : Int32) (l5 : Int32) (l6 : Int32) (u7 : Value) (h : LH), k13 l0 l1 l2 l3 l4 l5 l6 h = some q → JR d jM_243 13 [.ref l0, .int l1, .int l2, .int l3, .int l4, .int l5, .int l6, u7] [] h (jo_i q)) (hk22 : ∀ (l0 : Nat) (l1 : Int32) (l2 : Int32) (l3 : Int32) (l4 : Int32) (l5 : Int32) (l6 : Int32) (l7 : Int32) (h : LH), k22 l0 l1 l2 l3 l4 l5 l6 l7 h = some q → JR d jM_243 22 [.ref l0, .int l1, .int l2, .int l3, .int l4, .int l5, .int l6, .int l7] [] h (jo_i q)) {l0 : Nat} {l1 : Int32} {l2 : Int32} {l3 : Int32} {l4 : Int32} {l5 : Int32} {l6 : Int32} {l7 : Int32} {h : LH} : F_Mod_isRest_c22 k13 k22 l0 l1 l2 l3 l4 l5 l6 l7 h = some q → JR d jM_243 22 [.ref l0, .int l1, .int l2, .int l3, .int l4, .int l5, .int l6, .int l7] [] h (jo_i q) := by
 unfold F_Mod_isRest_c22
 exact jr_iload 22 24 rfl rfl rfl
  (jr_aloadn 24 25 rfl rfl rfl
  (jr_gr 25 28 rfl jg_11_23_2 rfl (fun v1 =>
  jr_iconst 28 29 (0 : Int32) rfl jc_i_0 rfl
  (jr_ia 29 30 rfl rfl (fun v2 =>
  jr_icmp_ge 30 56 33 rfl rfl rfl
  (jr_iinc 56 59 [.ref l0, .int l1, .int l2, .int l3, .int l4, .int l5, .int (l6 + (1 : Int32)), .int l7] rfl jc_i_1 rfl rfl rfl rfl
  (jr_goto 59 13 rfl rfl
  ((hk13 _ _ _ _ _ _ _ _ _))))
  (jr_aloadn 33 34 rfl rfl rfl
  (jr_iload 34 36 rfl rfl rfl
  (jr_iload 36 38 rfl rfl rfl
  (jr_iload 38 40 rfl rfl rfl
  (jr_cVi 40 43 [] rfl rfl rfl rfl rfl rfl rfl rfl (as := [.int l6, .int l7, .int l4]) (F_Mod_steals_ok (Nat.le_trans (by decide : 2 ≤ 2) hd)) (fun v3 h4 =>
  jr_iload 43 45 rfl rfl rfl
  (jr_icmp_le 45 50 48 rfl rfl rfl
  (jr_iinc 50 53 [.ref l0, .int l1, .int l2, .int l3, .int l4, .int l5, .int l6, .int (l7 + (1 : Int32))] rfl jc_i_1 rfl rfl rfl rfl
  (jr_goto 53 22 rfl rfl
  ((hk22 _ _ _ _ _ _ _ _ _))))
  (jr_iconst 48 49 (0 : Int32) rfl jc_i_0 rfl
  (jr_rz 49 rfl rfl))))))))))))))
noncomputable def F_Mod_isRest_l22 (k13 : Nat → Int32 → Int32 → Int32 → Int32 → Int32 → Int32 → LH → Option (Int32 × LH)) : Nat → Nat → Int32 → Int32 → Int32 → Int32 → Int32 → Int32 → Int32 → LH → Option (Int32 × LH)
 | 0, _, _, _, _, _, _, _, _, _ => none
 | n + 1, l0, l1, l2, l3, l4, l5, l6, l7, h => F_Mod_isRest_c22 k13 (F_Mod_isRest_l22 k13 n) l0 l1 l2 l3 l4 l5 l6 l7 h
theorem F_Mod_isRest_l22_ok {d : Nat} {q : (Int32 × LH)} {k13 : Nat → Int32 → Int32 → Int32 → Int32 → Int32 → Int32 → LH → Option (Int32 × LH)} (hd : 2 ≤ d) (hk13 : ∀ (l0 : Nat) (l1 : Int32) (l2 : Int32) (l3 : Int32) (l4 : Int32) (l5 : Int32) (l6 : Int32) (u7 : Value) (h : LH), k13 l0 l1 l2 l3 l4 l5 l6 h = some q → JR d jM_243 13 [.ref l0, .int l1, .int l2, .int l3, .int l4, .int l5, .int l6, u7] [] h (jo_i q)) : ∀ (n : Nat) (l0 : Nat) (l1 : Int32) (l2 : Int32) (l3 : Int32) (l4 : Int32) (l5 : Int32) (l6 : Int32) (l7 : Int32) (h : LH), F_Mod_isRest_l22 k13 n l0 l1 l2 l3 l4 l5 l6 l7 h = some q → JR d jM_243 22 [.ref l0, .int l1, .int l2, .int l3, .int l4, .int l5, .int l6, .int l7] [] h (jo_i q)
 | 0 => fun _ _ _ _ _ _ _ _ _ hq => nomatch (show (none : Option (Int32 × LH)) = some q from hq)
 | n + 1 => fun _ _ _ _ _ _ _ _ _ hq => F_Mod_isRest_c22_ok hd hk13 (F_Mod_isRest_l22_ok hd hk13 n) hq
noncomputable def F_Mod_isRest_c13 (k13 : Nat → Int32 → Int32 → Int32 → Int32 → Int32 → Int32 → LH → Option (Int32 × LH)) (l0 : Nat) (l1 : Int32) (l2 : Int32) (l3 : Int32) (l4 : Int32) (l5 : Int32) (l6 : Int32) (h : LH) : Option (Int32 × LH) :=
 if l6 < l1 then
 F_Mod_isRest_l22 k13 jF l0 l1 l2 l3 l4 l5 l6 (0 : Int32) h
else
 F_Mod_isRest_l65  jF l0 l2 l3 l5 (0 : Int32) h
set_option maxRecDepth 100000 in
theorem F_Mod_isRest_c13_ok {d : Nat} {q : (Int32 × LH)} {k13 : Nat → Int32 → Int32 → Int32 → Int32 → Int32 → Int32 → LH → Option (Int32 × LH)} (hd : 2 ≤ d) (hk13 : ∀ (l0 : Nat) (l1 : Int32) (l2 : Int32) (l3 : Int32) (l4 : Int32) (l5 : Int32) (l6 : Int32) (u7 : Value) (h : LH), k13 l0 l1 l2 l3 l4 l5 l6 h = some q → JR d jM_243 13 [.ref l0, .int l1, .int l2, .int l3, .int l4, .int l5, .int l6, u7] [] h (jo_i q)) {l0 : Nat} {l1 : Int32} {l2 : Int32} {l3 : Int32} {l4 : Int32} {l5 : Int32} {l6 : Int32} {u7 : Value} {h : LH} : F_Mod_isRest_c13 k13 l0 l1 l2 l3 l4 l5 l6 h = some q → JR d jM_243 13 [.ref l0, .int l1, .int l2, .int l3, .int l4, .int l5, .int l6, u7] [] h (jo_i q) := by
 unfold F_Mod_isRest_c13
 exact jr_iload 13 15 rfl rfl rfl
  (jr_iloadn 15 16 rfl rfl rfl
  (jr_icmp_ge 16 62 19 rfl rfl rfl
  (jr_iconst 62 63 (0 : Int32) rfl jc_i_0 rfl
  (jr_istore 63 65 [.ref l0, .int l1, .int l2, .int l3, .int l4, .int l5, .int (0 : Int32), u7] rfl rfl rfl rfl
  ((F_Mod_isRest_l65_ok hd  jF _ _ _ _ _ _ _ _ _))))
  (jr_iconst 19 20 (0 : Int32) rfl jc_i_0 rfl
  (jr_istore 20 22 [.ref l0, .int l1, .int l2, .int l3, .int l4, .int l5, .int l6, .int (0 : Int32)] rfl rfl rfl rfl
  ((F_Mod_isRest_l22_ok hd hk13 jF _ _ _ _ _ _ _ _ _))))))
noncomputable def F_Mod_isRest_l13 : Nat → Nat → Int32 → Int32 → Int32 → Int32 → Int32 → Int32 → LH → Option (Int32 × LH)
 | 0, _, _, _, _, _, _, _, _ => none
 | n + 1, l0, l1, l2, l3, l4, l5, l6, h => F_Mod_isRest_c13 (F_Mod_isRest_l13 n) l0 l1 l2 l3 l4 l5 l6 h
theorem F_Mod_isRest_l13_ok {d : Nat} {q : (Int32 × LH)} (hd : 2 ≤ d) : ∀ (n : Nat) (l0 : Nat) (l1 : Int32) (l2 : Int32) (l3 : Int32) (l4 : Int32) (l5 : Int32) (l6 : Int32) (u7 : Value) (h : LH), F_Mod_isRest_l13 n l0 l1 l2 l3 l4 l5 l6 h = some q → JR d jM_243 13 [.ref l0, .int l1, .int l2, .int l3, .int l4, .int l5, .int l6, u7] [] h (jo_i q)
 | 0 => fun _ _ _ _ _ _ _ _ _ hq => nomatch (show (none : Option (Int32 × LH)) = some q from hq)
 | n + 1 => fun _ _ _ _ _ _ _ _ _ hq => F_Mod_isRest_c13_ok hd (F_Mod_isRest_l13_ok hd n) hq
noncomputable def F_Mod_isRest (l0 : Nat) (l1 : Int32) (l2 : Int32) (l3 : Int32) (l4 : Int32) (h : LH) : Option (Int32 × LH) :=
 jf_kd h l0 11
 (jf_bi (F_Mod_steals l0 l2 l3 l4 h) fun v1 h2 =>
 F_Mod_isRest_l13  jF l0 l1 l2 l3 l4 v1 (0 : Int32) h2)
set_option maxRecDepth 100000 in
theorem F_Mod_isRest_ok {d : Nat} (hd : 3 ≤ d) {l0 : Nat} {l1 : Int32} {l2 : Int32} {l3 : Int32} {l4 : Int32} {h : LH} {q : (Int32 × LH)} : F_Mod_isRest l0 l1 l2 l3 l4 h = some q → jl_Sem jt_T jt_Ms d 243 [.ref l0, .int l1, .int l2, .int l3, .int l4] h (jo_i q) := by
 unfold F_Mod_isRest
 exact jr_enter (D := 2) hd jM_243_at rfl rfl rfl (fun d hd =>
  jr_aloadn 0 1 rfl rfl rfl
  (jr_iloadn 1 2 rfl rfl rfl
  (jr_iloadn 2 3 rfl rfl rfl
  (jr_iload 3 5 rfl rfl rfl
  (jr_cVi 5 8 [] rfl rfl rfl rfl rfl rfl rfl rfl (as := [.int l2, .int l3, .int l4]) (F_Mod_steals_ok (Nat.le_trans (by decide : 2 ≤ 2) hd)) (fun v1 h2 =>
  jr_istore 8 10 [.ref l0, .int l1, .int l2, .int l3, .int l4, .int v1, .retAddr 0, .retAddr 0] rfl rfl rfl rfl
  (jr_iconst 10 11 (0 : Int32) rfl jc_i_0 rfl
  (jr_istore 11 13 [.ref l0, .int l1, .int l2, .int l3, .int l4, .int v1, .int (0 : Int32), .retAddr 0] rfl rfl rfl rfl
  ((F_Mod_isRest_l13_ok hd  jF _ _ _ _ _ _ _ _ _))))))))))
noncomputable def jM_242 : JMeth := (11, false, 1, jk_242, [], 9)
set_option maxRecDepth 100000 in
theorem jM_242_at : jt_Ms 242 = some jM_242 := rfl
noncomputable def F_Mod_guard_b231 (s0 : Int32) (h : LH) : Option (Int32 × LH) :=
 some (s0, h)
set_option maxRecDepth 100000 in
theorem F_Mod_guard_b231_ok {d : Nat} {q : (Int32 × LH)} (hd : 8 ≤ d) {s0 : Int32} {u0 : Value} {u1 : Value} {u2 : Value} {u3 : Value} {u4 : Value} {u5 : Value} {u6 : Value} {u7 : Value} {u8 : Value} {h : LH} : F_Mod_guard_b231 s0 h = some q → JR d jM_242 231 [u0, u1, u2, u3, u4, u5, u6, u7, u8] [.int s0] h (jo_i q) := by
 unfold F_Mod_guard_b231
 exact jr_ri 231 rfl rfl
noncomputable def F_Mod_guard_b193 (k93 : Nat → Int32 → Int32 → Int32 → Int32 → Int32 → Int32 → LH → Option (Int32 × LH)) (k102 : Nat → Int32 → Int32 → Int32 → Int32 → Int32 → Int32 → Int32 → LH → Option (Int32 × LH)) (k116 : Nat → Int32 → Int32 → Int32 → Int32 → Int32 → Int32 → Int32 → Int32 → LH → Option (Int32 × LH)) (l0 : Nat) (l1 : Int32) (l2 : Int32) (l3 : Int32) (l4 : Int32) (l5 : Int32) (l6 : Int32) (l7 : Int32) (l8 : Int32) (h : LH) : Option (Int32 × LH) :=
 k116 l0 l1 l2 l3 l4 l5 l6 l7 (l8 + (1 : Int32)) h
set_option maxRecDepth 100000 in
theorem F_Mod_guard_b193_ok {d : Nat} {q : (Int32 × LH)} {k93 : Nat → Int32 → Int32 → Int32 → Int32 → Int32 → Int32 → LH → Option (Int32 × LH)} {k102 : Nat → Int32 → Int32 → Int32 → Int32 → Int32 → Int32 → Int32 → LH → Option (Int32 × LH)} {k116 : Nat → Int32 → Int32 → Int32 → Int32 → Int32 → Int32 → Int32 → Int32 → LH → Option (Int32 × LH)} (hd : 8 ≤ d) (hk93 : ∀ (l0 : Nat) (l1 : Int32) (l2 : Int32) (l3 : Int32) (l4 : Int32) (l5 : Int32) (l6 : Int32) (u7 : Value) (u8 : Value) (h : LH), k93 l0 l1 l2 l3 l4 l5 l6 h = some q → JR d jM_242 93 [.ref l0, .int l1, .int l2, .int l3, .int l4, .int l5, .int l6, u7, u8] [] h (jo_i q)) (hk102 : ∀ (l0 : Nat) (l1 : Int32) (l2 : Int32) (l3 : Int32) (l4 : Int32) (l5 : Int32) (l6 : Int32) (l7 : Int32) (u8 : Value) (h : LH), k102 l0 l1 l2 l3 l4 l5 l6 l7 h = some q → JR d jM_242 102 [.ref l0, .int l1, .int l2, .int l3, .int l4, .int l5, .int l6, .int l7, u8] [] h (jo_i q)) (hk116 : ∀ (l0 : Nat) (l1 : Int32) (l2 : Int32) (l3 : Int32) (l4 : Int32) (l5 : Int32) (l6 : Int32) (l7 : Int32) (l8 : Int32) (h : LH), k116 l0 l1 l2 l3 l4 l5 l6 l7 l8 h = some q → JR d jM_242 116 [.ref l0, .int l1, .int l2, .int l3, .int l4, .int l5, .int l6, .int l7, .int l8] [] h (jo_i q)) {l0 : Nat} {l1 : Int32} {l2 : Int32} {l3 : Int32} {l4 : Int32} {l5 : Int32} {l6 : Int32} {l7 : Int32} {l8 : Int32} {h : LH} : F_Mod_guard_b193 k93 k102 k116 l0 l1 l2 l3 l4 l5 l6 l7 l8 h = some q → JR d jM_242 193 [.ref l0, .int l1, .int l2, .int l3, .int l4, .int l5, .int l6, .int l7, .int l8] [] h (jo_i q) := by
 unfold F_Mod_guard_b193
 exact jr_iinc 193 196 [.ref l0, .int l1, .int l2, .int l3, .int l4, .int l5, .int l6, .int l7, .int (l8 + (1 : Int32))] rfl jc_i_1 rfl rfl rfl rfl
  (jr_goto 196 116 rfl rfl
  ((hk116 _ _ _ _ _ _ _ _ _ _)))
noncomputable def F_Mod_guard_b188 (k93 : Nat → Int32 → Int32 → Int32 → Int32 → Int32 → Int32 → LH → Option (Int32 × LH)) (k102 : Nat → Int32 → Int32 → Int32 → Int32 → Int32 → Int32 → Int32 → LH → Option (Int32 × LH)) (k116 : Nat → Int32 → Int32 → Int32 → Int32 → Int32 → Int32 → Int32 → Int32 → LH → Option (Int32 × LH)) (l0 : Nat) (l1 : Int32) (l2 : Int32) (l3 : Int32) (l5 : Int32) (l6 : Int32) (l7 : Int32) (l8 : Int32) (s0 : Int32) (h : LH) : Option (Int32 × LH) :=
 F_Mod_guard_b193 k93 k102 k116 l0 l1 l2 (l3 + (1 : Int32)) s0 l5 l6 l7 l8 h
set_option maxRecDepth 100000 in
theorem F_Mod_guard_b188_ok {d : Nat} {q : (Int32 × LH)} {k93 : Nat → Int32 → Int32 → Int32 → Int32 → Int32 → Int32 → LH → Option (Int32 × LH)} {k102 : Nat → Int32 → Int32 → Int32 → Int32 → Int32 → Int32 → Int32 → LH → Option (Int32 × LH)} {k116 : Nat → Int32 → Int32 → Int32 → Int32 → Int32 → Int32 → Int32 → Int32 → LH → Option (Int32 × LH)} (hd : 8 ≤ d) (hk93 : ∀ (l0 : Nat) (l1 : Int32) (l2 : Int32) (l3 : Int32) (l4 : Int32) (l5 : Int32) (l6 : Int32) (u7 : Value) (u8 : Value) (h : LH), k93 l0 l1 l2 l3 l4 l5 l6 h = some q → JR d jM_242 93 [.ref l0, .int l1, .int l2, .int l3, .int l4, .int l5, .int l6, u7, u8] [] h (jo_i q)) (hk102 : ∀ (l0 : Nat) (l1 : Int32) (l2 : Int32) (l3 : Int32) (l4 : Int32) (l5 : Int32) (l6 : Int32) (l7 : Int32) (u8 : Value) (h : LH), k102 l0 l1 l2 l3 l4 l5 l6 l7 h = some q → JR d jM_242 102 [.ref l0, .int l1, .int l2, .int l3, .int l4, .int l5, .int l6, .int l7, u8] [] h (jo_i q)) (hk116 : ∀ (l0 : Nat) (l1 : Int32) (l2 : Int32) (l3 : Int32) (l4 : Int32) (l5 : Int32) (l6 : Int32) (l7 : Int32) (l8 : Int32) (h : LH), k116 l0 l1 l2 l3 l4 l5 l6 l7 l8 h = some q → JR d jM_242 116 [.ref l0, .int l1, .int l2, .int l3, .int l4, .int l5, .int l6, .int l7, .int l8] [] h (jo_i q)) {l0 : Nat} {l1 : Int32} {l2 : Int32} {l3 : Int32} {l5 : Int32} {l6 : Int32} {l7 : Int32} {l8 : Int32} {s0 : Int32} {u4 : Value} {h : LH} : F_Mod_guard_b188 k93 k102 k116 l0 l1 l2 l3 l5 l6 l7 l8 s0 h = some q → JR d jM_242 188 [.ref l0, .int l1, .int l2, .int l3, u4, .int l5, .int l6, .int l7, .int l8] [.int s0] h (jo_i q) := by
 unfold F_Mod_guard_b188
 exact jr_istore 188 190 [.ref l0, .int l1, .int l2, .int l3, .int s0, .int l5, .int l6, .int l7, .int l8] rfl rfl rfl rfl
  (jr_iinc 190 193 [.ref l0, .int l1, .int l2, .int (l3 + (1 : Int32)), .int s0, .int l5, .int l6, .int l7, .int l8] rfl jc_i_1 rfl rfl rfl rfl
  ((F_Mod_guard_b193_ok hd hk93 hk102 hk116)))
noncomputable def F_Mod_guard_b163 (k93 : Nat → Int32 → Int32 → Int32 → Int32 → Int32 → Int32 → LH → Option (Int32 × LH)) (k102 : Nat → Int32 → Int32 → Int32 → Int32 → Int32 → Int32 → Int32 → LH → Option (Int32 × LH)) (k116 : Nat → Int32 → Int32 → Int32 → Int32 → Int32 → Int32 → Int32 → Int32 → LH → Option (Int32 × LH)) (l0 : Nat) (l1 : Int32) (l2 : Int32) (l3 : Int32) (l4 : Int32) (l6 : Int32) (l7 : Int32) (l8 : Int32) (s0 : Int32) (h : LH) : Option (Int32 × LH) :=
 if l3 = 0 then
 F_Mod_guard_b188 k93 k102 k116 l0 l1 l2 l3 s0 l6 l7 l8 ((((100 : Int32) * l6) + ((10 : Int32) * l7)) + l8) h
else
 F_Mod_guard_b188 k93 k102 k116 l0 l1 l2 l3 s0 l6 l7 l8 l4 h
set_option maxRecDepth 100000 in
theorem F_Mod_guard_b163_ok {d : Nat} {q : (Int32 × LH)} {k93 : Nat → Int32 → Int32 → Int32 → Int32 → Int32 → Int32 → LH → Option (Int32 × LH)} {k102 : Nat → Int32 → Int32 → Int32 → Int32 → Int32 → Int32 → Int32 → LH → Option (Int32 × LH)} {k116 : Nat → Int32 → Int32 → Int32 → Int32 → Int32 → Int32 → Int32 → Int32 → LH → Option (Int32 × LH)} (hd : 8 ≤ d) (hk93 : ∀ (l0 : Nat) (l1 : Int32) (l2 : Int32) (l3 : Int32) (l4 : Int32) (l5 : Int32) (l6 : Int32) (u7 : Value) (u8 : Value) (h : LH), k93 l0 l1 l2 l3 l4 l5 l6 h = some q → JR d jM_242 93 [.ref l0, .int l1, .int l2, .int l3, .int l4, .int l5, .int l6, u7, u8] [] h (jo_i q)) (hk102 : ∀ (l0 : Nat) (l1 : Int32) (l2 : Int32) (l3 : Int32) (l4 : Int32) (l5 : Int32) (l6 : Int32) (l7 : Int32) (u8 : Value) (h : LH), k102 l0 l1 l2 l3 l4 l5 l6 l7 h = some q → JR d jM_242 102 [.ref l0, .int l1, .int l2, .int l3, .int l4, .int l5, .int l6, .int l7, u8] [] h (jo_i q)) (hk116 : ∀ (l0 : Nat) (l1 : Int32) (l2 : Int32) (l3 : Int32) (l4 : Int32) (l5 : Int32) (l6 : Int32) (l7 : Int32) (l8 : Int32) (h : LH), k116 l0 l1 l2 l3 l4 l5 l6 l7 l8 h = some q → JR d jM_242 116 [.ref l0, .int l1, .int l2, .int l3, .int l4, .int l5, .int l6, .int l7, .int l8] [] h (jo_i q)) {l0 : Nat} {l1 : Int32} {l2 : Int32} {l3 : Int32} {l4 : Int32} {l6 : Int32} {l7 : Int32} {l8 : Int32} {s0 : Int32} {u5 : Value} {h : LH} : F_Mod_guard_b163 k93 k102 k116 l0 l1 l2 l3 l4 l6 l7 l8 s0 h = some q → JR d jM_242 163 [.ref l0, .int l1, .int l2, .int l3, .int l4, u5, .int l6, .int l7, .int l8] [.int s0] h (jo_i q) := by
 unfold F_Mod_guard_b163
 exact jr_istore 163 165 [.ref l0, .int l1, .int l2, .int l3, .int l4, .int s0, .int l6, .int l7, .int l8] rfl rfl rfl rfl
  (jr_iloadn 165 166 rfl rfl rfl
  (jr_if_ne 166 186 169 rfl rfl rfl
  (jr_iload 186 188 rfl rfl rfl
  ((F_Mod_guard_b188_ok hd hk93 hk102 hk116)))
  (jr_bipush 169 171 (100 : Int32) rfl jc_b_100 rfl
  (jr_iload 171 173 rfl rfl rfl
  (jr_imul 173 174 rfl rfl
  (jr_bipush 174 176 (10 : Int32) rfl jc_b_10 rfl
  (jr_iload 176 178 rfl rfl rfl
  (jr_imul 178 179 rfl rfl
  (jr_iadd 179 180 rfl rfl
  (jr_iload 180 182 rfl rfl rfl
  (jr_iadd 182 183 rfl rfl
  (jr_goto 183 188 rfl rfl
  ((F_Mod_guard_b188_ok hd hk93 hk102 hk116))))))))))))))
noncomputable def F_Mod_guard_c116 (k93 : Nat → Int32 → Int32 → Int32 → Int32 → Int32 → Int32 → LH → Option (Int32 × LH)) (k102 : Nat → Int32 → Int32 → Int32 → Int32 → Int32 → Int32 → Int32 → LH → Option (Int32 × LH)) (k116 : Nat → Int32 → Int32 → Int32 → Int32 → Int32 → Int32 → Int32 → Int32 → LH → Option (Int32 × LH)) (l0 : Nat) (l1 : Int32) (l2 : Int32) (l3 : Int32) (l4 : Int32) (l5 : Int32) (l6 : Int32) (l7 : Int32) (l8 : Int32) (h : LH) : Option (Int32 × LH) :=
 jf_gr h l0 11 12 fun v1 =>
 jf_ia h v1 (0 : Int32) fun v2 =>
 if l8 < v2 then
 jf_kd h l0 11
 (jf_bi (F_Mod_isRest l0 l1 l6 l7 l8 h) fun v3 h4 =>
 if v3 = 0 then
 F_Mod_guard_b193 k93 k102 k116 l0 l1 l2 l3 l4 l5 l6 l7 l8 h4
else
 if l3 = 0 then
 jf_kd h4 l0 11
 (jf_bi (F_Mod_steals l0 l6 l7 l8 h4) fun v5 h6 =>
 F_Mod_guard_b163 k93 k102 k116 l0 l1 l2 l3 l4 l6 l7 l8 v5 h6)
else
 F_Mod_guard_b163 k93 k102 k116 l0 l1 l2 l3 l4 l6 l7 l8 l5 h4)
else
 k102 l0 l1 l2 l3 l4 l5 l6 (l7 + (1 : Int32)) h
set_option maxRecDepth 100000 in
theorem F_Mod_guard_c116_ok {d : Nat} {q : (Int32 × LH)} {k93 : Nat → Int32 → Int32 → Int32 → Int32 → Int32 → Int32 → LH → Option (Int32 × LH)} {k102 : Nat → Int32 → Int32 → Int32 → Int32 → Int32 → Int32 → Int32 → LH → Option (Int32 × LH)} {k116 : Nat → Int32 → Int32 → Int32 → Int32 → Int32 → Int32 → Int32 → Int32 → LH → Option (Int32 × LH)} (hd : 8 ≤ d) (hk93 : ∀ (l0 : Nat) (l1 : Int32) (l2 : Int32) (l3 : Int32) (l4 : Int32) (l5 : Int32) (l6 : Int32) (u7 : Value) (u8 : Value) (h : LH), k93 l0 l1 l2 l3 l4 l5 l6 h = some q → JR d jM_242 93 [.ref l0, .int l1, .int l2, .int l3, .int l4, .int l5, .int l6, u7, u8] [] h (jo_i q)) (hk102 : ∀ (l0 : Nat) (l1 : Int32) (l2 : Int32) (l3 : Int32) (l4 : Int32) (l5 : Int32) (l6 : Int32) (l7 : Int32) (u8 : Value) (h : LH), k102 l0 l1 l2 l3 l4 l5 l6 l7 h = some q → JR d jM_242 102 [.ref l0, .int l1, .int l2, .int l3, .int l4, .int l5, .int l6, .int l7, u8] [] h (jo_i q)) (hk116 : ∀ (l0 : Nat) (l1 : Int32) (l2 : Int32) (l3 : Int32) (l4 : Int32) (l5 : Int32) (l6 : Int32) (l7 : Int32) (l8 : Int32) (h : LH), k116 l0 l1 l2 l3 l4 l5 l6 l7 l8 h = some q → JR d jM_242 116 [.ref l0, .int l1, .int l2, .int l3, .int l4, .int l5, .int l6, .int l7, .int l8] [] h (jo_i q)) {l0 : Nat} {l1 : Int32} {l2 : Int32} {l3 : Int32} {l4 : Int32} {l5 : Int32} {l6 : Int32} {l7 : Int32} {l8 : Int32} {h : LH} : F_Mod_guard_c116 k93 k102 k116 l0 l1 l2 l3 l4 l5 l6 l7 l8 h = some q → JR d jM_242 116 [.ref l0, .int l1, .int l2, .int l3, .int l4, .int l5, .int l6, .int l7, .int l8] [] h (jo_i q) := by
 unfold F_Mod_guard_c116
 exact jr_iload 116 118 rfl rfl rfl
  (jr_aloadn 118 119 rfl rfl rfl
  (jr_gr 119 122 rfl jg_11_23_2 rfl (fun v1 =>
  jr_iconst 122 123 (0 : Int32) rfl jc_i_0 rfl
  (jr_ia 123 124 rfl rfl (fun v2 =>
  jr_icmp_ge 124 199 127 rfl rfl rfl
  (jr_iinc 199 202 [.ref l0, .int l1, .int l2, .int l3, .int l4, .int l5, .int l6, .int (l7 + (1 : Int32)), .int l8] rfl jc_i_1 rfl rfl rfl rfl
  (jr_goto 202 102 rfl rfl
  ((hk102 _ _ _ _ _ _ _ _ _ _))))
  (jr_aloadn 127 128 rfl rfl rfl
  (jr_iloadn 128 129 rfl rfl rfl
  (jr_iload 129 131 rfl rfl rfl
  (jr_iload 131 133 rfl rfl rfl
  (jr_iload 133 135 rfl rfl rfl
  (jr_cVi 135 138 [] rfl rfl rfl rfl rfl rfl rfl rfl (as := [.int l1, .int l6, .int l7, .int l8]) (F_Mod_isRest_ok (Nat.le_trans (by decide : 3 ≤ 8) hd)) (fun v3 h4 =>
  jr_if_ne 138 144 141 rfl rfl rfl
  (jr_iloadn 144 145 rfl rfl rfl
  (jr_if_ne 145 161 148 rfl rfl rfl
  (jr_iload 161 163 rfl rfl rfl
  ((F_Mod_guard_b163_ok hd hk93 hk102 hk116)))
  (jr_aloadn 148 149 rfl rfl rfl
  (jr_iload 149 151 rfl rfl rfl
  (jr_iload 151 153 rfl rfl rfl
  (jr_iload 153 155 rfl rfl rfl
  (jr_cVi 155 158 [] rfl rfl rfl rfl rfl rfl rfl rfl (as := [.int l6, .int l7, .int l8]) (F_Mod_steals_ok (Nat.le_trans (by decide : 2 ≤ 8) hd)) (fun v5 h6 =>
  jr_goto 158 163 rfl rfl
  ((F_Mod_guard_b163_ok hd hk93 hk102 hk116))))))))))
  (jr_goto 141 193 rfl rfl
  ((F_Mod_guard_b193_ok hd hk93 hk102 hk116)))))))))))))))
noncomputable def F_Mod_guard_l116 (k93 : Nat → Int32 → Int32 → Int32 → Int32 → Int32 → Int32 → LH → Option (Int32 × LH)) (k102 : Nat → Int32 → Int32 → Int32 → Int32 → Int32 → Int32 → Int32 → LH → Option (Int32 × LH)) : Nat → Nat → Int32 → Int32 → Int32 → Int32 → Int32 → Int32 → Int32 → Int32 → LH → Option (Int32 × LH)
 | 0, _, _, _, _, _, _, _, _, _, _ => none
 | n + 1, l0, l1, l2, l3, l4, l5, l6, l7, l8, h => F_Mod_guard_c116 k93 k102 (F_Mod_guard_l116 k93 k102 n) l0 l1 l2 l3 l4 l5 l6 l7 l8 h
theorem F_Mod_guard_l116_ok {d : Nat} {q : (Int32 × LH)} {k93 : Nat → Int32 → Int32 → Int32 → Int32 → Int32 → Int32 → LH → Option (Int32 × LH)} {k102 : Nat → Int32 → Int32 → Int32 → Int32 → Int32 → Int32 → Int32 → LH → Option (Int32 × LH)} (hd : 8 ≤ d) (hk93 : ∀ (l0 : Nat) (l1 : Int32) (l2 : Int32) (l3 : Int32) (l4 : Int32) (l5 : Int32) (l6 : Int32) (u7 : Value) (u8 : Value) (h : LH), k93 l0 l1 l2 l3 l4 l5 l6 h = some q → JR d jM_242 93 [.ref l0, .int l1, .int l2, .int l3, .int l4, .int l5, .int l6, u7, u8] [] h (jo_i q)) (hk102 : ∀ (l0 : Nat) (l1 : Int32) (l2 : Int32) (l3 : Int32) (l4 : Int32) (l5 : Int32) (l6 : Int32) (l7 : Int32) (u8 : Value) (h : LH), k102 l0 l1 l2 l3 l4 l5 l6 l7 h = some q → JR d jM_242 102 [.ref l0, .int l1, .int l2, .int l3, .int l4, .int l5, .int l6, .int l7, u8] [] h (jo_i q)) : ∀ (n : Nat) (l0 : Nat) (l1 : Int32) (l2 : Int32) (l3 : Int32) (l4 : Int32) (l5 : Int32) (l6 : Int32) (l7 : Int32) (l8 : Int32) (h : LH), F_Mod_guard_l116 k93 k102 n l0 l1 l2 l3 l4 l5 l6 l7 l8 h = some q → JR d jM_242 116 [.ref l0, .int l1, .int l2, .int l3, .int l4, .int l5, .int l6, .int l7, .int l8] [] h (jo_i q)
 | 0 => fun _ _ _ _ _ _ _ _ _ _ hq => nomatch (show (none : Option (Int32 × LH)) = some q from hq)
 | n + 1 => fun _ _ _ _ _ _ _ _ _ _ hq => F_Mod_guard_c116_ok hd hk93 hk102 (F_Mod_guard_l116_ok hd hk93 hk102 n) hq
noncomputable def F_Mod_guard_c102 (k93 : Nat → Int32 → Int32 → Int32 → Int32 → Int32 → Int32 → LH → Option (Int32 × LH)) (k102 : Nat → Int32 → Int32 → Int32 → Int32 → Int32 → Int32 → Int32 → LH → Option (Int32 × LH)) (l0 : Nat) (l1 : Int32) (l2 : Int32) (l3 : Int32) (l4 : Int32) (l5 : Int32) (l6 : Int32) (l7 : Int32) (h : LH) : Option (Int32 × LH) :=
 jf_gr h l0 11 12 fun v1 =>
 jf_ia h v1 (0 : Int32) fun v2 =>
 if l7 < v2 then
 F_Mod_guard_l116 k93 k102 jF l0 l1 l2 l3 l4 l5 l6 l7 (0 : Int32) h
else
 k93 l0 l1 l2 l3 l4 l5 (l6 + (1 : Int32)) h
set_option maxRecDepth 100000 in
theorem F_Mod_guard_c102_ok {d : Nat} {q : (Int32 × LH)} {k93 : Nat → Int32 → Int32 → Int32 → Int32 → Int32 → Int32 → LH → Option (Int32 × LH)} {k102 : Nat → Int32 → Int32 → Int32 → Int32 → Int32 → Int32 → Int32 → LH → Option (Int32 × LH)} (hd : 8 ≤ d) (hk93 : ∀ (l0 : Nat) (l1 : Int32) (l2 : Int32) (l3 : Int32) (l4 : Int32) (l5 : Int32) (l6 : Int32) (u7 : Value) (u8 : Value) (h : LH), k93 l0 l1 l2 l3 l4 l5 l6 h = some q → JR d jM_242 93 [.ref l0, .int l1, .int l2, .int l3, .int l4, .int l5, .int l6, u7, u8] [] h (jo_i q)) (hk102 : ∀ (l0 : Nat) (l1 : Int32) (l2 : Int32) (l3 : Int32) (l4 : Int32) (l5 : Int32) (l6 : Int32) (l7 : Int32) (u8 : Value) (h : LH), k102 l0 l1 l2 l3 l4 l5 l6 l7 h = some q → JR d jM_242 102 [.ref l0, .int l1, .int l2, .int l3, .int l4, .int l5, .int l6, .int l7, u8] [] h (jo_i q)) {l0 : Nat} {l1 : Int32} {l2 : Int32} {l3 : Int32} {l4 : Int32} {l5 : Int32} {l6 : Int32} {l7 : Int32} {u8 : Value} {h : LH} : F_Mod_guard_c102 k93 k102 l0 l1 l2 l3 l4 l5 l6 l7 h = some q → JR d jM_242 102 [.ref l0, .int l1, .int l2, .int l3, .int l4, .int l5, .int l6, .int l7, u8] [] h (jo_i q) := by
 unfold F_Mod_guard_c102
 exact jr_iload 102 104 rfl rfl rfl
  (jr_aloadn 104 105 rfl rfl rfl
  (jr_gr 105 108 rfl jg_11_23_2 rfl (fun v1 =>
  jr_iconst 108 109 (0 : Int32) rfl jc_i_0 rfl
  (jr_ia 109 110 rfl rfl (fun v2 =>
  jr_icmp_ge 110 205 113 rfl rfl rfl
  (jr_iinc 205 208 [.ref l0, .int l1, .int l2, .int l3, .int l4, .int l5, .int (l6 + (1 : Int32)), .int l7, u8] rfl jc_i_1 rfl rfl rfl rfl
  (jr_goto 208 93 rfl rfl
  ((hk93 _ _ _ _ _ _ _ _ _ _))))
  (jr_iconst 113 114 (0 : Int32) rfl jc_i_0 rfl
  (jr_istore 114 116 [.ref l0, .int l1, .int l2, .int l3, .int l4, .int l5, .int l6, .int l7, .int (0 : Int32)] rfl rfl rfl rfl
  ((F_Mod_guard_l116_ok hd hk93 hk102 jF _ _ _ _ _ _ _ _ _ _)))))))))
noncomputable def F_Mod_guard_l102 (k93 : Nat → Int32 → Int32 → Int32 → Int32 → Int32 → Int32 → LH → Option (Int32 × LH)) : Nat → Nat → Int32 → Int32 → Int32 → Int32 → Int32 → Int32 → Int32 → LH → Option (Int32 × LH)
 | 0, _, _, _, _, _, _, _, _, _ => none
 | n + 1, l0, l1, l2, l3, l4, l5, l6, l7, h => F_Mod_guard_c102 k93 (F_Mod_guard_l102 k93 n) l0 l1 l2 l3 l4 l5 l6 l7 h
theorem F_Mod_guard_l102_ok {d : Nat} {q : (Int32 × LH)} {k93 : Nat → Int32 → Int32 → Int32 → Int32 → Int32 → Int32 → LH → Option (Int32 × LH)} (hd : 8 ≤ d) (hk93 : ∀ (l0 : Nat) (l1 : Int32) (l2 : Int32) (l3 : Int32) (l4 : Int32) (l5 : Int32) (l6 : Int32) (u7 : Value) (u8 : Value) (h : LH), k93 l0 l1 l2 l3 l4 l5 l6 h = some q → JR d jM_242 93 [.ref l0, .int l1, .int l2, .int l3, .int l4, .int l5, .int l6, u7, u8] [] h (jo_i q)) : ∀ (n : Nat) (l0 : Nat) (l1 : Int32) (l2 : Int32) (l3 : Int32) (l4 : Int32) (l5 : Int32) (l6 : Int32) (l7 : Int32) (u8 : Value) (h : LH), F_Mod_guard_l102 k93 n l0 l1 l2 l3 l4 l5 l6 l7 h = some q → JR d jM_242 102 [.ref l0, .int l1, .int l2, .int l3, .int l4, .int l5, .int l6, .int l7, u8] [] h (jo_i q)
 | 0 => fun _ _ _ _ _ _ _ _ _ _ hq => nomatch (show (none : Option (Int32 × LH)) = some q from hq)
 | n + 1 => fun _ _ _ _ _ _ _ _ _ _ hq => F_Mod_guard_c102_ok hd hk93 (F_Mod_guard_l102_ok hd hk93 n) hq
noncomputable def F_Mod_guard_c93 (k93 : Nat → Int32 → Int32 → Int32 → Int32 → Int32 → Int32 → LH → Option (Int32 × LH)) (l0 : Nat) (l1 : Int32) (l2 : Int32) (l3 : Int32) (l4 : Int32) (l5 : Int32) (l6 : Int32) (h : LH) : Option (Int32 × LH) :=
 if l6 < l1 then
 F_Mod_guard_l102 k93 jF l0 l1 l2 l3 l4 l5 l6 (0 : Int32) h
else
 if l2 = 0 then
 F_Mod_guard_b231  l3 h
else
 if l2 = (1 : Int32) then
 F_Mod_guard_b231  l4 h
else
 F_Mod_guard_b231  l5 h
set_option maxRecDepth 100000 in
theorem F_Mod_guard_c93_ok {d : Nat} {q : (Int32 × LH)} {k93 : Nat → Int32 → Int32 → Int32 → Int32 → Int32 → Int32 → LH → Option (Int32 × LH)} (hd : 8 ≤ d) (hk93 : ∀ (l0 : Nat) (l1 : Int32) (l2 : Int32) (l3 : Int32) (l4 : Int32) (l5 : Int32) (l6 : Int32) (u7 : Value) (u8 : Value) (h : LH), k93 l0 l1 l2 l3 l4 l5 l6 h = some q → JR d jM_242 93 [.ref l0, .int l1, .int l2, .int l3, .int l4, .int l5, .int l6, u7, u8] [] h (jo_i q)) {l0 : Nat} {l1 : Int32} {l2 : Int32} {l3 : Int32} {l4 : Int32} {l5 : Int32} {l6 : Int32} {u7 : Value} {u8 : Value} {h : LH} : F_Mod_guard_c93 k93 l0 l1 l2 l3 l4 l5 l6 h = some q → JR d jM_242 93 [.ref l0, .int l1, .int l2, .int l3, .int l4, .int l5, .int l6, u7, u8] [] h (jo_i q) := by
 unfold F_Mod_guard_c93
 exact jr_iload 93 95 rfl rfl rfl
  (jr_iloadn 95 96 rfl rfl rfl
  (jr_icmp_ge 96 211 99 rfl rfl rfl
  (jr_iloadn 211 212 rfl rfl rfl
  (jr_if_ne 212 219 215 rfl rfl rfl
  (jr_iloadn 219 220 rfl rfl rfl
  (jr_iconst 220 221 (1 : Int32) rfl jc_i_1 rfl
  (jr_icmp_ne 221 229 224 rfl rfl rfl
  (jr_iload 229 231 rfl rfl rfl
  ((F_Mod_guard_b231_ok hd )))
  (jr_iload 224 226 rfl rfl rfl
  (jr_goto 226 231 rfl rfl
  ((F_Mod_guard_b231_ok hd )))))))
  (jr_iloadn 215 216 rfl rfl rfl
  (jr_goto 216 231 rfl rfl
  ((F_Mod_guard_b231_ok hd ))))))
  (jr_iconst 99 100 (0 : Int32) rfl jc_i_0 rfl
  (jr_istore 100 102 [.ref l0, .int l1, .int l2, .int l3, .int l4, .int l5, .int l6, .int (0 : Int32), u8] rfl rfl rfl rfl
  ((F_Mod_guard_l102_ok hd hk93 jF _ _ _ _ _ _ _ _ _ _))))))
noncomputable def F_Mod_guard_l93 : Nat → Nat → Int32 → Int32 → Int32 → Int32 → Int32 → Int32 → LH → Option (Int32 × LH)
 | 0, _, _, _, _, _, _, _, _ => none
 | n + 1, l0, l1, l2, l3, l4, l5, l6, h => F_Mod_guard_c93 (F_Mod_guard_l93 n) l0 l1 l2 l3 l4 l5 l6 h
theorem F_Mod_guard_l93_ok {d : Nat} {q : (Int32 × LH)} (hd : 8 ≤ d) : ∀ (n : Nat) (l0 : Nat) (l1 : Int32) (l2 : Int32) (l3 : Int32) (l4 : Int32) (l5 : Int32) (l6 : Int32) (u7 : Value) (u8 : Value) (h : LH), F_Mod_guard_l93 n l0 l1 l2 l3 l4 l5 l6 h = some q → JR d jM_242 93 [.ref l0, .int l1, .int l2, .int l3, .int l4, .int l5, .int l6, u7, u8] [] h (jo_i q)
 | 0 => fun _ _ _ _ _ _ _ _ _ _ hq => nomatch (show (none : Option (Int32 × LH)) = some q from hq)
 | n + 1 => fun _ _ _ _ _ _ _ _ _ _ hq => F_Mod_guard_c93_ok hd (F_Mod_guard_l93_ok hd n) hq
noncomputable def F_Mod_guard_c55 (k55 : Nat → Int32 → Int32 → Int32 → Int32 → Int32 → Int32 → LH → Option (Int32 × LH)) (l0 : Nat) (l1 : Int32) (l2 : Int32) (l3 : Int32) (l4 : Int32) (l5 : Int32) (l6 : Int32) (h : LH) : Option (Int32 × LH) :=
 if l6 < l1 then
 jf_gr h l0 11 48 fun v1 =>
 jf_gr h l0 11 36 fun v2 =>
 jf_kd h l0 11
 (jf_bi (F_Mod_shutBits l0 v2 h) fun v3 h4 =>
 jf_is h4 v1 l6 v3 fun h5 =>
 jf_gr h5 l0 11 36 fun v6 =>
 jf_kd h5 l0 11
 ((F_Mod_hourEnds l0 v6 h5).bind fun h7 =>
 k55 l0 l1 l2 l3 l4 l5 (l6 + (1 : Int32)) h7))
else
 F_Mod_guard_l93  jF l0 l1 l2 l3 l4 l5 (0 : Int32) h
set_option maxRecDepth 100000 in
theorem F_Mod_guard_c55_ok {d : Nat} {q : (Int32 × LH)} {k55 : Nat → Int32 → Int32 → Int32 → Int32 → Int32 → Int32 → LH → Option (Int32 × LH)} (hd : 8 ≤ d) (hk55 : ∀ (l0 : Nat) (l1 : Int32) (l2 : Int32) (l3 : Int32) (l4 : Int32) (l5 : Int32) (l6 : Int32) (u7 : Value) (u8 : Value) (h : LH), k55 l0 l1 l2 l3 l4 l5 l6 h = some q → JR d jM_242 55 [.ref l0, .int l1, .int l2, .int l3, .int l4, .int l5, .int l6, u7, u8] [] h (jo_i q)) {l0 : Nat} {l1 : Int32} {l2 : Int32} {l3 : Int32} {l4 : Int32} {l5 : Int32} {l6 : Int32} {u7 : Value} {u8 : Value} {h : LH} : F_Mod_guard_c55 k55 l0 l1 l2 l3 l4 l5 l6 h = some q → JR d jM_242 55 [.ref l0, .int l1, .int l2, .int l3, .int l4, .int l5, .int l6, u7, u8] [] h (jo_i q) := by
 unfold F_Mod_guard_c55
 exact jr_iload 55 57 rfl rfl rfl
  (jr_iloadn 57 58 rfl rfl rfl
  (jr_icmp_ge 58 90 61 rfl rfl rfl
  (jr_iconst 90 91 (0 : Int32) rfl jc_i_0 rfl
  (jr_istore 91 93 [.ref l0, .int l1, .int l2, .int l3, .int l4, .int l5, .int (0 : Int32), u7, u8] rfl rfl rfl rfl
  ((F_Mod_guard_l93_ok hd  jF _ _ _ _ _ _ _ _ _ _))))
  (jr_aloadn 61 62 rfl rfl rfl
  (jr_gr 62 65 rfl jg_11_100_2 rfl (fun v1 =>
  jr_iload 65 67 rfl rfl rfl
  (jr_aloadn 67 68 rfl rfl rfl
  (jr_aloadn 68 69 rfl rfl rfl
  (jr_gr 69 72 rfl jg_11_88_2 rfl (fun v2 =>
  jr_cVi 72 75 [.int l6, .ref v1] rfl rfl rfl rfl rfl rfl rfl rfl (as := [.ref v2]) (F_Mod_shutBits_ok (Nat.le_trans (by decide : 7 ≤ 8) hd)) (fun v3 h4 =>
  jr_is 75 76 rfl rfl (fun h5 =>
  jr_aloadn 76 77 rfl rfl rfl
  (jr_aloadn 77 78 rfl rfl rfl
  (jr_gr 78 81 rfl jg_11_88_2 rfl (fun v6 =>
  jr_cVv 81 84 [] rfl rfl rfl rfl rfl rfl rfl rfl (as := [.ref v6]) (F_Mod_hourEnds_ok (Nat.le_trans (by decide : 8 ≤ 8) hd)) (fun h7 =>
  jr_iinc 84 87 [.ref l0, .int l1, .int l2, .int l3, .int l4, .int l5, .int (l6 + (1 : Int32)), u7, u8] rfl jc_i_1 rfl rfl rfl rfl
  (jr_goto 87 55 rfl rfl
  ((hk55 _ _ _ _ _ _ _ _ _ _))))))))))))))))))
noncomputable def F_Mod_guard_l55 : Nat → Nat → Int32 → Int32 → Int32 → Int32 → Int32 → Int32 → LH → Option (Int32 × LH)
 | 0, _, _, _, _, _, _, _, _ => none
 | n + 1, l0, l1, l2, l3, l4, l5, l6, h => F_Mod_guard_c55 (F_Mod_guard_l55 n) l0 l1 l2 l3 l4 l5 l6 h
theorem F_Mod_guard_l55_ok {d : Nat} {q : (Int32 × LH)} (hd : 8 ≤ d) : ∀ (n : Nat) (l0 : Nat) (l1 : Int32) (l2 : Int32) (l3 : Int32) (l4 : Int32) (l5 : Int32) (l6 : Int32) (u7 : Value) (u8 : Value) (h : LH), F_Mod_guard_l55 n l0 l1 l2 l3 l4 l5 l6 h = some q → JR d jM_242 55 [.ref l0, .int l1, .int l2, .int l3, .int l4, .int l5, .int l6, u7, u8] [] h (jo_i q)
 | 0 => fun _ _ _ _ _ _ _ _ _ _ hq => nomatch (show (none : Option (Int32 × LH)) = some q from hq)
 | n + 1 => fun _ _ _ _ _ _ _ _ _ _ hq => F_Mod_guard_c55_ok hd (F_Mod_guard_l55_ok hd n) hq
noncomputable def F_Mod_guard_b30 (l0 : Nat) (l1 : Int32) (l2 : Int32) (s0 : Nat) (s1 : Int32) (h : LH) : Option (Int32 × LH) :=
 jf_kd h s0 11
 (jf_bi (F_Mod_bad s0 s1 (1 : Int32) (1 : Int32) h) fun v1 h2 =>
 if v1 = 0 then
 jf_kd h2 l0 11
 ((F_Mod_tries l0 h2).bind fun h3 =>
 F_Mod_guard_l55  jF l0 l1 l2 (0 : Int32) (-1 : Int32) (0 : Int32) (0 : Int32) h3)
else
 some ((0 : Int32), h2))
set_option maxRecDepth 100000 in
theorem F_Mod_guard_b30_ok {d : Nat} {q : (Int32 × LH)} (hd : 8 ≤ d) {l0 : Nat} {l1 : Int32} {l2 : Int32} {s0 : Nat} {s1 : Int32} {u3 : Value} {u4 : Value} {u5 : Value} {u6 : Value} {u7 : Value} {u8 : Value} {h : LH} : F_Mod_guard_b30 l0 l1 l2 s0 s1 h = some q → JR d jM_242 30 [.ref l0, .int l1, .int l2, u3, u4, u5, u6, u7, u8] [.int s1, .ref s0] h (jo_i q) := by
 unfold F_Mod_guard_b30
 exact jr_iconst 30 31 (1 : Int32) rfl jc_i_1 rfl
  (jr_iconst 31 32 (1 : Int32) rfl jc_i_1 rfl
  (jr_cVi 32 35 [] rfl rfl rfl rfl rfl rfl rfl rfl (as := [.int s1, .int (1 : Int32), .int (1 : Int32)]) (F_Mod_bad_ok (Nat.le_trans (by decide : 1 ≤ 8) hd)) (fun v1 h2 =>
  jr_if_eq 35 40 38 rfl rfl rfl
  (jr_iconst 40 41 (0 : Int32) rfl jc_i_0 rfl
  (jr_istoren 41 42 [.ref l0, .int l1, .int l2, .int (0 : Int32), u4, u5, u6, u7, u8] rfl rfl rfl rfl
  (jr_iconst 42 43 (-1 : Int32) rfl jc_i_m1 rfl
  (jr_istore 43 45 [.ref l0, .int l1, .int l2, .int (0 : Int32), .int (-1 : Int32), u5, u6, u7, u8] rfl rfl rfl rfl
  (jr_iconst 45 46 (0 : Int32) rfl jc_i_0 rfl
  (jr_istore 46 48 [.ref l0, .int l1, .int l2, .int (0 : Int32), .int (-1 : Int32), .int (0 : Int32), u6, u7, u8] rfl rfl rfl rfl
  (jr_aloadn 48 49 rfl rfl rfl
  (jr_cVv 49 52 [] rfl rfl rfl rfl rfl rfl rfl rfl (as := []) (F_Mod_tries_ok (Nat.le_trans (by decide : 2 ≤ 8) hd)) (fun h3 =>
  jr_iconst 52 53 (0 : Int32) rfl jc_i_0 rfl
  (jr_istore 53 55 [.ref l0, .int l1, .int l2, .int (0 : Int32), .int (-1 : Int32), .int (0 : Int32), .int (0 : Int32), u7, u8] rfl rfl rfl rfl
  ((F_Mod_guard_l55_ok hd  jF _ _ _ _ _ _ _ _ _ _))))))))))))
  (jr_iconst 38 39 (0 : Int32) rfl jc_i_0 rfl
  (jr_ri 39 rfl rfl)))))
noncomputable def F_Mod_guard_b25 (l0 : Nat) (l1 : Int32) (l2 : Int32) (s0 : Nat) (h : LH) : Option (Int32 × LH) :=
 F_Mod_guard_b30  l0 l1 l2 s0 (1 : Int32) h
set_option maxRecDepth 100000 in
theorem F_Mod_guard_b25_ok {d : Nat} {q : (Int32 × LH)} (hd : 8 ≤ d) {l0 : Nat} {l1 : Int32} {l2 : Int32} {s0 : Nat} {u3 : Value} {u4 : Value} {u5 : Value} {u6 : Value} {u7 : Value} {u8 : Value} {h : LH} : F_Mod_guard_b25 l0 l1 l2 s0 h = some q → JR d jM_242 25 [.ref l0, .int l1, .int l2, u3, u4, u5, u6, u7, u8] [.ref s0] h (jo_i q) := by
 unfold F_Mod_guard_b25
 exact jr_iconst 25 26 (1 : Int32) rfl jc_i_1 rfl
  (jr_goto 26 30 rfl rfl
  ((F_Mod_guard_b30_ok hd )))
noncomputable def F_Mod_guard (l0 : Nat) (l1 : Int32) (l2 : Int32) (h : LH) : Option (Int32 × LH) :=
 jf_pi h l0 11 0 (0 : Int32) fun h1 =>
 jf_bi (F_Mod_in l1 (1 : Int32) (24 : Int32) h1) fun v2 h3 =>
 if v2 = 0 then
 F_Mod_guard_b25  l0 l1 l2 l0 h3
else
 jf_bi (F_Mod_in l2 (0 : Int32) (2 : Int32) h3) fun v4 h5 =>
 if v4 = 0 then
 F_Mod_guard_b25  l0 l1 l2 l0 h5
else
 F_Mod_guard_b30  l0 l1 l2 l0 (0 : Int32) h5
set_option maxRecDepth 100000 in
theorem F_Mod_guard_ok {d : Nat} (hd : 9 ≤ d) {l0 : Nat} {l1 : Int32} {l2 : Int32} {h : LH} {q : (Int32 × LH)} : F_Mod_guard l0 l1 l2 h = some q → jl_Sem jt_T jt_Ms d 242 [.ref l0, .int l1, .int l2] h (jo_i q) := by
 unfold F_Mod_guard
 exact jr_enter (D := 8) hd jM_242_at rfl rfl rfl (fun d hd =>
  jr_aloadn 0 1 rfl rfl rfl
  (jr_iconst 1 2 (0 : Int32) rfl jc_i_0 rfl
  (jr_pi 2 5 rfl jg_11_109_3 rfl (fun h1 =>
  jr_aloadn 5 6 rfl rfl rfl
  (jr_iloadn 6 7 rfl rfl rfl
  (jr_iconst 7 8 (1 : Int32) rfl jc_i_1 rfl
  (jr_bipush 8 10 (24 : Int32) rfl jc_b_24 rfl
  (jr_cSi 10 13 [.ref l0] rfl rfl rfl rfl rfl rfl rfl (as := [.int l1, .int (1 : Int32), .int (24 : Int32)]) (F_Mod_in_ok (Nat.le_trans (by decide : 1 ≤ 8) hd)) (fun v2 h3 =>
  jr_if_eq 13 25 16 rfl rfl rfl
  ((F_Mod_guard_b25_ok hd ))
  (jr_iloadn 16 17 rfl rfl rfl
  (jr_iconst 17 18 (0 : Int32) rfl jc_i_0 rfl
  (jr_iconst 18 19 (2 : Int32) rfl jc_i_2 rfl
  (jr_cSi 19 22 [.ref l0] rfl rfl rfl rfl rfl rfl rfl (as := [.int l2, .int (0 : Int32), .int (2 : Int32)]) (F_Mod_in_ok (Nat.le_trans (by decide : 1 ≤ 8) hd)) (fun v4 h5 =>
  jr_if_ne 22 29 25 rfl rfl rfl
  (jr_iconst 29 30 (0 : Int32) rfl jc_i_0 rfl
  ((F_Mod_guard_b30_ok hd )))
  ((F_Mod_guard_b25_ok hd ))))))))))))))))
noncomputable def jM_246 : JMeth := (11, false, 2, jk_246, [], 2)
set_option maxRecDepth 100000 in
theorem jM_246_at : jt_Ms 246 = some jM_246 := rfl
noncomputable def F_Mod_areGates (l0 : Nat) (l1 : Int32) (h : LH) : Option (Int32 × LH) :=
 jf_gr h l0 11 12 fun v1 =>
 jf_ia h v1 (0 : Int32) fun v2 =>
 jf_bi (F_Mod_in l1 (0 : Int32) (((1 : Int32) <<< (v2 &&& 31)) - (1 : Int32)) h) fun v3 h4 =>
 jf_rz v3 (some (v3, h4))
set_option maxRecDepth 100000 in
theorem F_Mod_areGates_ok {d : Nat} (hd : 2 ≤ d) {l0 : Nat} {l1 : Int32} {h : LH} {q : (Int32 × LH)} : F_Mod_areGates l0 l1 h = some q → jl_Sem jt_T jt_Ms d 246 [.ref l0, .int l1] h (jo_i q) := by
 unfold F_Mod_areGates
 exact jr_enter (D := 1) hd jM_246_at rfl rfl rfl (fun d hd =>
  jr_iloadn 0 1 rfl rfl rfl
  (jr_iconst 1 2 (0 : Int32) rfl jc_i_0 rfl
  (jr_iconst 2 3 (1 : Int32) rfl jc_i_1 rfl
  (jr_aloadn 3 4 rfl rfl rfl
  (jr_gr 4 7 rfl jg_11_23_2 rfl (fun v1 =>
  jr_iconst 7 8 (0 : Int32) rfl jc_i_0 rfl
  (jr_ia 8 9 rfl rfl (fun v2 =>
  jr_ishl 9 10 rfl rfl
  (jr_iconst 10 11 (1 : Int32) rfl jc_i_1 rfl
  (jr_isub 11 12 rfl rfl
  (jr_cSi 12 15 [] rfl rfl rfl rfl rfl rfl rfl (as := [.int l1, .int (0 : Int32), .int (((1 : Int32) <<< (v2 &&& 31)) - (1 : Int32))]) (F_Mod_in_ok (Nat.le_trans (by decide : 1 ≤ 1) hd)) (fun v3 h4 =>
  jr_rz 15 rfl rfl))))))))))))
noncomputable def jM_245 : JMeth := (11, false, 1, jk_245, [], 9)
set_option maxRecDepth 100000 in
theorem jM_245_at : jt_Ms 245 = some jM_245 := rfl
noncomputable def F_Mod_lean_b58 (h : LH) : Option (Int32 × LH) :=
 some ((0 : Int32), h)
set_option maxRecDepth 100000 in
theorem F_Mod_lean_b58_ok {d : Nat} {q : (Int32 × LH)} (hd : 3 ≤ d) {u0 : Value} {u1 : Value} {u2 : Value} {u3 : Value} {u4 : Value} {u5 : Value} {u6 : Value} {u7 : Value} {u8 : Value} {h : LH} : F_Mod_lean_b58 h = some q → JR d jM_245 58 [u0, u1, u2, u3, u4, u5, u6, u7, u8] [] h (jo_i q) := by
 unfold F_Mod_lean_b58
 exact jr_iconst 58 59 (0 : Int32) rfl jc_i_0 rfl
  (jr_ri 59 rfl rfl)
noncomputable def F_Mod_lean_b196 (s0 : Int32) (h : LH) : Option (Int32 × LH) :=
 some (s0, h)
set_option maxRecDepth 100000 in
theorem F_Mod_lean_b196_ok {d : Nat} {q : (Int32 × LH)} (hd : 3 ≤ d) {s0 : Int32} {u0 : Value} {u1 : Value} {u2 : Value} {u3 : Value} {u4 : Value} {u5 : Value} {u6 : Value} {u7 : Value} {u8 : Value} {h : LH} : F_Mod_lean_b196 s0 h = some q → JR d jM_245 196 [u0, u1, u2, u3, u4, u5, u6, u7, u8] [.int s0] h (jo_i q) := by
 unfold F_Mod_lean_b196
 exact jr_ri 196 rfl rfl
noncomputable def F_Mod_lean_b179 (k69 : Nat → Int32 → Int32 → Int32 → Int32 → Int32 → Int32 → LH → Option (Int32 × LH)) (l0 : Nat) (l1 : Int32) (l2 : Int32) (l3 : Int32) (l4 : Int32) (l5 : Int32) (l6 : Int32) (h : LH) : Option (Int32 × LH) :=
 k69 l0 l1 l2 l3 l4 l5 (l6 + (1 : Int32)) h
set_option maxRecDepth 100000 in
theorem F_Mod_lean_b179_ok {d : Nat} {q : (Int32 × LH)} {k69 : Nat → Int32 → Int32 → Int32 → Int32 → Int32 → Int32 → LH → Option (Int32 × LH)} (hd : 3 ≤ d) (hk69 : ∀ (l0 : Nat) (l1 : Int32) (l2 : Int32) (l3 : Int32) (l4 : Int32) (l5 : Int32) (l6 : Int32) (u7 : Value) (u8 : Value) (h : LH), k69 l0 l1 l2 l3 l4 l5 l6 h = some q → JR d jM_245 69 [.ref l0, .int l1, .int l2, .int l3, .int l4, .int l5, .int l6, u7, u8] [] h (jo_i q)) {l0 : Nat} {l1 : Int32} {l2 : Int32} {l3 : Int32} {l4 : Int32} {l5 : Int32} {l6 : Int32} {u7 : Value} {u8 : Value} {h : LH} : F_Mod_lean_b179 k69 l0 l1 l2 l3 l4 l5 l6 h = some q → JR d jM_245 179 [.ref l0, .int l1, .int l2, .int l3, .int l4, .int l5, .int l6, u7, u8] [] h (jo_i q) := by
 unfold F_Mod_lean_b179
 exact jr_iinc 179 182 [.ref l0, .int l1, .int l2, .int l3, .int l4, .int l5, .int (l6 + (1 : Int32)), u7, u8] rfl jc_i_1 rfl rfl rfl rfl
  (jr_goto 182 69 rfl rfl
  ((hk69 _ _ _ _ _ _ _ _ _ _)))
noncomputable def F_Mod_lean_b171 (k69 : Nat → Int32 → Int32 → Int32 → Int32 → Int32 → Int32 → LH → Option (Int32 × LH)) (l0 : Nat) (l1 : Int32) (l2 : Int32) (l3 : Int32) (l6 : Int32) (l7 : Int32) (h : LH) : Option (Int32 × LH) :=
 F_Mod_lean_b179 k69 l0 l1 l2 l3 l6 l7 l6 h
set_option maxRecDepth 100000 in
theorem F_Mod_lean_b171_ok {d : Nat} {q : (Int32 × LH)} {k69 : Nat → Int32 → Int32 → Int32 → Int32 → Int32 → Int32 → LH → Option (Int32 × LH)} (hd : 3 ≤ d) (hk69 : ∀ (l0 : Nat) (l1 : Int32) (l2 : Int32) (l3 : Int32) (l4 : Int32) (l5 : Int32) (l6 : Int32) (u7 : Value) (u8 : Value) (h : LH), k69 l0 l1 l2 l3 l4 l5 l6 h = some q → JR d jM_245 69 [.ref l0, .int l1, .int l2, .int l3, .int l4, .int l5, .int l6, u7, u8] [] h (jo_i q)) {l0 : Nat} {l1 : Int32} {l2 : Int32} {l3 : Int32} {l6 : Int32} {l7 : Int32} {u4 : Value} {u5 : Value} {u8 : Value} {h : LH} : F_Mod_lean_b171 k69 l0 l1 l2 l3 l6 l7 h = some q → JR d jM_245 171 [.ref l0, .int l1, .int l2, .int l3, u4, u5, .int l6, .int l7, u8] [] h (jo_i q) := by
 unfold F_Mod_lean_b171
 exact jr_iload 171 173 rfl rfl rfl
  (jr_istore 173 175 [.ref l0, .int l1, .int l2, .int l3, .int l6, u5, .int l6, .int l7, u8] rfl rfl rfl rfl
  (jr_iload 175 177 rfl rfl rfl
  (jr_istore 177 179 [.ref l0, .int l1, .int l2, .int l3, .int l6, .int l7, .int l6, .int l7, u8] rfl rfl rfl rfl
  ((F_Mod_lean_b179_ok hd hk69)))))
noncomputable def F_Mod_lean_b146 (k69 : Nat → Int32 → Int32 → Int32 → Int32 → Int32 → Int32 → LH → Option (Int32 × LH)) (k81 : Nat → Int32 → Int32 → Int32 → Int32 → Int32 → Int32 → Int32 → Int32 → LH → Option (Int32 × LH)) (l0 : Nat) (l1 : Int32) (l2 : Int32) (l3 : Int32) (l4 : Int32) (l5 : Int32) (l6 : Int32) (l8 : Int32) (s0 : Int32) (s1 : Int32) (h : LH) : Option (Int32 × LH) :=
 jf_let (s0 + s1) fun v1 =>
 k81 l0 l1 l2 l3 l4 l5 l6 v1 (l8 + (1 : Int32)) h
set_option maxRecDepth 100000 in
theorem F_Mod_lean_b146_ok {d : Nat} {q : (Int32 × LH)} {k69 : Nat → Int32 → Int32 → Int32 → Int32 → Int32 → Int32 → LH → Option (Int32 × LH)} {k81 : Nat → Int32 → Int32 → Int32 → Int32 → Int32 → Int32 → Int32 → Int32 → LH → Option (Int32 × LH)} (hd : 3 ≤ d) (hk69 : ∀ (l0 : Nat) (l1 : Int32) (l2 : Int32) (l3 : Int32) (l4 : Int32) (l5 : Int32) (l6 : Int32) (u7 : Value) (u8 : Value) (h : LH), k69 l0 l1 l2 l3 l4 l5 l6 h = some q → JR d jM_245 69 [.ref l0, .int l1, .int l2, .int l3, .int l4, .int l5, .int l6, u7, u8] [] h (jo_i q)) (hk81 : ∀ (l0 : Nat) (l1 : Int32) (l2 : Int32) (l3 : Int32) (l4 : Int32) (l5 : Int32) (l6 : Int32) (l7 : Int32) (l8 : Int32) (h : LH), k81 l0 l1 l2 l3 l4 l5 l6 l7 l8 h = some q → JR d jM_245 81 [.ref l0, .int l1, .int l2, .int l3, .int l4, .int l5, .int l6, .int l7, .int l8] [] h (jo_i q)) {l0 : Nat} {l1 : Int32} {l2 : Int32} {l3 : Int32} {l4 : Int32} {l5 : Int32} {l6 : Int32} {l8 : Int32} {s0 : Int32} {s1 : Int32} {u7 : Value} {h : LH} : F_Mod_lean_b146 k69 k81 l0 l1 l2 l3 l4 l5 l6 l8 s0 s1 h = some q → JR d jM_245 146 [.ref l0, .int l1, .int l2, .int l3, .int l4, .int l5, .int l6, u7, .int l8] [.int s1, .int s0] h (jo_i q) := by
 unfold F_Mod_lean_b146
 exact jr_iadd 146 147 rfl rfl
  (jr_istoreL 147 149 (fun v1 => [.ref l0, .int l1, .int l2, .int l3, .int l4, .int l5, .int l6, .int v1, .int l8]) rfl rfl (fun _ => rfl) rfl (fun v1 =>
  jr_iinc 149 152 [.ref l0, .int l1, .int l2, .int l3, .int l4, .int l5, .int l6, .int v1, .int (l8 + (1 : Int32))] rfl jc_i_1 rfl rfl rfl rfl
  (jr_goto 152 81 rfl rfl
  ((hk81 _ _ _ _ _ _ _ _ _ _)))))
noncomputable def F_Mod_lean_b126 (k69 : Nat → Int32 → Int32 → Int32 → Int32 → Int32 → Int32 → LH → Option (Int32 × LH)) (k81 : Nat → Int32 → Int32 → Int32 → Int32 → Int32 → Int32 → Int32 → Int32 → LH → Option (Int32 × LH)) (l0 : Nat) (l1 : Int32) (l2 : Int32) (l3 : Int32) (l4 : Int32) (l5 : Int32) (l6 : Int32) (l8 : Int32) (s0 : Int32) (s1 : Int32) (s2 : Int32) (h : LH) : Option (Int32 × LH) :=
 jf_bi (F_Mod_has s1 s2 h) fun v1 h2 =>
 if v1 = 0 then
 F_Mod_lean_b146 k69 k81 l0 l1 l2 l3 l4 l5 l6 l8 s0 (0 : Int32) h2
else
 jf_gr h2 l0 11 35 fun v3 =>
 jf_kd h2 l0 11
 (jf_bi (F_Mod_smokeFrom l0 v3 l8 h2) fun v4 h5 =>
 F_Mod_lean_b146 k69 k81 l0 l1 l2 l3 l4 l5 l6 l8 s0 v4 h5)
set_option maxRecDepth 100000 in
theorem F_Mod_lean_b126_ok {d : Nat} {q : (Int32 × LH)} {k69 : Nat → Int32 → Int32 → Int32 → Int32 → Int32 → Int32 → LH → Option (Int32 × LH)} {k81 : Nat → Int32 → Int32 → Int32 → Int32 → Int32 → Int32 → Int32 → Int32 → LH → Option (Int32 × LH)} (hd : 3 ≤ d) (hk69 : ∀ (l0 : Nat) (l1 : Int32) (l2 : Int32) (l3 : Int32) (l4 : Int32) (l5 : Int32) (l6 : Int32) (u7 : Value) (u8 : Value) (h : LH), k69 l0 l1 l2 l3 l4 l5 l6 h = some q → JR d jM_245 69 [.ref l0, .int l1, .int l2, .int l3, .int l4, .int l5, .int l6, u7, u8] [] h (jo_i q)) (hk81 : ∀ (l0 : Nat) (l1 : Int32) (l2 : Int32) (l3 : Int32) (l4 : Int32) (l5 : Int32) (l6 : Int32) (l7 : Int32) (l8 : Int32) (h : LH), k81 l0 l1 l2 l3 l4 l5 l6 l7 l8 h = some q → JR d jM_245 81 [.ref l0, .int l1, .int l2, .int l3, .int l4, .int l5, .int l6, .int l7, .int l8] [] h (jo_i q)) {l0 : Nat} {l1 : Int32} {l2 : Int32} {l3 : Int32} {l4 : Int32} {l5 : Int32} {l6 : Int32} {l8 : Int32} {s0 : Int32} {s1 : Int32} {s2 : Int32} {u7 : Value} {h : LH} : F_Mod_lean_b126 k69 k81 l0 l1 l2 l3 l4 l5 l6 l8 s0 s1 s2 h = some q → JR d jM_245 126 [.ref l0, .int l1, .int l2, .int l3, .int l4, .int l5, .int l6, u7, .int l8] [.int s2, .int s1, .int s0] h (jo_i q) := by
 unfold F_Mod_lean_b126
 exact jr_cSi 126 129 [.int s0] rfl rfl rfl rfl rfl rfl rfl (as := [.int s1, .int s2]) (F_Mod_has_ok (Nat.le_trans (by decide : 1 ≤ 3) hd)) (fun v1 h2 =>
  jr_if_eq 129 145 132 rfl rfl rfl
  (jr_iconst 145 146 (0 : Int32) rfl jc_i_0 rfl
  ((F_Mod_lean_b146_ok hd hk69 hk81)))
  (jr_aloadn 132 133 rfl rfl rfl
  (jr_aloadn 133 134 rfl rfl rfl
  (jr_gr 134 137 rfl jg_11_85_2 rfl (fun v3 =>
  jr_iload 137 139 rfl rfl rfl
  (jr_cVi 139 142 [.int s0] rfl rfl rfl rfl rfl rfl rfl rfl (as := [.ref v3, .int l8]) (F_Mod_smokeFrom_ok (Nat.le_trans (by decide : 3 ≤ 3) hd)) (fun v4 h5 =>
  jr_goto 142 146 rfl rfl
  ((F_Mod_lean_b146_ok hd hk69 hk81)))))))))
noncomputable def F_Mod_lean_c81 (k69 : Nat → Int32 → Int32 → Int32 → Int32 → Int32 → Int32 → LH → Option (Int32 × LH)) (k81 : Nat → Int32 → Int32 → Int32 → Int32 → Int32 → Int32 → Int32 → Int32 → LH → Option (Int32 × LH)) (l0 : Nat) (l1 : Int32) (l2 : Int32) (l3 : Int32) (l4 : Int32) (l5 : Int32) (l6 : Int32) (l7 : Int32) (l8 : Int32) (h : LH) : Option (Int32 × LH) :=
 jf_gr h l0 11 12 fun v1 =>
 jf_ia h v1 (0 : Int32) fun v2 =>
 if l8 < v2 then
 if l8 = l1 then
 jf_gr h l0 11 35 fun v6 =>
 jf_kd h l0 11
 (jf_bi (F_Mod_standsBy l0 v6 l8 l6 h) fun v7 h8 =>
 F_Mod_lean_b126 k69 k81 l0 l1 l2 l3 l4 l5 l6 l8 l7 l2 v7 h8)
else
 jf_gr h l0 11 35 fun v3 =>
 jf_kd h l0 11
 (jf_bi (F_Mod_standsOf l0 v3 l8 h) fun v4 h5 =>
 F_Mod_lean_b126 k69 k81 l0 l1 l2 l3 l4 l5 l6 l8 l7 l2 v4 h5)
else
 if l5 = (-1 : Int32) then
 F_Mod_lean_b171 k69 l0 l1 l2 l3 l6 l7 h
else
 if l7 < l5 then
 F_Mod_lean_b171 k69 l0 l1 l2 l3 l6 l7 h
else
 F_Mod_lean_b179 k69 l0 l1 l2 l3 l4 l5 l6 h
set_option maxRecDepth 100000 in
theorem F_Mod_lean_c81_ok {d : Nat} {q : (Int32 × LH)} {k69 : Nat → Int32 → Int32 → Int32 → Int32 → Int32 → Int32 → LH → Option (Int32 × LH)} {k81 : Nat → Int32 → Int32 → Int32 → Int32 → Int32 → Int32 → Int32 → Int32 → LH → Option (Int32 × LH)} (hd : 3 ≤ d) (hk69 : ∀ (l0 : Nat) (l1 : Int32) (l2 : Int32) (l3 : Int32) (l4 : Int32) (l5 : Int32) (l6 : Int32) (u7 : Value) (u8 : Value) (h : LH), k69 l0 l1 l2 l3 l4 l5 l6 h = some q → JR d jM_245 69 [.ref l0, .int l1, .int l2, .int l3, .int l4, .int l5, .int l6, u7, u8] [] h (jo_i q)) (hk81 : ∀ (l0 : Nat) (l1 : Int32) (l2 : Int32) (l3 : Int32) (l4 : Int32) (l5 : Int32) (l6 : Int32) (l7 : Int32) (l8 : Int32) (h : LH), k81 l0 l1 l2 l3 l4 l5 l6 l7 l8 h = some q → JR d jM_245 81 [.ref l0, .int l1, .int l2, .int l3, .int l4, .int l5, .int l6, .int l7, .int l8] [] h (jo_i q)) {l0 : Nat} {l1 : Int32} {l2 : Int32} {l3 : Int32} {l4 : Int32} {l5 : Int32} {l6 : Int32} {l7 : Int32} {l8 : Int32} {h : LH} : F_Mod_lean_c81 k69 k81 l0 l1 l2 l3 l4 l5 l6 l7 l8 h = some q → JR d jM_245 81 [.ref l0, .int l1, .int l2, .int l3, .int l4, .int l5, .int l6, .int l7, .int l8] [] h (jo_i q) := by
 unfold F_Mod_lean_c81
 exact jr_iload 81 83 rfl rfl rfl
  (jr_aloadn 83 84 rfl rfl rfl
  (jr_gr 84 87 rfl jg_11_23_2 rfl (fun v1 =>
  jr_iconst 87 88 (0 : Int32) rfl jc_i_0 rfl
  (jr_ia 88 89 rfl rfl (fun v2 =>
  jr_icmp_ge 89 155 92 rfl rfl rfl
  (jr_iload 155 157 rfl rfl rfl
  (jr_iconst 157 158 (-1 : Int32) rfl jc_i_m1 rfl
  (jr_icmp_eq 158 171 161 rfl rfl rfl
  ((F_Mod_lean_b171_ok hd hk69))
  (jr_iload 161 163 rfl rfl rfl
  (jr_iload 163 165 rfl rfl rfl
  (jr_icmp_lt 165 171 168 rfl rfl rfl
  ((F_Mod_lean_b171_ok hd hk69))
  (jr_goto 168 179 rfl rfl
  ((F_Mod_lean_b179_ok hd hk69)))))))))
  (jr_iload 92 94 rfl rfl rfl
  (jr_iloadn 94 95 rfl rfl rfl
  (jr_iload 95 97 rfl rfl rfl
  (jr_iloadn 97 98 rfl rfl rfl
  (jr_icmp_ne 98 116 101 rfl rfl rfl
  (jr_aloadn 116 117 rfl rfl rfl
  (jr_aloadn 117 118 rfl rfl rfl
  (jr_gr 118 121 rfl jg_11_85_2 rfl (fun v3 =>
  jr_iload 121 123 rfl rfl rfl
  (jr_cVi 123 126 [.int l2, .int l7] rfl rfl rfl rfl rfl rfl rfl rfl (as := [.ref v3, .int l8]) (F_Mod_standsOf_ok (Nat.le_trans (by decide : 3 ≤ 3) hd)) (fun v4 h5 =>
  (F_Mod_lean_b126_ok hd hk69 hk81)))))))
  (jr_aloadn 101 102 rfl rfl rfl
  (jr_aloadn 102 103 rfl rfl rfl
  (jr_gr 103 106 rfl jg_11_85_2 rfl (fun v6 =>
  jr_iload 106 108 rfl rfl rfl
  (jr_iload 108 110 rfl rfl rfl
  (jr_cVi 110 113 [.int l2, .int l7] rfl rfl rfl rfl rfl rfl rfl rfl (as := [.ref v6, .int l8, .int l6]) (F_Mod_standsBy_ok (Nat.le_trans (by decide : 2 ≤ 3) hd)) (fun v7 h8 =>
  jr_goto 113 126 rfl rfl
  ((F_Mod_lean_b126_ok hd hk69 hk81)))))))))))))))))))
noncomputable def F_Mod_lean_l81 (k69 : Nat → Int32 → Int32 → Int32 → Int32 → Int32 → Int32 → LH → Option (Int32 × LH)) : Nat → Nat → Int32 → Int32 → Int32 → Int32 → Int32 → Int32 → Int32 → Int32 → LH → Option (Int32 × LH)
 | 0, _, _, _, _, _, _, _, _, _, _ => none
 | n + 1, l0, l1, l2, l3, l4, l5, l6, l7, l8, h => F_Mod_lean_c81 k69 (F_Mod_lean_l81 k69 n) l0 l1 l2 l3 l4 l5 l6 l7 l8 h
theorem F_Mod_lean_l81_ok {d : Nat} {q : (Int32 × LH)} {k69 : Nat → Int32 → Int32 → Int32 → Int32 → Int32 → Int32 → LH → Option (Int32 × LH)} (hd : 3 ≤ d) (hk69 : ∀ (l0 : Nat) (l1 : Int32) (l2 : Int32) (l3 : Int32) (l4 : Int32) (l5 : Int32) (l6 : Int32) (u7 : Value) (u8 : Value) (h : LH), k69 l0 l1 l2 l3 l4 l5 l6 h = some q → JR d jM_245 69 [.ref l0, .int l1, .int l2, .int l3, .int l4, .int l5, .int l6, u7, u8] [] h (jo_i q)) : ∀ (n : Nat) (l0 : Nat) (l1 : Int32) (l2 : Int32) (l3 : Int32) (l4 : Int32) (l5 : Int32) (l6 : Int32) (l7 : Int32) (l8 : Int32) (h : LH), F_Mod_lean_l81 k69 n l0 l1 l2 l3 l4 l5 l6 l7 l8 h = some q → JR d jM_245 81 [.ref l0, .int l1, .int l2, .int l3, .int l4, .int l5, .int l6, .int l7, .int l8] [] h (jo_i q)
 | 0 => fun _ _ _ _ _ _ _ _ _ _ hq => nomatch (show (none : Option (Int32 × LH)) = some q from hq)
 | n + 1 => fun _ _ _ _ _ _ _ _ _ _ hq => F_Mod_lean_c81_ok hd hk69 (F_Mod_lean_l81_ok hd hk69 n) hq
noncomputable def F_Mod_lean_c69 (k69 : Nat → Int32 → Int32 → Int32 → Int32 → Int32 → Int32 → LH → Option (Int32 × LH)) (l0 : Nat) (l1 : Int32) (l2 : Int32) (l3 : Int32) (l4 : Int32) (l5 : Int32) (l6 : Int32) (h : LH) : Option (Int32 × LH) :=
 if l6 < (4 : Int32) then
 F_Mod_lean_l81 k69 jF l0 l1 l2 l3 l4 l5 l6 (0 : Int32) (0 : Int32) h
else
 if l3 = 0 then
 F_Mod_lean_b196  l4 h
else
 F_Mod_lean_b196  l5 h
set_option maxRecDepth 100000 in
theorem F_Mod_lean_c69_ok {d : Nat} {q : (Int32 × LH)} {k69 : Nat → Int32 → Int32 → Int32 → Int32 → Int32 → Int32 → LH → Option (Int32 × LH)} (hd : 3 ≤ d) (hk69 : ∀ (l0 : Nat) (l1 : Int32) (l2 : Int32) (l3 : Int32) (l4 : Int32) (l5 : Int32) (l6 : Int32) (u7 : Value) (u8 : Value) (h : LH), k69 l0 l1 l2 l3 l4 l5 l6 h = some q → JR d jM_245 69 [.ref l0, .int l1, .int l2, .int l3, .int l4, .int l5, .int l6, u7, u8] [] h (jo_i q)) {l0 : Nat} {l1 : Int32} {l2 : Int32} {l3 : Int32} {l4 : Int32} {l5 : Int32} {l6 : Int32} {u7 : Value} {u8 : Value} {h : LH} : F_Mod_lean_c69 k69 l0 l1 l2 l3 l4 l5 l6 h = some q → JR d jM_245 69 [.ref l0, .int l1, .int l2, .int l3, .int l4, .int l5, .int l6, u7, u8] [] h (jo_i q) := by
 unfold F_Mod_lean_c69
 exact jr_iload 69 71 rfl rfl rfl
  (jr_iconst 71 72 (4 : Int32) rfl jc_i_4 rfl
  (jr_icmp_ge 72 185 75 rfl rfl rfl
  (jr_iloadn 185 186 rfl rfl rfl
  (jr_if_ne 186 194 189 rfl rfl rfl
  (jr_iload 194 196 rfl rfl rfl
  ((F_Mod_lean_b196_ok hd )))
  (jr_iload 189 191 rfl rfl rfl
  (jr_goto 191 196 rfl rfl
  ((F_Mod_lean_b196_ok hd ))))))
  (jr_iconst 75 76 (0 : Int32) rfl jc_i_0 rfl
  (jr_istore 76 78 [.ref l0, .int l1, .int l2, .int l3, .int l4, .int l5, .int l6, .int (0 : Int32), u8] rfl rfl rfl rfl
  (jr_iconst 78 79 (0 : Int32) rfl jc_i_0 rfl
  (jr_istore 79 81 [.ref l0, .int l1, .int l2, .int l3, .int l4, .int l5, .int l6, .int (0 : Int32), .int (0 : Int32)] rfl rfl rfl rfl
  ((F_Mod_lean_l81_ok hd hk69 jF _ _ _ _ _ _ _ _ _ _))))))))
noncomputable def F_Mod_lean_l69 : Nat → Nat → Int32 → Int32 → Int32 → Int32 → Int32 → Int32 → LH → Option (Int32 × LH)
 | 0, _, _, _, _, _, _, _, _ => none
 | n + 1, l0, l1, l2, l3, l4, l5, l6, h => F_Mod_lean_c69 (F_Mod_lean_l69 n) l0 l1 l2 l3 l4 l5 l6 h
theorem F_Mod_lean_l69_ok {d : Nat} {q : (Int32 × LH)} (hd : 3 ≤ d) : ∀ (n : Nat) (l0 : Nat) (l1 : Int32) (l2 : Int32) (l3 : Int32) (l4 : Int32) (l5 : Int32) (l6 : Int32) (u7 : Value) (u8 : Value) (h : LH), F_Mod_lean_l69 n l0 l1 l2 l3 l4 l5 l6 h = some q → JR d jM_245 69 [.ref l0, .int l1, .int l2, .int l3, .int l4, .int l5, .int l6, u7, u8] [] h (jo_i q)
 | 0 => fun _ _ _ _ _ _ _ _ _ _ hq => nomatch (show (none : Option (Int32 × LH)) = some q from hq)
 | n + 1 => fun _ _ _ _ _ _ _ _ _ _ hq => F_Mod_lean_c69_ok hd (F_Mod_lean_l69_ok hd n) hq
noncomputable def F_Mod_lean_b50 (l0 : Nat) (l1 : Int32) (l2 : Int32) (l3 : Int32) (s0 : Nat) (s1 : Int32) (h : LH) : Option (Int32 × LH) :=
 jf_kd h s0 11
 (jf_bi (F_Mod_bad s0 s1 (2 : Int32) (1 : Int32) h) fun v1 h2 =>
 if v1 = 0 then
 F_Mod_lean_l69  jF l0 l1 l2 l3 (0 : Int32) (-1 : Int32) (0 : Int32) h2
else
 F_Mod_lean_b58  h2)
set_option maxRecDepth 100000 in
theorem F_Mod_lean_b50_ok {d : Nat} {q : (Int32 × LH)} (hd : 3 ≤ d) {l0 : Nat} {l1 : Int32} {l2 : Int32} {l3 : Int32} {s0 : Nat} {s1 : Int32} {u4 : Value} {u5 : Value} {u6 : Value} {u7 : Value} {u8 : Value} {h : LH} : F_Mod_lean_b50 l0 l1 l2 l3 s0 s1 h = some q → JR d jM_245 50 [.ref l0, .int l1, .int l2, .int l3, u4, u5, u6, u7, u8] [.int s1, .ref s0] h (jo_i q) := by
 unfold F_Mod_lean_b50
 exact jr_iconst 50 51 (2 : Int32) rfl jc_i_2 rfl
  (jr_iconst 51 52 (1 : Int32) rfl jc_i_1 rfl
  (jr_cVi 52 55 [] rfl rfl rfl rfl rfl rfl rfl rfl (as := [.int s1, .int (2 : Int32), .int (1 : Int32)]) (F_Mod_bad_ok (Nat.le_trans (by decide : 1 ≤ 3) hd)) (fun v1 h2 =>
  jr_if_eq 55 60 58 rfl rfl rfl
  (jr_iconst 60 61 (0 : Int32) rfl jc_i_0 rfl
  (jr_istore 61 63 [.ref l0, .int l1, .int l2, .int l3, .int (0 : Int32), u5, u6, u7, u8] rfl rfl rfl rfl
  (jr_iconst 63 64 (-1 : Int32) rfl jc_i_m1 rfl
  (jr_istore 64 66 [.ref l0, .int l1, .int l2, .int l3, .int (0 : Int32), .int (-1 : Int32), u6, u7, u8] rfl rfl rfl rfl
  (jr_iconst 66 67 (0 : Int32) rfl jc_i_0 rfl
  (jr_istore 67 69 [.ref l0, .int l1, .int l2, .int l3, .int (0 : Int32), .int (-1 : Int32), .int (0 : Int32), u7, u8] rfl rfl rfl rfl
  ((F_Mod_lean_l69_ok hd  jF _ _ _ _ _ _ _ _ _ _))))))))
  ((F_Mod_lean_b58_ok hd )))))
noncomputable def F_Mod_lean_b45 (l0 : Nat) (l1 : Int32) (l2 : Int32) (l3 : Int32) (s0 : Nat) (h : LH) : Option (Int32 × LH) :=
 F_Mod_lean_b50  l0 l1 l2 l3 s0 (1 : Int32) h
set_option maxRecDepth 100000 in
theorem F_Mod_lean_b45_ok {d : Nat} {q : (Int32 × LH)} (hd : 3 ≤ d) {l0 : Nat} {l1 : Int32} {l2 : Int32} {l3 : Int32} {s0 : Nat} {u4 : Value} {u5 : Value} {u6 : Value} {u7 : Value} {u8 : Value} {h : LH} : F_Mod_lean_b45 l0 l1 l2 l3 s0 h = some q → JR d jM_245 45 [.ref l0, .int l1, .int l2, .int l3, u4, u5, u6, u7, u8] [.ref s0] h (jo_i q) := by
 unfold F_Mod_lean_b45
 exact jr_iconst 45 46 (1 : Int32) rfl jc_i_1 rfl
  (jr_goto 46 50 rfl rfl
  ((F_Mod_lean_b50_ok hd )))
noncomputable def F_Mod_lean_b19 (l0 : Nat) (l1 : Int32) (l2 : Int32) (l3 : Int32) (s0 : Nat) (s1 : Int32) (h : LH) : Option (Int32 × LH) :=
 jf_kd h s0 11
 (jf_bi (F_Mod_bad s0 s1 (1 : Int32) (0 : Int32) h) fun v1 h2 =>
 if v1 = 0 then
 jf_kd h2 l0 11
 (jf_bi (F_Mod_areGates l0 l2 h2) fun v3 h4 =>
 if v3 = 0 then
 F_Mod_lean_b45  l0 l1 l2 l3 l0 h4
else
 jf_bi (F_Mod_in l3 (0 : Int32) (1 : Int32) h4) fun v5 h6 =>
 if v5 = 0 then
 F_Mod_lean_b45  l0 l1 l2 l3 l0 h6
else
 F_Mod_lean_b50  l0 l1 l2 l3 l0 (0 : Int32) h6)
else
 F_Mod_lean_b58  h2)
set_option maxRecDepth 100000 in
theorem F_Mod_lean_b19_ok {d : Nat} {q : (Int32 × LH)} (hd : 3 ≤ d) {l0 : Nat} {l1 : Int32} {l2 : Int32} {l3 : Int32} {s0 : Nat} {s1 : Int32} {u4 : Value} {u5 : Value} {u6 : Value} {u7 : Value} {u8 : Value} {h : LH} : F_Mod_lean_b19 l0 l1 l2 l3 s0 s1 h = some q → JR d jM_245 19 [.ref l0, .int l1, .int l2, .int l3, u4, u5, u6, u7, u8] [.int s1, .ref s0] h (jo_i q) := by
 unfold F_Mod_lean_b19
 exact jr_iconst 19 20 (1 : Int32) rfl jc_i_1 rfl
  (jr_iconst 20 21 (0 : Int32) rfl jc_i_0 rfl
  (jr_cVi 21 24 [] rfl rfl rfl rfl rfl rfl rfl rfl (as := [.int s1, .int (1 : Int32), .int (0 : Int32)]) (F_Mod_bad_ok (Nat.le_trans (by decide : 1 ≤ 3) hd)) (fun v1 h2 =>
  jr_if_ne 24 58 27 rfl rfl rfl
  ((F_Mod_lean_b58_ok hd ))
  (jr_aloadn 27 28 rfl rfl rfl
  (jr_aloadn 28 29 rfl rfl rfl
  (jr_iloadn 29 30 rfl rfl rfl
  (jr_cVi 30 33 [.ref l0] rfl rfl rfl rfl rfl rfl rfl rfl (as := [.int l2]) (F_Mod_areGates_ok (Nat.le_trans (by decide : 2 ≤ 3) hd)) (fun v3 h4 =>
  jr_if_eq 33 45 36 rfl rfl rfl
  ((F_Mod_lean_b45_ok hd ))
  (jr_iloadn 36 37 rfl rfl rfl
  (jr_iconst 37 38 (0 : Int32) rfl jc_i_0 rfl
  (jr_iconst 38 39 (1 : Int32) rfl jc_i_1 rfl
  (jr_cSi 39 42 [.ref l0] rfl rfl rfl rfl rfl rfl rfl (as := [.int l3, .int (0 : Int32), .int (1 : Int32)]) (F_Mod_in_ok (Nat.le_trans (by decide : 1 ≤ 3) hd)) (fun v5 h6 =>
  jr_if_ne 42 49 45 rfl rfl rfl
  (jr_iconst 49 50 (0 : Int32) rfl jc_i_0 rfl
  ((F_Mod_lean_b50_ok hd )))
  ((F_Mod_lean_b45_ok hd )))))))))))))))
noncomputable def F_Mod_lean (l0 : Nat) (l1 : Int32) (l2 : Int32) (l3 : Int32) (h : LH) : Option (Int32 × LH) :=
 jf_pi h l0 11 0 (0 : Int32) fun h1 =>
 jf_kd h1 l0 11
 (jf_bi (F_Mod_isGate l0 l1 h1) fun v2 h3 =>
 if v2 = 0 then
 F_Mod_lean_b19  l0 l1 l2 l3 l0 (1 : Int32) h3
else
 F_Mod_lean_b19  l0 l1 l2 l3 l0 (0 : Int32) h3)
set_option maxRecDepth 100000 in
theorem F_Mod_lean_ok {d : Nat} (hd : 4 ≤ d) {l0 : Nat} {l1 : Int32} {l2 : Int32} {l3 : Int32} {h : LH} {q : (Int32 × LH)} : F_Mod_lean l0 l1 l2 l3 h = some q → jl_Sem jt_T jt_Ms d 245 [.ref l0, .int l1, .int l2, .int l3] h (jo_i q) := by
 unfold F_Mod_lean
 exact jr_enter (D := 3) hd jM_245_at rfl rfl rfl (fun d hd =>
  jr_aloadn 0 1 rfl rfl rfl
  (jr_iconst 1 2 (0 : Int32) rfl jc_i_0 rfl
  (jr_pi 2 5 rfl jg_11_109_3 rfl (fun h1 =>
  jr_aloadn 5 6 rfl rfl rfl
  (jr_aloadn 6 7 rfl rfl rfl
  (jr_iloadn 7 8 rfl rfl rfl
  (jr_cVi 8 11 [.ref l0] rfl rfl rfl rfl rfl rfl rfl rfl (as := [.int l1]) (F_Mod_isGate_ok (Nat.le_trans (by decide : 2 ≤ 3) hd)) (fun v2 h3 =>
  jr_if_ne 11 18 14 rfl rfl rfl
  (jr_iconst 18 19 (0 : Int32) rfl jc_i_0 rfl
  ((F_Mod_lean_b19_ok hd )))
  (jr_iconst 14 15 (1 : Int32) rfl jc_i_1 rfl
  (jr_goto 15 19 rfl rfl
  ((F_Mod_lean_b19_ok hd ))))))))))))
noncomputable def jM_250 : JMeth := (11, false, 1, jk_250, [], 4)
set_option maxRecDepth 100000 in
theorem jM_250_at : jt_Ms 250 = some jM_250 := rfl
noncomputable def F_Mod_scentOf_b35 (k4 : Nat → Int32 → Int32 → Int32 → LH → Option (Int32 × LH)) (l0 : Nat) (l1 : Int32) (l3 : Int32) (s0 : Int32) (s1 : Int32) (h : LH) : Option (Int32 × LH) :=
 jf_let (s0 ||| s1) fun v1 =>
 k4 l0 l1 v1 (l3 + (1 : Int32)) h
set_option maxRecDepth 100000 in
theorem F_Mod_scentOf_b35_ok {d : Nat} {q : (Int32 × LH)} {k4 : Nat → Int32 → Int32 → Int32 → LH → Option (Int32 × LH)} (hd : 1 ≤ d) (hk4 : ∀ (l0 : Nat) (l1 : Int32) (l2 : Int32) (l3 : Int32) (h : LH), k4 l0 l1 l2 l3 h = some q → JR d jM_250 4 [.ref l0, .int l1, .int l2, .int l3] [] h (jo_i q)) {l0 : Nat} {l1 : Int32} {l3 : Int32} {s0 : Int32} {s1 : Int32} {u2 : Value} {h : LH} : F_Mod_scentOf_b35 k4 l0 l1 l3 s0 s1 h = some q → JR d jM_250 35 [.ref l0, .int l1, u2, .int l3] [.int s1, .int s0] h (jo_i q) := by
 unfold F_Mod_scentOf_b35
 exact jr_ior 35 36 rfl rfl
  (jr_istorenL 36 37 (fun v1 => [.ref l0, .int l1, .int v1, .int l3]) rfl rfl (fun _ => rfl) rfl (fun v1 =>
  jr_iinc 37 40 [.ref l0, .int l1, .int v1, .int (l3 + (1 : Int32))] rfl jc_i_1 rfl rfl rfl rfl
  (jr_goto 40 4 rfl rfl
  ((hk4 _ _ _ _ _)))))
noncomputable def F_Mod_scentOf_c4 (k4 : Nat → Int32 → Int32 → Int32 → LH → Option (Int32 × LH)) (l0 : Nat) (l1 : Int32) (l2 : Int32) (l3 : Int32) (h : LH) : Option (Int32 × LH) :=
 jf_gr h l0 11 12 fun v1 =>
 jf_ia h v1 (1 : Int32) fun v2 =>
 if l3 < v2 then
 jf_bi (F_Mod_has l1 l3 h) fun v3 h4 =>
 if v3 = 0 then
 F_Mod_scentOf_b35 k4 l0 l1 l3 l2 (0 : Int32) h4
else
 jf_gr h4 l0 11 20 fun v5 =>
 jf_aa h4 v5 l3 fun v6 =>
 jf_ia h4 v6 (2 : Int32) fun v7 =>
 F_Mod_scentOf_b35 k4 l0 l1 l3 l2 v7 h4
else
 some (l2, h)
set_option maxRecDepth 100000 in
theorem F_Mod_scentOf_c4_ok {d : Nat} {q : (Int32 × LH)} {k4 : Nat → Int32 → Int32 → Int32 → LH → Option (Int32 × LH)} (hd : 1 ≤ d) (hk4 : ∀ (l0 : Nat) (l1 : Int32) (l2 : Int32) (l3 : Int32) (h : LH), k4 l0 l1 l2 l3 h = some q → JR d jM_250 4 [.ref l0, .int l1, .int l2, .int l3] [] h (jo_i q)) {l0 : Nat} {l1 : Int32} {l2 : Int32} {l3 : Int32} {h : LH} : F_Mod_scentOf_c4 k4 l0 l1 l2 l3 h = some q → JR d jM_250 4 [.ref l0, .int l1, .int l2, .int l3] [] h (jo_i q) := by
 unfold F_Mod_scentOf_c4
 exact jr_iloadn 4 5 rfl rfl rfl
  (jr_aloadn 5 6 rfl rfl rfl
  (jr_gr 6 9 rfl jg_11_23_2 rfl (fun v1 =>
  jr_iconst 9 10 (1 : Int32) rfl jc_i_1 rfl
  (jr_ia 10 11 rfl rfl (fun v2 =>
  jr_icmp_ge 11 43 14 rfl rfl rfl
  (jr_iloadn 43 44 rfl rfl rfl
  (jr_ri 44 rfl rfl))
  (jr_iloadn 14 15 rfl rfl rfl
  (jr_iloadn 15 16 rfl rfl rfl
  (jr_iloadn 16 17 rfl rfl rfl
  (jr_cSi 17 20 [.int l2] rfl rfl rfl rfl rfl rfl rfl (as := [.int l1, .int l3]) (F_Mod_has_ok (Nat.le_trans (by decide : 1 ≤ 1) hd)) (fun v3 h4 =>
  jr_if_eq 20 34 23 rfl rfl rfl
  (jr_iconst 34 35 (0 : Int32) rfl jc_i_0 rfl
  ((F_Mod_scentOf_b35_ok hd hk4)))
  (jr_aloadn 23 24 rfl rfl rfl
  (jr_gr 24 27 rfl jg_11_49_2 rfl (fun v5 =>
  jr_iloadn 27 28 rfl rfl rfl
  (jr_aa 28 29 rfl rfl (fun v6 =>
  jr_iconst 29 30 (2 : Int32) rfl jc_i_2 rfl
  (jr_ia 30 31 rfl rfl (fun v7 =>
  jr_goto 31 35 rfl rfl
  ((F_Mod_scentOf_b35_ok hd hk4)))))))))))))))))))
noncomputable def F_Mod_scentOf_l4 : Nat → Nat → Int32 → Int32 → Int32 → LH → Option (Int32 × LH)
 | 0, _, _, _, _, _ => none
 | n + 1, l0, l1, l2, l3, h => F_Mod_scentOf_c4 (F_Mod_scentOf_l4 n) l0 l1 l2 l3 h
theorem F_Mod_scentOf_l4_ok {d : Nat} {q : (Int32 × LH)} (hd : 1 ≤ d) : ∀ (n : Nat) (l0 : Nat) (l1 : Int32) (l2 : Int32) (l3 : Int32) (h : LH), F_Mod_scentOf_l4 n l0 l1 l2 l3 h = some q → JR d jM_250 4 [.ref l0, .int l1, .int l2, .int l3] [] h (jo_i q)
 | 0 => fun _ _ _ _ _ hq => nomatch (show (none : Option (Int32 × LH)) = some q from hq)
 | n + 1 => fun _ _ _ _ _ hq => F_Mod_scentOf_c4_ok hd (F_Mod_scentOf_l4_ok hd n) hq
noncomputable def F_Mod_scentOf (l0 : Nat) (l1 : Int32) (h : LH) : Option (Int32 × LH) :=
 F_Mod_scentOf_l4  jF l0 l1 (0 : Int32) (0 : Int32) h
set_option maxRecDepth 100000 in
theorem F_Mod_scentOf_ok {d : Nat} (hd : 2 ≤ d) {l0 : Nat} {l1 : Int32} {h : LH} {q : (Int32 × LH)} : F_Mod_scentOf l0 l1 h = some q → jl_Sem jt_T jt_Ms d 250 [.ref l0, .int l1] h (jo_i q) := by
 unfold F_Mod_scentOf
 exact jr_enter (D := 1) hd jM_250_at rfl rfl rfl (fun d hd =>
  jr_iconst 0 1 (0 : Int32) rfl jc_i_0 rfl
  (jr_istoren 1 2 [.ref l0, .int l1, .int (0 : Int32), .retAddr 0] rfl rfl rfl rfl
  (jr_iconst 2 3 (0 : Int32) rfl jc_i_0 rfl
  (jr_istoren 3 4 [.ref l0, .int l1, .int (0 : Int32), .int (0 : Int32)] rfl rfl rfl rfl
  ((F_Mod_scentOf_l4_ok hd  jF _ _ _ _ _))))))
noncomputable def jM_249 : JMeth := (11, false, 2, jk_249, [], 4)
set_option maxRecDepth 100000 in
theorem jM_249_at : jt_Ms 249 = some jM_249 := rfl
noncomputable def F_Mod_isFit_b39 (k2 : Nat → Int32 → Int32 → Int32 → LH → Option (Int32 × LH)) (l0 : Nat) (l1 : Int32) (l2 : Int32) (l3 : Int32) (s0 : Int32) (h : LH) : Option (Int32 × LH) :=
 jf_gr h l0 11 29 fun v1 =>
 jf_aa h v1 l3 fun v2 =>
 jf_ia h v2 (1 : Int32) fun v3 =>
 if s0 = v3 then
 k2 l0 l1 l2 (l3 + (1 : Int32)) h
else
 jf_rz (0 : Int32) (some ((0 : Int32), h))
set_option maxRecDepth 100000 in
theorem F_Mod_isFit_b39_ok {d : Nat} {q : (Int32 × LH)} {k2 : Nat → Int32 → Int32 → Int32 → LH → Option (Int32 × LH)} (hd : 3 ≤ d) (hk2 : ∀ (l0 : Nat) (l1 : Int32) (l2 : Int32) (l3 : Int32) (h : LH), k2 l0 l1 l2 l3 h = some q → JR d jM_249 2 [.ref l0, .int l1, .int l2, .int l3] [] h (jo_i q)) {l0 : Nat} {l1 : Int32} {l2 : Int32} {l3 : Int32} {s0 : Int32} {h : LH} : F_Mod_isFit_b39 k2 l0 l1 l2 l3 s0 h = some q → JR d jM_249 39 [.ref l0, .int l1, .int l2, .int l3] [.int s0] h (jo_i q) := by
 unfold F_Mod_isFit_b39
 exact jr_aloadn 39 40 rfl rfl rfl
  (jr_gr 40 43 rfl jg_11_70_2 rfl (fun v1 =>
  jr_iloadn 43 44 rfl rfl rfl
  (jr_aa 44 45 rfl rfl (fun v2 =>
  jr_iconst 45 46 (1 : Int32) rfl jc_i_1 rfl
  (jr_ia 46 47 rfl rfl (fun v3 =>
  jr_icmp_eq 47 52 50 rfl rfl rfl
  (jr_iinc 52 55 [.ref l0, .int l1, .int l2, .int (l3 + (1 : Int32))] rfl jc_i_1 rfl rfl rfl rfl
  (jr_goto 55 2 rfl rfl
  ((hk2 _ _ _ _ _))))
  (jr_iconst 50 51 (0 : Int32) rfl jc_i_0 rfl
  (jr_rz 51 rfl rfl))))))))
noncomputable def F_Mod_isFit_c2 (k2 : Nat → Int32 → Int32 → Int32 → LH → Option (Int32 × LH)) (l0 : Nat) (l1 : Int32) (l2 : Int32) (l3 : Int32) (h : LH) : Option (Int32 × LH) :=
 jf_gi h l0 11 39 fun v1 =>
 if l3 < v1 then
 jf_gr h l0 11 35 fun v2 =>
 jf_kd h l0 11
 (jf_bi (F_Mod_standsOf l0 v2 l1 h) fun v3 h4 =>
 jf_gr h4 l0 11 29 fun v5 =>
 jf_aa h4 v5 l3 fun v6 =>
 jf_ia h4 v6 (0 : Int32) fun v7 =>
 if v3 = v7 then
 jf_kd h4 l0 11
 (jf_bi (F_Mod_scentOf l0 l2 h4) fun v8 h9 =>
 F_Mod_isFit_b39 k2 l0 l1 l2 l3 v8 h9)
else
 F_Mod_isFit_b39 k2 l0 l1 l2 l3 (0 : Int32) h4)
else
 jf_rz (1 : Int32) (some ((1 : Int32), h))
set_option maxRecDepth 100000 in
theorem F_Mod_isFit_c2_ok {d : Nat} {q : (Int32 × LH)} {k2 : Nat → Int32 → Int32 → Int32 → LH → Option (Int32 × LH)} (hd : 3 ≤ d) (hk2 : ∀ (l0 : Nat) (l1 : Int32) (l2 : Int32) (l3 : Int32) (h : LH), k2 l0 l1 l2 l3 h = some q → JR d jM_249 2 [.ref l0, .int l1, .int l2, .int l3] [] h (jo_i q)) {l0 : Nat} {l1 : Int32} {l2 : Int32} {l3 : Int32} {h : LH} : F_Mod_isFit_c2 k2 l0 l1 l2 l3 h = some q → JR d jM_249 2 [.ref l0, .int l1, .int l2, .int l3] [] h (jo_i q) := by
 unfold F_Mod_isFit_c2
 exact jr_iloadn 2 3 rfl rfl rfl
  (jr_aloadn 3 4 rfl rfl rfl
  (jr_gi 4 7 rfl jg_11_205_1 rfl (fun v1 =>
  jr_icmp_ge 7 58 10 rfl rfl rfl
  (jr_iconst 58 59 (1 : Int32) rfl jc_i_1 rfl
  (jr_rz 59 rfl rfl))
  (jr_aloadn 10 11 rfl rfl rfl
  (jr_aloadn 11 12 rfl rfl rfl
  (jr_gr 12 15 rfl jg_11_85_2 rfl (fun v2 =>
  jr_iloadn 15 16 rfl rfl rfl
  (jr_cVi 16 19 [] rfl rfl rfl rfl rfl rfl rfl rfl (as := [.ref v2, .int l1]) (F_Mod_standsOf_ok (Nat.le_trans (by decide : 3 ≤ 3) hd)) (fun v3 h4 =>
  jr_aloadn 19 20 rfl rfl rfl
  (jr_gr 20 23 rfl jg_11_70_2 rfl (fun v5 =>
  jr_iloadn 23 24 rfl rfl rfl
  (jr_aa 24 25 rfl rfl (fun v6 =>
  jr_iconst 25 26 (0 : Int32) rfl jc_i_0 rfl
  (jr_ia 26 27 rfl rfl (fun v7 =>
  jr_icmp_ne 27 38 30 rfl rfl rfl
  (jr_iconst 38 39 (0 : Int32) rfl jc_i_0 rfl
  ((F_Mod_isFit_b39_ok hd hk2)))
  (jr_aloadn 30 31 rfl rfl rfl
  (jr_iloadn 31 32 rfl rfl rfl
  (jr_cVi 32 35 [] rfl rfl rfl rfl rfl rfl rfl rfl (as := [.int l2]) (F_Mod_scentOf_ok (Nat.le_trans (by decide : 2 ≤ 3) hd)) (fun v8 h9 =>
  jr_goto 35 39 rfl rfl
  ((F_Mod_isFit_b39_ok hd hk2)))))))))))))))))))))
noncomputable def F_Mod_isFit_l2 : Nat → Nat → Int32 → Int32 → Int32 → LH → Option (Int32 × LH)
 | 0, _, _, _, _, _ => none
 | n + 1, l0, l1, l2, l3, h => F_Mod_isFit_c2 (F_Mod_isFit_l2 n) l0 l1 l2 l3 h
theorem F_Mod_isFit_l2_ok {d : Nat} {q : (Int32 × LH)} (hd : 3 ≤ d) : ∀ (n : Nat) (l0 : Nat) (l1 : Int32) (l2 : Int32) (l3 : Int32) (h : LH), F_Mod_isFit_l2 n l0 l1 l2 l3 h = some q → JR d jM_249 2 [.ref l0, .int l1, .int l2, .int l3] [] h (jo_i q)
 | 0 => fun _ _ _ _ _ hq => nomatch (show (none : Option (Int32 × LH)) = some q from hq)
 | n + 1 => fun _ _ _ _ _ hq => F_Mod_isFit_c2_ok hd (F_Mod_isFit_l2_ok hd n) hq
noncomputable def F_Mod_isFit (l0 : Nat) (l1 : Int32) (l2 : Int32) (h : LH) : Option (Int32 × LH) :=
 F_Mod_isFit_l2  jF l0 l1 l2 (0 : Int32) h
set_option maxRecDepth 100000 in
theorem F_Mod_isFit_ok {d : Nat} (hd : 4 ≤ d) {l0 : Nat} {l1 : Int32} {l2 : Int32} {h : LH} {q : (Int32 × LH)} : F_Mod_isFit l0 l1 l2 h = some q → jl_Sem jt_T jt_Ms d 249 [.ref l0, .int l1, .int l2] h (jo_i q) := by
 unfold F_Mod_isFit
 exact jr_enter (D := 3) hd jM_249_at rfl rfl rfl (fun d hd =>
  jr_iconst 0 1 (0 : Int32) rfl jc_i_0 rfl
  (jr_istoren 1 2 [.ref l0, .int l1, .int l2, .int (0 : Int32)] rfl rfl rfl rfl
  ((F_Mod_isFit_l2_ok hd  jF _ _ _ _ _))))
noncomputable def jM_248 : JMeth := (11, false, 1, jk_248, [], 4)
set_option maxRecDepth 100000 in
theorem jM_248_at : jt_Ms 248 = some jM_248 := rfl
noncomputable def F_Mod_burntAt_b31 (k4 : Nat → Int32 → Int32 → Int32 → LH → Option (Int32 × LH)) (l0 : Nat) (l1 : Int32) (l3 : Int32) (s0 : Int32) (s1 : Int32) (h : LH) : Option (Int32 × LH) :=
 jf_let (s0 + s1) fun v1 =>
 k4 l0 l1 v1 (l3 + (1 : Int32)) h
set_option maxRecDepth 100000 in
theorem F_Mod_burntAt_b31_ok {d : Nat} {q : (Int32 × LH)} {k4 : Nat → Int32 → Int32 → Int32 → LH → Option (Int32 × LH)} (hd : 4 ≤ d) (hk4 : ∀ (l0 : Nat) (l1 : Int32) (l2 : Int32) (l3 : Int32) (h : LH), k4 l0 l1 l2 l3 h = some q → JR d jM_248 4 [.ref l0, .int l1, .int l2, .int l3] [] h (jo_i q)) {l0 : Nat} {l1 : Int32} {l3 : Int32} {s0 : Int32} {s1 : Int32} {u2 : Value} {h : LH} : F_Mod_burntAt_b31 k4 l0 l1 l3 s0 s1 h = some q → JR d jM_248 31 [.ref l0, .int l1, u2, .int l3] [.int s1, .int s0] h (jo_i q) := by
 unfold F_Mod_burntAt_b31
 exact jr_iadd 31 32 rfl rfl
  (jr_istorenL 32 33 (fun v1 => [.ref l0, .int l1, .int v1, .int l3]) rfl rfl (fun _ => rfl) rfl (fun v1 =>
  jr_iinc 33 36 [.ref l0, .int l1, .int v1, .int (l3 + (1 : Int32))] rfl jc_i_1 rfl rfl rfl rfl
  (jr_goto 36 4 rfl rfl
  ((hk4 _ _ _ _ _)))))
noncomputable def F_Mod_burntAt_c4 (k4 : Nat → Int32 → Int32 → Int32 → LH → Option (Int32 × LH)) (l0 : Nat) (l1 : Int32) (l2 : Int32) (l3 : Int32) (h : LH) : Option (Int32 × LH) :=
 jf_gr h l0 11 12 fun v1 =>
 jf_ia h v1 (1 : Int32) fun v2 =>
 if l3 < ((1 : Int32) <<< (v2 &&& 31)) then
 jf_kd h l0 11
 (jf_bi (F_Mod_isFit l0 l1 l3 h) fun v3 h4 =>
 if v3 = 0 then
 F_Mod_burntAt_b31 k4 l0 l1 l3 l2 (0 : Int32) h4
else
 F_Mod_burntAt_b31 k4 l0 l1 l3 l2 (1 : Int32) h4)
else
 some (l2, h)
set_option maxRecDepth 100000 in
theorem F_Mod_burntAt_c4_ok {d : Nat} {q : (Int32 × LH)} {k4 : Nat → Int32 → Int32 → Int32 → LH → Option (Int32 × LH)} (hd : 4 ≤ d) (hk4 : ∀ (l0 : Nat) (l1 : Int32) (l2 : Int32) (l3 : Int32) (h : LH), k4 l0 l1 l2 l3 h = some q → JR d jM_248 4 [.ref l0, .int l1, .int l2, .int l3] [] h (jo_i q)) {l0 : Nat} {l1 : Int32} {l2 : Int32} {l3 : Int32} {h : LH} : F_Mod_burntAt_c4 k4 l0 l1 l2 l3 h = some q → JR d jM_248 4 [.ref l0, .int l1, .int l2, .int l3] [] h (jo_i q) := by
 unfold F_Mod_burntAt_c4
 exact jr_iloadn 4 5 rfl rfl rfl
  (jr_iconst 5 6 (1 : Int32) rfl jc_i_1 rfl
  (jr_aloadn 6 7 rfl rfl rfl
  (jr_gr 7 10 rfl jg_11_23_2 rfl (fun v1 =>
  jr_iconst 10 11 (1 : Int32) rfl jc_i_1 rfl
  (jr_ia 11 12 rfl rfl (fun v2 =>
  jr_ishl 12 13 rfl rfl
  (jr_icmp_ge 13 39 16 rfl rfl rfl
  (jr_iloadn 39 40 rfl rfl rfl
  (jr_ri 40 rfl rfl))
  (jr_iloadn 16 17 rfl rfl rfl
  (jr_aloadn 17 18 rfl rfl rfl
  (jr_iloadn 18 19 rfl rfl rfl
  (jr_iloadn 19 20 rfl rfl rfl
  (jr_cVi 20 23 [.int l2] rfl rfl rfl rfl rfl rfl rfl rfl (as := [.int l1, .int l3]) (F_Mod_isFit_ok (Nat.le_trans (by decide : 4 ≤ 4) hd)) (fun v3 h4 =>
  jr_if_eq 23 30 26 rfl rfl rfl
  (jr_iconst 30 31 (0 : Int32) rfl jc_i_0 rfl
  ((F_Mod_burntAt_b31_ok hd hk4)))
  (jr_iconst 26 27 (1 : Int32) rfl jc_i_1 rfl
  (jr_goto 27 31 rfl rfl
  ((F_Mod_burntAt_b31_ok hd hk4)))))))))))))))))
noncomputable def F_Mod_burntAt_l4 : Nat → Nat → Int32 → Int32 → Int32 → LH → Option (Int32 × LH)
 | 0, _, _, _, _, _ => none
 | n + 1, l0, l1, l2, l3, h => F_Mod_burntAt_c4 (F_Mod_burntAt_l4 n) l0 l1 l2 l3 h
theorem F_Mod_burntAt_l4_ok {d : Nat} {q : (Int32 × LH)} (hd : 4 ≤ d) : ∀ (n : Nat) (l0 : Nat) (l1 : Int32) (l2 : Int32) (l3 : Int32) (h : LH), F_Mod_burntAt_l4 n l0 l1 l2 l3 h = some q → JR d jM_248 4 [.ref l0, .int l1, .int l2, .int l3] [] h (jo_i q)
 | 0 => fun _ _ _ _ _ hq => nomatch (show (none : Option (Int32 × LH)) = some q from hq)
 | n + 1 => fun _ _ _ _ _ hq => F_Mod_burntAt_c4_ok hd (F_Mod_burntAt_l4_ok hd n) hq
noncomputable def F_Mod_burntAt (l0 : Nat) (l1 : Int32) (h : LH) : Option (Int32 × LH) :=
 F_Mod_burntAt_l4  jF l0 l1 (0 : Int32) (1 : Int32) h
set_option maxRecDepth 100000 in
theorem F_Mod_burntAt_ok {d : Nat} (hd : 5 ≤ d) {l0 : Nat} {l1 : Int32} {h : LH} {q : (Int32 × LH)} : F_Mod_burntAt l0 l1 h = some q → jl_Sem jt_T jt_Ms d 248 [.ref l0, .int l1] h (jo_i q) := by
 unfold F_Mod_burntAt
 exact jr_enter (D := 4) hd jM_248_at rfl rfl rfl (fun d hd =>
  jr_iconst 0 1 (0 : Int32) rfl jc_i_0 rfl
  (jr_istoren 1 2 [.ref l0, .int l1, .int (0 : Int32), .retAddr 0] rfl rfl rfl rfl
  (jr_iconst 2 3 (1 : Int32) rfl jc_i_1 rfl
  (jr_istoren 3 4 [.ref l0, .int l1, .int (0 : Int32), .int (1 : Int32)] rfl rfl rfl rfl
  ((F_Mod_burntAt_l4_ok hd  jF _ _ _ _ _))))))
noncomputable def jM_247 : JMeth := (11, false, 1, jk_247, [], 2)
set_option maxRecDepth 100000 in
theorem jM_247_at : jt_Ms 247 = some jM_247 := rfl
noncomputable def F_Mod_burnt_b19 (l0 : Nat) (l1 : Int32) (s0 : Nat) (s1 : Int32) (h : LH) : Option (Int32 × LH) :=
 jf_kd h s0 11
 (jf_bi (F_Mod_bad s0 s1 (1 : Int32) (0 : Int32) h) fun v1 h2 =>
 if v1 = 0 then
 jf_kd h2 l0 11
 (jf_bi (F_Mod_burntAt l0 l1 h2) fun v3 h4 =>
 some (v3, h4))
else
 some ((0 : Int32), h2))
set_option maxRecDepth 100000 in
theorem F_Mod_burnt_b19_ok {d : Nat} {q : (Int32 × LH)} (hd : 5 ≤ d) {l0 : Nat} {l1 : Int32} {s0 : Nat} {s1 : Int32} {h : LH} : F_Mod_burnt_b19 l0 l1 s0 s1 h = some q → JR d jM_247 19 [.ref l0, .int l1] [.int s1, .ref s0] h (jo_i q) := by
 unfold F_Mod_burnt_b19
 exact jr_iconst 19 20 (1 : Int32) rfl jc_i_1 rfl
  (jr_iconst 20 21 (0 : Int32) rfl jc_i_0 rfl
  (jr_cVi 21 24 [] rfl rfl rfl rfl rfl rfl rfl rfl (as := [.int s1, .int (1 : Int32), .int (0 : Int32)]) (F_Mod_bad_ok (Nat.le_trans (by decide : 1 ≤ 5) hd)) (fun v1 h2 =>
  jr_if_eq 24 29 27 rfl rfl rfl
  (jr_aloadn 29 30 rfl rfl rfl
  (jr_iloadn 30 31 rfl rfl rfl
  (jr_cVi 31 34 [] rfl rfl rfl rfl rfl rfl rfl rfl (as := [.int l1]) (F_Mod_burntAt_ok (Nat.le_trans (by decide : 5 ≤ 5) hd)) (fun v3 h4 =>
  jr_ri 34 rfl rfl))))
  (jr_iconst 27 28 (0 : Int32) rfl jc_i_0 rfl
  (jr_ri 28 rfl rfl)))))
noncomputable def F_Mod_burnt (l0 : Nat) (l1 : Int32) (h : LH) : Option (Int32 × LH) :=
 jf_pi h l0 11 0 (0 : Int32) fun h1 =>
 jf_kd h1 l0 11
 (jf_bi (F_Mod_isGate l0 l1 h1) fun v2 h3 =>
 if v2 = 0 then
 F_Mod_burnt_b19  l0 l1 l0 (1 : Int32) h3
else
 F_Mod_burnt_b19  l0 l1 l0 (0 : Int32) h3)
set_option maxRecDepth 100000 in
theorem F_Mod_burnt_ok {d : Nat} (hd : 6 ≤ d) {l0 : Nat} {l1 : Int32} {h : LH} {q : (Int32 × LH)} : F_Mod_burnt l0 l1 h = some q → jl_Sem jt_T jt_Ms d 247 [.ref l0, .int l1] h (jo_i q) := by
 unfold F_Mod_burnt
 exact jr_enter (D := 5) hd jM_247_at rfl rfl rfl (fun d hd =>
  jr_aloadn 0 1 rfl rfl rfl
  (jr_iconst 1 2 (0 : Int32) rfl jc_i_0 rfl
  (jr_pi 2 5 rfl jg_11_109_3 rfl (fun h1 =>
  jr_aloadn 5 6 rfl rfl rfl
  (jr_aloadn 6 7 rfl rfl rfl
  (jr_iloadn 7 8 rfl rfl rfl
  (jr_cVi 8 11 [.ref l0] rfl rfl rfl rfl rfl rfl rfl rfl (as := [.int l1]) (F_Mod_isGate_ok (Nat.le_trans (by decide : 2 ≤ 5) hd)) (fun v2 h3 =>
  jr_if_ne 11 18 14 rfl rfl rfl
  (jr_iconst 18 19 (0 : Int32) rfl jc_i_0 rfl
  ((F_Mod_burnt_b19_ok hd )))
  (jr_iconst 14 15 (1 : Int32) rfl jc_i_1 rfl
  (jr_goto 15 19 rfl rfl
  ((F_Mod_burnt_b19_ok hd ))))))))))))
noncomputable def jM_251 : JMeth := (11, false, 1, jk_251, [], 6)
set_option maxRecDepth 100000 in
theorem jM_251_at : jt_Ms 251 = some jM_251 := rfl
noncomputable def F_Mod_fits_b119 (s0 : Int32) (h : LH) : Option (Int32 × LH) :=
 some (s0, h)
set_option maxRecDepth 100000 in
theorem F_Mod_fits_b119_ok {d : Nat} {q : (Int32 × LH)} (hd : 4 ≤ d) {s0 : Int32} {u0 : Value} {u1 : Value} {u2 : Value} {u3 : Value} {u4 : Value} {u5 : Value} {h : LH} : F_Mod_fits_b119 s0 h = some q → JR d jM_251 119 [u0, u1, u2, u3, u4, u5] [.int s0] h (jo_i q) := by
 unfold F_Mod_fits_b119
 exact jr_ri 119 rfl rfl
noncomputable def F_Mod_fits_b98 (k37 : Nat → Int32 → Int32 → Int32 → Int32 → LH → Option (Int32 × LH)) (k51 : Nat → Int32 → Int32 → Int32 → Int32 → Int32 → LH → Option (Int32 × LH)) (l0 : Nat) (l1 : Int32) (l2 : Int32) (l3 : Int32) (l4 : Int32) (l5 : Int32) (h : LH) : Option (Int32 × LH) :=
 k51 l0 l1 l2 l3 l4 (l5 + (1 : Int32)) h
set_option maxRecDepth 100000 in
theorem F_Mod_fits_b98_ok {d : Nat} {q : (Int32 × LH)} {k37 : Nat → Int32 → Int32 → Int32 → Int32 → LH → Option (Int32 × LH)} {k51 : Nat → Int32 → Int32 → Int32 → Int32 → Int32 → LH → Option (Int32 × LH)} (hd : 4 ≤ d) (hk37 : ∀ (l0 : Nat) (l1 : Int32) (l2 : Int32) (l3 : Int32) (l4 : Int32) (u5 : Value) (h : LH), k37 l0 l1 l2 l3 l4 h = some q → JR d jM_251 37 [.ref l0, .int l1, .int l2, .int l3, .int l4, u5] [] h (jo_i q)) (hk51 : ∀ (l0 : Nat) (l1 : Int32) (l2 : Int32) (l3 : Int32) (l4 : Int32) (l5 : Int32) (h : LH), k51 l0 l1 l2 l3 l4 l5 h = some q → JR d jM_251 51 [.ref l0, .int l1, .int l2, .int l3, .int l4, .int l5] [] h (jo_i q)) {l0 : Nat} {l1 : Int32} {l2 : Int32} {l3 : Int32} {l4 : Int32} {l5 : Int32} {h : LH} : F_Mod_fits_b98 k37 k51 l0 l1 l2 l3 l4 l5 h = some q → JR d jM_251 98 [.ref l0, .int l1, .int l2, .int l3, .int l4, .int l5] [] h (jo_i q) := by
 unfold F_Mod_fits_b98
 exact jr_iinc 98 101 [.ref l0, .int l1, .int l2, .int l3, .int l4, .int (l5 + (1 : Int32))] rfl jc_i_1 rfl rfl rfl rfl
  (jr_goto 101 51 rfl rfl
  ((hk51 _ _ _ _ _ _ _)))
noncomputable def F_Mod_fits_b94 (k37 : Nat → Int32 → Int32 → Int32 → Int32 → LH → Option (Int32 × LH)) (k51 : Nat → Int32 → Int32 → Int32 → Int32 → Int32 → LH → Option (Int32 × LH)) (l0 : Nat) (l1 : Int32) (l2 : Int32) (l4 : Int32) (l5 : Int32) (s0 : Int32) (h : LH) : Option (Int32 × LH) :=
 F_Mod_fits_b98 k37 k51 l0 l1 (l2 + (1 : Int32)) s0 l4 l5 h
set_option maxRecDepth 100000 in
theorem F_Mod_fits_b94_ok {d : Nat} {q : (Int32 × LH)} {k37 : Nat → Int32 → Int32 → Int32 → Int32 → LH → Option (Int32 × LH)} {k51 : Nat → Int32 → Int32 → Int32 → Int32 → Int32 → LH → Option (Int32 × LH)} (hd : 4 ≤ d) (hk37 : ∀ (l0 : Nat) (l1 : Int32) (l2 : Int32) (l3 : Int32) (l4 : Int32) (u5 : Value) (h : LH), k37 l0 l1 l2 l3 l4 h = some q → JR d jM_251 37 [.ref l0, .int l1, .int l2, .int l3, .int l4, u5] [] h (jo_i q)) (hk51 : ∀ (l0 : Nat) (l1 : Int32) (l2 : Int32) (l3 : Int32) (l4 : Int32) (l5 : Int32) (h : LH), k51 l0 l1 l2 l3 l4 l5 h = some q → JR d jM_251 51 [.ref l0, .int l1, .int l2, .int l3, .int l4, .int l5] [] h (jo_i q)) {l0 : Nat} {l1 : Int32} {l2 : Int32} {l4 : Int32} {l5 : Int32} {s0 : Int32} {u3 : Value} {h : LH} : F_Mod_fits_b94 k37 k51 l0 l1 l2 l4 l5 s0 h = some q → JR d jM_251 94 [.ref l0, .int l1, .int l2, u3, .int l4, .int l5] [.int s0] h (jo_i q) := by
 unfold F_Mod_fits_b94
 exact jr_istoren 94 95 [.ref l0, .int l1, .int l2, .int s0, .int l4, .int l5] rfl rfl rfl rfl
  (jr_iinc 95 98 [.ref l0, .int l1, .int (l2 + (1 : Int32)), .int s0, .int l4, .int l5] rfl jc_i_1 rfl rfl rfl rfl
  ((F_Mod_fits_b98_ok hd hk37 hk51)))
noncomputable def F_Mod_fits_c51 (k37 : Nat → Int32 → Int32 → Int32 → Int32 → LH → Option (Int32 × LH)) (k51 : Nat → Int32 → Int32 → Int32 → Int32 → Int32 → LH → Option (Int32 × LH)) (l0 : Nat) (l1 : Int32) (l2 : Int32) (l3 : Int32) (l4 : Int32) (l5 : Int32) (h : LH) : Option (Int32 × LH) :=
 jf_gr h l0 11 12 fun v1 =>
 jf_ia h v1 (1 : Int32) fun v2 =>
 if l5 < ((1 : Int32) <<< (v2 &&& 31)) then
 jf_kd h l0 11
 (jf_bi (F_Mod_isFit l0 l4 l5 h) fun v3 h4 =>
 if v3 = 0 then
 F_Mod_fits_b98 k37 k51 l0 l1 l2 l3 l4 l5 h4
else
 if l2 = 0 then
 F_Mod_fits_b94 k37 k51 l0 l1 l2 l4 l5 (((64 : Int32) * l4) + l5) h4
else
 F_Mod_fits_b94 k37 k51 l0 l1 l2 l4 l5 l3 h4)
else
 k37 l0 l1 l2 l3 (l4 + (1 : Int32)) h
set_option maxRecDepth 100000 in
theorem F_Mod_fits_c51_ok {d : Nat} {q : (Int32 × LH)} {k37 : Nat → Int32 → Int32 → Int32 → Int32 → LH → Option (Int32 × LH)} {k51 : Nat → Int32 → Int32 → Int32 → Int32 → Int32 → LH → Option (Int32 × LH)} (hd : 4 ≤ d) (hk37 : ∀ (l0 : Nat) (l1 : Int32) (l2 : Int32) (l3 : Int32) (l4 : Int32) (u5 : Value) (h : LH), k37 l0 l1 l2 l3 l4 h = some q → JR d jM_251 37 [.ref l0, .int l1, .int l2, .int l3, .int l4, u5] [] h (jo_i q)) (hk51 : ∀ (l0 : Nat) (l1 : Int32) (l2 : Int32) (l3 : Int32) (l4 : Int32) (l5 : Int32) (h : LH), k51 l0 l1 l2 l3 l4 l5 h = some q → JR d jM_251 51 [.ref l0, .int l1, .int l2, .int l3, .int l4, .int l5] [] h (jo_i q)) {l0 : Nat} {l1 : Int32} {l2 : Int32} {l3 : Int32} {l4 : Int32} {l5 : Int32} {h : LH} : F_Mod_fits_c51 k37 k51 l0 l1 l2 l3 l4 l5 h = some q → JR d jM_251 51 [.ref l0, .int l1, .int l2, .int l3, .int l4, .int l5] [] h (jo_i q) := by
 unfold F_Mod_fits_c51
 exact jr_iload 51 53 rfl rfl rfl
  (jr_iconst 53 54 (1 : Int32) rfl jc_i_1 rfl
  (jr_aloadn 54 55 rfl rfl rfl
  (jr_gr 55 58 rfl jg_11_23_2 rfl (fun v1 =>
  jr_iconst 58 59 (1 : Int32) rfl jc_i_1 rfl
  (jr_ia 59 60 rfl rfl (fun v2 =>
  jr_ishl 60 61 rfl rfl
  (jr_icmp_ge 61 104 64 rfl rfl rfl
  (jr_iinc 104 107 [.ref l0, .int l1, .int l2, .int l3, .int (l4 + (1 : Int32)), .int l5] rfl jc_i_1 rfl rfl rfl rfl
  (jr_goto 107 37 rfl rfl
  ((hk37 _ _ _ _ _ _ _))))
  (jr_aloadn 64 65 rfl rfl rfl
  (jr_iload 65 67 rfl rfl rfl
  (jr_iload 67 69 rfl rfl rfl
  (jr_cVi 69 72 [] rfl rfl rfl rfl rfl rfl rfl rfl (as := [.int l4, .int l5]) (F_Mod_isFit_ok (Nat.le_trans (by decide : 4 ≤ 4) hd)) (fun v3 h4 =>
  jr_if_ne 72 78 75 rfl rfl rfl
  (jr_iloadn 78 79 rfl rfl rfl
  (jr_if_ne 79 93 82 rfl rfl rfl
  (jr_iloadn 93 94 rfl rfl rfl
  ((F_Mod_fits_b94_ok hd hk37 hk51)))
  (jr_bipush 82 84 (64 : Int32) rfl jc_b_64 rfl
  (jr_iload 84 86 rfl rfl rfl
  (jr_imul 86 87 rfl rfl
  (jr_iload 87 89 rfl rfl rfl
  (jr_iadd 89 90 rfl rfl
  (jr_goto 90 94 rfl rfl
  ((F_Mod_fits_b94_ok hd hk37 hk51))))))))))
  (jr_goto 75 98 rfl rfl
  ((F_Mod_fits_b98_ok hd hk37 hk51)))))))))))))))
noncomputable def F_Mod_fits_l51 (k37 : Nat → Int32 → Int32 → Int32 → Int32 → LH → Option (Int32 × LH)) : Nat → Nat → Int32 → Int32 → Int32 → Int32 → Int32 → LH → Option (Int32 × LH)
 | 0, _, _, _, _, _, _, _ => none
 | n + 1, l0, l1, l2, l3, l4, l5, h => F_Mod_fits_c51 k37 (F_Mod_fits_l51 k37 n) l0 l1 l2 l3 l4 l5 h
theorem F_Mod_fits_l51_ok {d : Nat} {q : (Int32 × LH)} {k37 : Nat → Int32 → Int32 → Int32 → Int32 → LH → Option (Int32 × LH)} (hd : 4 ≤ d) (hk37 : ∀ (l0 : Nat) (l1 : Int32) (l2 : Int32) (l3 : Int32) (l4 : Int32) (u5 : Value) (h : LH), k37 l0 l1 l2 l3 l4 h = some q → JR d jM_251 37 [.ref l0, .int l1, .int l2, .int l3, .int l4, u5] [] h (jo_i q)) : ∀ (n : Nat) (l0 : Nat) (l1 : Int32) (l2 : Int32) (l3 : Int32) (l4 : Int32) (l5 : Int32) (h : LH), F_Mod_fits_l51 k37 n l0 l1 l2 l3 l4 l5 h = some q → JR d jM_251 51 [.ref l0, .int l1, .int l2, .int l3, .int l4, .int l5] [] h (jo_i q)
 | 0 => fun _ _ _ _ _ _ _ hq => nomatch (show (none : Option (Int32 × LH)) = some q from hq)
 | n + 1 => fun _ _ _ _ _ _ _ hq => F_Mod_fits_c51_ok hd hk37 (F_Mod_fits_l51_ok hd hk37 n) hq
noncomputable def F_Mod_fits_c37 (k37 : Nat → Int32 → Int32 → Int32 → Int32 → LH → Option (Int32 × LH)) (l0 : Nat) (l1 : Int32) (l2 : Int32) (l3 : Int32) (l4 : Int32) (h : LH) : Option (Int32 × LH) :=
 jf_gr h l0 11 12 fun v1 =>
 jf_ia h v1 (0 : Int32) fun v2 =>
 if l4 < v2 then
 F_Mod_fits_l51 k37 jF l0 l1 l2 l3 l4 (1 : Int32) h
else
 if l1 = 0 then
 F_Mod_fits_b119  l2 h
else
 F_Mod_fits_b119  l3 h
set_option maxRecDepth 100000 in
theorem F_Mod_fits_c37_ok {d : Nat} {q : (Int32 × LH)} {k37 : Nat → Int32 → Int32 → Int32 → Int32 → LH → Option (Int32 × LH)} (hd : 4 ≤ d) (hk37 : ∀ (l0 : Nat) (l1 : Int32) (l2 : Int32) (l3 : Int32) (l4 : Int32) (u5 : Value) (h : LH), k37 l0 l1 l2 l3 l4 h = some q → JR d jM_251 37 [.ref l0, .int l1, .int l2, .int l3, .int l4, u5] [] h (jo_i q)) {l0 : Nat} {l1 : Int32} {l2 : Int32} {l3 : Int32} {l4 : Int32} {u5 : Value} {h : LH} : F_Mod_fits_c37 k37 l0 l1 l2 l3 l4 h = some q → JR d jM_251 37 [.ref l0, .int l1, .int l2, .int l3, .int l4, u5] [] h (jo_i q) := by
 unfold F_Mod_fits_c37
 exact jr_iload 37 39 rfl rfl rfl
  (jr_aloadn 39 40 rfl rfl rfl
  (jr_gr 40 43 rfl jg_11_23_2 rfl (fun v1 =>
  jr_iconst 43 44 (0 : Int32) rfl jc_i_0 rfl
  (jr_ia 44 45 rfl rfl (fun v2 =>
  jr_icmp_ge 45 110 48 rfl rfl rfl
  (jr_iloadn 110 111 rfl rfl rfl
  (jr_if_ne 111 118 114 rfl rfl rfl
  (jr_iloadn 118 119 rfl rfl rfl
  ((F_Mod_fits_b119_ok hd )))
  (jr_iloadn 114 115 rfl rfl rfl
  (jr_goto 115 119 rfl rfl
  ((F_Mod_fits_b119_ok hd ))))))
  (jr_iconst 48 49 (1 : Int32) rfl jc_i_1 rfl
  (jr_istore 49 51 [.ref l0, .int l1, .int l2, .int l3, .int l4, .int (1 : Int32)] rfl rfl rfl rfl
  ((F_Mod_fits_l51_ok hd hk37 jF _ _ _ _ _ _ _)))))))))
noncomputable def F_Mod_fits_l37 : Nat → Nat → Int32 → Int32 → Int32 → Int32 → LH → Option (Int32 × LH)
 | 0, _, _, _, _, _, _ => none
 | n + 1, l0, l1, l2, l3, l4, h => F_Mod_fits_c37 (F_Mod_fits_l37 n) l0 l1 l2 l3 l4 h
theorem F_Mod_fits_l37_ok {d : Nat} {q : (Int32 × LH)} (hd : 4 ≤ d) : ∀ (n : Nat) (l0 : Nat) (l1 : Int32) (l2 : Int32) (l3 : Int32) (l4 : Int32) (u5 : Value) (h : LH), F_Mod_fits_l37 n l0 l1 l2 l3 l4 h = some q → JR d jM_251 37 [.ref l0, .int l1, .int l2, .int l3, .int l4, u5] [] h (jo_i q)
 | 0 => fun _ _ _ _ _ _ _ hq => nomatch (show (none : Option (Int32 × LH)) = some q from hq)
 | n + 1 => fun _ _ _ _ _ _ _ hq => F_Mod_fits_c37_ok hd (F_Mod_fits_l37_ok hd n) hq
noncomputable def F_Mod_fits_b20 (l0 : Nat) (l1 : Int32) (s0 : Nat) (s1 : Int32) (h : LH) : Option (Int32 × LH) :=
 jf_kd h s0 11
 (jf_bi (F_Mod_bad s0 s1 (1 : Int32) (1 : Int32) h) fun v1 h2 =>
 if v1 = 0 then
 F_Mod_fits_l37  jF l0 l1 (0 : Int32) (-1 : Int32) (0 : Int32) h2
else
 some ((0 : Int32), h2))
set_option maxRecDepth 100000 in
theorem F_Mod_fits_b20_ok {d : Nat} {q : (Int32 × LH)} (hd : 4 ≤ d) {l0 : Nat} {l1 : Int32} {s0 : Nat} {s1 : Int32} {u2 : Value} {u3 : Value} {u4 : Value} {u5 : Value} {h : LH} : F_Mod_fits_b20 l0 l1 s0 s1 h = some q → JR d jM_251 20 [.ref l0, .int l1, u2, u3, u4, u5] [.int s1, .ref s0] h (jo_i q) := by
 unfold F_Mod_fits_b20
 exact jr_iconst 20 21 (1 : Int32) rfl jc_i_1 rfl
  (jr_iconst 21 22 (1 : Int32) rfl jc_i_1 rfl
  (jr_cVi 22 25 [] rfl rfl rfl rfl rfl rfl rfl rfl (as := [.int s1, .int (1 : Int32), .int (1 : Int32)]) (F_Mod_bad_ok (Nat.le_trans (by decide : 1 ≤ 4) hd)) (fun v1 h2 =>
  jr_if_eq 25 30 28 rfl rfl rfl
  (jr_iconst 30 31 (0 : Int32) rfl jc_i_0 rfl
  (jr_istoren 31 32 [.ref l0, .int l1, .int (0 : Int32), u3, u4, u5] rfl rfl rfl rfl
  (jr_iconst 32 33 (-1 : Int32) rfl jc_i_m1 rfl
  (jr_istoren 33 34 [.ref l0, .int l1, .int (0 : Int32), .int (-1 : Int32), u4, u5] rfl rfl rfl rfl
  (jr_iconst 34 35 (0 : Int32) rfl jc_i_0 rfl
  (jr_istore 35 37 [.ref l0, .int l1, .int (0 : Int32), .int (-1 : Int32), .int (0 : Int32), u5] rfl rfl rfl rfl
  ((F_Mod_fits_l37_ok hd  jF _ _ _ _ _ _ _))))))))
  (jr_iconst 28 29 (0 : Int32) rfl jc_i_0 rfl
  (jr_ri 29 rfl rfl)))))
noncomputable def F_Mod_fits (l0 : Nat) (l1 : Int32) (h : LH) : Option (Int32 × LH) :=
 jf_pi h l0 11 0 (0 : Int32) fun h1 =>
 jf_bi (F_Mod_in l1 (0 : Int32) (1 : Int32) h1) fun v2 h3 =>
 if v2 = 0 then
 F_Mod_fits_b20  l0 l1 l0 (1 : Int32) h3
else
 F_Mod_fits_b20  l0 l1 l0 (0 : Int32) h3
set_option maxRecDepth 100000 in
theorem F_Mod_fits_ok {d : Nat} (hd : 5 ≤ d) {l0 : Nat} {l1 : Int32} {h : LH} {q : (Int32 × LH)} : F_Mod_fits l0 l1 h = some q → jl_Sem jt_T jt_Ms d 251 [.ref l0, .int l1] h (jo_i q) := by
 unfold F_Mod_fits
 exact jr_enter (D := 4) hd jM_251_at rfl rfl rfl (fun d hd =>
  jr_aloadn 0 1 rfl rfl rfl
  (jr_iconst 1 2 (0 : Int32) rfl jc_i_0 rfl
  (jr_pi 2 5 rfl jg_11_109_3 rfl (fun h1 =>
  jr_aloadn 5 6 rfl rfl rfl
  (jr_iloadn 6 7 rfl rfl rfl
  (jr_iconst 7 8 (0 : Int32) rfl jc_i_0 rfl
  (jr_iconst 8 9 (1 : Int32) rfl jc_i_1 rfl
  (jr_cSi 9 12 [.ref l0] rfl rfl rfl rfl rfl rfl rfl (as := [.int l1, .int (0 : Int32), .int (1 : Int32)]) (F_Mod_in_ok (Nat.le_trans (by decide : 1 ≤ 4) hd)) (fun v2 h3 =>
  jr_if_ne 12 19 15 rfl rfl rfl
  (jr_iconst 19 20 (0 : Int32) rfl jc_i_0 rfl
  ((F_Mod_fits_b20_ok hd )))
  (jr_iconst 15 16 (1 : Int32) rfl jc_i_1 rfl
  (jr_goto 16 20 rfl rfl
  ((F_Mod_fits_b20_ok hd )))))))))))))
noncomputable def jM_253 : JMeth := (11, false, 2, jk_253, [], 3)
set_option maxRecDepth 100000 in
theorem jM_253_at : jt_Ms 253 = some jM_253 := rfl
noncomputable def F_Mod_isInBook_c2 (k2 : Nat → Int32 → Int32 → LH → Option (Int32 × LH)) (l0 : Nat) (l1 : Int32) (l2 : Int32) (h : LH) : Option (Int32 × LH) :=
 jf_gi h l0 11 39 fun v1 =>
 if l2 < v1 then
 jf_gr h l0 11 29 fun v2 =>
 jf_aa h v2 l2 fun v3 =>
 jf_ia h v3 (0 : Int32) fun v4 =>
 if v4 = l1 then
 jf_rz (1 : Int32) (some ((1 : Int32), h))
else
 k2 l0 l1 (l2 + (1 : Int32)) h
else
 jf_rz (0 : Int32) (some ((0 : Int32), h))
set_option maxRecDepth 100000 in
theorem F_Mod_isInBook_c2_ok {d : Nat} {q : (Int32 × LH)} {k2 : Nat → Int32 → Int32 → LH → Option (Int32 × LH)} (hd : 0 ≤ d) (hk2 : ∀ (l0 : Nat) (l1 : Int32) (l2 : Int32) (h : LH), k2 l0 l1 l2 h = some q → JR d jM_253 2 [.ref l0, .int l1, .int l2] [] h (jo_i q)) {l0 : Nat} {l1 : Int32} {l2 : Int32} {h : LH} : F_Mod_isInBook_c2 k2 l0 l1 l2 h = some q → JR d jM_253 2 [.ref l0, .int l1, .int l2] [] h (jo_i q) := by
 unfold F_Mod_isInBook_c2
 exact jr_iloadn 2 3 rfl rfl rfl
  (jr_aloadn 3 4 rfl rfl rfl
  (jr_gi 4 7 rfl jg_11_205_1 rfl (fun v1 =>
  jr_icmp_ge 7 30 10 rfl rfl rfl
  (jr_iconst 30 31 (0 : Int32) rfl jc_i_0 rfl
  (jr_rz 31 rfl rfl))
  (jr_aloadn 10 11 rfl rfl rfl
  (jr_gr 11 14 rfl jg_11_70_2 rfl (fun v2 =>
  jr_iloadn 14 15 rfl rfl rfl
  (jr_aa 15 16 rfl rfl (fun v3 =>
  jr_iconst 16 17 (0 : Int32) rfl jc_i_0 rfl
  (jr_ia 17 18 rfl rfl (fun v4 =>
  jr_iloadn 18 19 rfl rfl rfl
  (jr_icmp_ne 19 24 22 rfl rfl rfl
  (jr_iinc 24 27 [.ref l0, .int l1, .int (l2 + (1 : Int32))] rfl jc_i_1 rfl rfl rfl rfl
  (jr_goto 27 2 rfl rfl
  ((hk2 _ _ _ _))))
  (jr_iconst 22 23 (1 : Int32) rfl jc_i_1 rfl
  (jr_rz 23 rfl rfl)))))))))))))
noncomputable def F_Mod_isInBook_l2 : Nat → Nat → Int32 → Int32 → LH → Option (Int32 × LH)
 | 0, _, _, _, _ => none
 | n + 1, l0, l1, l2, h => F_Mod_isInBook_c2 (F_Mod_isInBook_l2 n) l0 l1 l2 h
theorem F_Mod_isInBook_l2_ok {d : Nat} {q : (Int32 × LH)} (hd : 0 ≤ d) : ∀ (n : Nat) (l0 : Nat) (l1 : Int32) (l2 : Int32) (h : LH), F_Mod_isInBook_l2 n l0 l1 l2 h = some q → JR d jM_253 2 [.ref l0, .int l1, .int l2] [] h (jo_i q)
 | 0 => fun _ _ _ _ hq => nomatch (show (none : Option (Int32 × LH)) = some q from hq)
 | n + 1 => fun _ _ _ _ hq => F_Mod_isInBook_c2_ok hd (F_Mod_isInBook_l2_ok hd n) hq
noncomputable def F_Mod_isInBook (l0 : Nat) (l1 : Int32) (h : LH) : Option (Int32 × LH) :=
 F_Mod_isInBook_l2  jF l0 l1 (0 : Int32) h
set_option maxRecDepth 100000 in
theorem F_Mod_isInBook_ok {d : Nat} (hd : 1 ≤ d) {l0 : Nat} {l1 : Int32} {h : LH} {q : (Int32 × LH)} : F_Mod_isInBook l0 l1 h = some q → jl_Sem jt_T jt_Ms d 253 [.ref l0, .int l1] h (jo_i q) := by
 unfold F_Mod_isInBook
 exact jr_enter (D := 0) hd jM_253_at rfl rfl rfl (fun d hd =>
  jr_iconst 0 1 (0 : Int32) rfl jc_i_0 rfl
  (jr_istoren 1 2 [.ref l0, .int l1, .int (0 : Int32)] rfl rfl rfl rfl
  ((F_Mod_isInBook_l2_ok hd  jF _ _ _ _))))
noncomputable def jM_254 : JMeth := (11, false, 1, jk_254, [], 5)
set_option maxRecDepth 100000 in
theorem jM_254_at : jt_Ms 254 = some jM_254 := rfl
noncomputable def F_Mod_worstAt_c107 (k107 : Nat → Int32 → Int32 → LH → Option (Int32 × LH)) (l0 : Nat) (l2 : Int32) (l3 : Int32) (h : LH) : Option (Int32 × LH) :=
 if l3 < (32 : Int32) then
 jf_gr h l0 11 49 fun v1 =>
 jf_ia h v1 l3 fun v2 =>
 jf_bi (F_Mod_more l2 v2 h) fun v3 h4 =>
 k107 l0 v3 (l3 + (1 : Int32)) h4
else
 some (l2, h)
set_option maxRecDepth 100000 in
theorem F_Mod_worstAt_c107_ok {d : Nat} {q : (Int32 × LH)} {k107 : Nat → Int32 → Int32 → LH → Option (Int32 × LH)} (hd : 4 ≤ d) (hk107 : ∀ (l0 : Nat) (l2 : Int32) (l3 : Int32) (u1 : Value) (u4 : Value) (h : LH), k107 l0 l2 l3 h = some q → JR d jM_254 107 [.ref l0, u1, .int l2, .int l3, u4] [] h (jo_i q)) {l0 : Nat} {l2 : Int32} {l3 : Int32} {u1 : Value} {u4 : Value} {h : LH} : F_Mod_worstAt_c107 k107 l0 l2 l3 h = some q → JR d jM_254 107 [.ref l0, u1, .int l2, .int l3, u4] [] h (jo_i q) := by
 unfold F_Mod_worstAt_c107
 exact jr_iloadn 107 108 rfl rfl rfl
  (jr_bipush 108 110 (32 : Int32) rfl jc_b_32 rfl
  (jr_icmp_ge 110 130 113 rfl rfl rfl
  (jr_iloadn 130 131 rfl rfl rfl
  (jr_ri 131 rfl rfl))
  (jr_iloadn 113 114 rfl rfl rfl
  (jr_aloadn 114 115 rfl rfl rfl
  (jr_gr 115 118 rfl jg_11_103_2 rfl (fun v1 =>
  jr_iloadn 118 119 rfl rfl rfl
  (jr_ia 119 120 rfl rfl (fun v2 =>
  jr_cSi 120 123 [] rfl rfl rfl rfl rfl rfl rfl (as := [.int l2, .int v2]) (F_Mod_more_ok (Nat.le_trans (by decide : 1 ≤ 4) hd)) (fun v3 h4 =>
  jr_istoren 123 124 [.ref l0, u1, .int v3, .int l3, u4] rfl rfl rfl rfl
  (jr_iinc 124 127 [.ref l0, u1, .int v3, .int (l3 + (1 : Int32)), u4] rfl jc_i_1 rfl rfl rfl rfl
  (jr_goto 127 107 rfl rfl
  ((hk107 _ _ _ _ _ _)))))))))))))
noncomputable def F_Mod_worstAt_l107 : Nat → Nat → Int32 → Int32 → LH → Option (Int32 × LH)
 | 0, _, _, _, _ => none
 | n + 1, l0, l2, l3, h => F_Mod_worstAt_c107 (F_Mod_worstAt_l107 n) l0 l2 l3 h
theorem F_Mod_worstAt_l107_ok {d : Nat} {q : (Int32 × LH)} (hd : 4 ≤ d) : ∀ (n : Nat) (l0 : Nat) (l2 : Int32) (l3 : Int32) (u1 : Value) (u4 : Value) (h : LH), F_Mod_worstAt_l107 n l0 l2 l3 h = some q → JR d jM_254 107 [.ref l0, u1, .int l2, .int l3, u4] [] h (jo_i q)
 | 0 => fun _ _ _ _ _ _ hq => nomatch (show (none : Option (Int32 × LH)) = some q from hq)
 | n + 1 => fun _ _ _ _ _ _ hq => F_Mod_worstAt_c107_ok hd (F_Mod_worstAt_l107_ok hd n) hq
noncomputable def F_Mod_worstAt_b93 (k25 : Nat → Int32 → Int32 → Int32 → LH → Option (Int32 × LH)) (k38 : Nat → Int32 → Int32 → Int32 → Int32 → LH → Option (Int32 × LH)) (l0 : Nat) (l1 : Int32) (l2 : Int32) (l3 : Int32) (l4 : Int32) (h : LH) : Option (Int32 × LH) :=
 k38 l0 l1 l2 l3 (l4 + (1 : Int32)) h
set_option maxRecDepth 100000 in
theorem F_Mod_worstAt_b93_ok {d : Nat} {q : (Int32 × LH)} {k25 : Nat → Int32 → Int32 → Int32 → LH → Option (Int32 × LH)} {k38 : Nat → Int32 → Int32 → Int32 → Int32 → LH → Option (Int32 × LH)} (hd : 4 ≤ d) (hk25 : ∀ (l0 : Nat) (l1 : Int32) (l2 : Int32) (l3 : Int32) (u4 : Value) (h : LH), k25 l0 l1 l2 l3 h = some q → JR d jM_254 25 [.ref l0, .int l1, .int l2, .int l3, u4] [] h (jo_i q)) (hk38 : ∀ (l0 : Nat) (l1 : Int32) (l2 : Int32) (l3 : Int32) (l4 : Int32) (h : LH), k38 l0 l1 l2 l3 l4 h = some q → JR d jM_254 38 [.ref l0, .int l1, .int l2, .int l3, .int l4] [] h (jo_i q)) {l0 : Nat} {l1 : Int32} {l2 : Int32} {l3 : Int32} {l4 : Int32} {h : LH} : F_Mod_worstAt_b93 k25 k38 l0 l1 l2 l3 l4 h = some q → JR d jM_254 93 [.ref l0, .int l1, .int l2, .int l3, .int l4] [] h (jo_i q) := by
 unfold F_Mod_worstAt_b93
 exact jr_iinc 93 96 [.ref l0, .int l1, .int l2, .int l3, .int (l4 + (1 : Int32))] rfl jc_i_1 rfl rfl rfl rfl
  (jr_goto 96 38 rfl rfl
  ((hk38 _ _ _ _ _ _)))
noncomputable def F_Mod_worstAt_b88 (k25 : Nat → Int32 → Int32 → Int32 → LH → Option (Int32 × LH)) (k38 : Nat → Int32 → Int32 → Int32 → Int32 → LH → Option (Int32 × LH)) (l0 : Nat) (l1 : Int32) (l2 : Int32) (l3 : Int32) (l4 : Int32) (s0 : Nat) (s1 : Int32) (h : LH) : Option (Int32 × LH) :=
 jf_ia h s0 s1 fun v1 =>
 jf_is h s0 s1 (v1 + (1 : Int32)) fun h2 =>
 F_Mod_worstAt_b93 k25 k38 l0 l1 l2 l3 l4 h2
set_option maxRecDepth 100000 in
theorem F_Mod_worstAt_b88_ok {d : Nat} {q : (Int32 × LH)} {k25 : Nat → Int32 → Int32 → Int32 → LH → Option (Int32 × LH)} {k38 : Nat → Int32 → Int32 → Int32 → Int32 → LH → Option (Int32 × LH)} (hd : 4 ≤ d) (hk25 : ∀ (l0 : Nat) (l1 : Int32) (l2 : Int32) (l3 : Int32) (u4 : Value) (h : LH), k25 l0 l1 l2 l3 h = some q → JR d jM_254 25 [.ref l0, .int l1, .int l2, .int l3, u4] [] h (jo_i q)) (hk38 : ∀ (l0 : Nat) (l1 : Int32) (l2 : Int32) (l3 : Int32) (l4 : Int32) (h : LH), k38 l0 l1 l2 l3 l4 h = some q → JR d jM_254 38 [.ref l0, .int l1, .int l2, .int l3, .int l4] [] h (jo_i q)) {l0 : Nat} {l1 : Int32} {l2 : Int32} {l3 : Int32} {l4 : Int32} {s0 : Nat} {s1 : Int32} {h : LH} : F_Mod_worstAt_b88 k25 k38 l0 l1 l2 l3 l4 s0 s1 h = some q → JR d jM_254 88 [.ref l0, .int l1, .int l2, .int l3, .int l4] [.int s1, .ref s0] h (jo_i q) := by
 unfold F_Mod_worstAt_b88
 exact jr_dup2 88 89 rfl rfl rfl rfl
  (jr_ia 89 90 rfl rfl (fun v1 =>
  jr_iconst 90 91 (1 : Int32) rfl jc_i_1 rfl
  (jr_iadd 91 92 rfl rfl
  (jr_is 92 93 rfl rfl (fun h2 =>
  (F_Mod_worstAt_b93_ok hd hk25 hk38))))))
noncomputable def F_Mod_worstAt_c38 (k25 : Nat → Int32 → Int32 → Int32 → LH → Option (Int32 × LH)) (k38 : Nat → Int32 → Int32 → Int32 → Int32 → LH → Option (Int32 × LH)) (l0 : Nat) (l1 : Int32) (l2 : Int32) (l3 : Int32) (l4 : Int32) (h : LH) : Option (Int32 × LH) :=
 jf_gr h l0 11 12 fun v1 =>
 jf_ia h v1 (1 : Int32) fun v2 =>
 if l4 < ((1 : Int32) <<< (v2 &&& 31)) then
 jf_kd h l0 11
 (jf_bi (F_Mod_isFit l0 l3 l4 h) fun v3 h4 =>
 if v3 = 0 then
 F_Mod_worstAt_b93 k25 k38 l0 l1 l2 l3 l4 h4
else
 jf_gr h4 l0 11 49 fun v5 =>
 jf_gr h4 l0 11 35 fun v6 =>
 jf_kd h4 l0 11
 (jf_bi (F_Mod_standsOf l0 v6 l3 h4) fun v7 h8 =>
 if v7 = l1 then
 jf_kd h8 l0 11
 (jf_bi (F_Mod_scentOf l0 l4 h8) fun v9 h10 =>
 F_Mod_worstAt_b88 k25 k38 l0 l1 l2 l3 l4 v5 v9 h10)
else
 F_Mod_worstAt_b88 k25 k38 l0 l1 l2 l3 l4 v5 (0 : Int32) h8))
else
 k25 l0 l1 l2 (l3 + (1 : Int32)) h
set_option maxRecDepth 100000 in
theorem F_Mod_worstAt_c38_ok {d : Nat} {q : (Int32 × LH)} {k25 : Nat → Int32 → Int32 → Int32 → LH → Option (Int32 × LH)} {k38 : Nat → Int32 → Int32 → Int32 → Int32 → LH → Option (Int32 × LH)} (hd : 4 ≤ d) (hk25 : ∀ (l0 : Nat) (l1 : Int32) (l2 : Int32) (l3 : Int32) (u4 : Value) (h : LH), k25 l0 l1 l2 l3 h = some q → JR d jM_254 25 [.ref l0, .int l1, .int l2, .int l3, u4] [] h (jo_i q)) (hk38 : ∀ (l0 : Nat) (l1 : Int32) (l2 : Int32) (l3 : Int32) (l4 : Int32) (h : LH), k38 l0 l1 l2 l3 l4 h = some q → JR d jM_254 38 [.ref l0, .int l1, .int l2, .int l3, .int l4] [] h (jo_i q)) {l0 : Nat} {l1 : Int32} {l2 : Int32} {l3 : Int32} {l4 : Int32} {h : LH} : F_Mod_worstAt_c38 k25 k38 l0 l1 l2 l3 l4 h = some q → JR d jM_254 38 [.ref l0, .int l1, .int l2, .int l3, .int l4] [] h (jo_i q) := by
 unfold F_Mod_worstAt_c38
 exact jr_iload 38 40 rfl rfl rfl
  (jr_iconst 40 41 (1 : Int32) rfl jc_i_1 rfl
  (jr_aloadn 41 42 rfl rfl rfl
  (jr_gr 42 45 rfl jg_11_23_2 rfl (fun v1 =>
  jr_iconst 45 46 (1 : Int32) rfl jc_i_1 rfl
  (jr_ia 46 47 rfl rfl (fun v2 =>
  jr_ishl 47 48 rfl rfl
  (jr_icmp_ge 48 99 51 rfl rfl rfl
  (jr_iinc 99 102 [.ref l0, .int l1, .int l2, .int (l3 + (1 : Int32)), .int l4] rfl jc_i_1 rfl rfl rfl rfl
  (jr_goto 102 25 rfl rfl
  ((hk25 _ _ _ _ _ _))))
  (jr_aloadn 51 52 rfl rfl rfl
  (jr_iloadn 52 53 rfl rfl rfl
  (jr_iload 53 55 rfl rfl rfl
  (jr_cVi 55 58 [] rfl rfl rfl rfl rfl rfl rfl rfl (as := [.int l3, .int l4]) (F_Mod_isFit_ok (Nat.le_trans (by decide : 4 ≤ 4) hd)) (fun v3 h4 =>
  jr_if_eq 58 93 61 rfl rfl rfl
  ((F_Mod_worstAt_b93_ok hd hk25 hk38))
  (jr_aloadn 61 62 rfl rfl rfl
  (jr_gr 62 65 rfl jg_11_103_2 rfl (fun v5 =>
  jr_aloadn 65 66 rfl rfl rfl
  (jr_aloadn 66 67 rfl rfl rfl
  (jr_gr 67 70 rfl jg_11_85_2 rfl (fun v6 =>
  jr_iloadn 70 71 rfl rfl rfl
  (jr_cVi 71 74 [.ref v5] rfl rfl rfl rfl rfl rfl rfl rfl (as := [.ref v6, .int l3]) (F_Mod_standsOf_ok (Nat.le_trans (by decide : 3 ≤ 4) hd)) (fun v7 h8 =>
  jr_iloadn 74 75 rfl rfl rfl
  (jr_icmp_ne 75 87 78 rfl rfl rfl
  (jr_iconst 87 88 (0 : Int32) rfl jc_i_0 rfl
  ((F_Mod_worstAt_b88_ok hd hk25 hk38)))
  (jr_aloadn 78 79 rfl rfl rfl
  (jr_iload 79 81 rfl rfl rfl
  (jr_cVi 81 84 [.ref v5] rfl rfl rfl rfl rfl rfl rfl rfl (as := [.int l4]) (F_Mod_scentOf_ok (Nat.le_trans (by decide : 2 ≤ 4) hd)) (fun v9 h10 =>
  jr_goto 84 88 rfl rfl
  ((F_Mod_worstAt_b88_ok hd hk25 hk38)))))))))))))))))))))))))))
noncomputable def F_Mod_worstAt_l38 (k25 : Nat → Int32 → Int32 → Int32 → LH → Option (Int32 × LH)) : Nat → Nat → Int32 → Int32 → Int32 → Int32 → LH → Option (Int32 × LH)
 | 0, _, _, _, _, _, _ => none
 | n + 1, l0, l1, l2, l3, l4, h => F_Mod_worstAt_c38 k25 (F_Mod_worstAt_l38 k25 n) l0 l1 l2 l3 l4 h
theorem F_Mod_worstAt_l38_ok {d : Nat} {q : (Int32 × LH)} {k25 : Nat → Int32 → Int32 → Int32 → LH → Option (Int32 × LH)} (hd : 4 ≤ d) (hk25 : ∀ (l0 : Nat) (l1 : Int32) (l2 : Int32) (l3 : Int32) (u4 : Value) (h : LH), k25 l0 l1 l2 l3 h = some q → JR d jM_254 25 [.ref l0, .int l1, .int l2, .int l3, u4] [] h (jo_i q)) : ∀ (n : Nat) (l0 : Nat) (l1 : Int32) (l2 : Int32) (l3 : Int32) (l4 : Int32) (h : LH), F_Mod_worstAt_l38 k25 n l0 l1 l2 l3 l4 h = some q → JR d jM_254 38 [.ref l0, .int l1, .int l2, .int l3, .int l4] [] h (jo_i q)
 | 0 => fun _ _ _ _ _ _ hq => nomatch (show (none : Option (Int32 × LH)) = some q from hq)
 | n + 1 => fun _ _ _ _ _ _ hq => F_Mod_worstAt_c38_ok hd hk25 (F_Mod_worstAt_l38_ok hd hk25 n) hq
noncomputable def F_Mod_worstAt_c25 (k25 : Nat → Int32 → Int32 → Int32 → LH → Option (Int32 × LH)) (l0 : Nat) (l1 : Int32) (l2 : Int32) (l3 : Int32) (h : LH) : Option (Int32 × LH) :=
 jf_gr h l0 11 12 fun v1 =>
 jf_ia h v1 (0 : Int32) fun v2 =>
 if l3 < v2 then
 F_Mod_worstAt_l38 k25 jF l0 l1 l2 l3 (1 : Int32) h
else
 F_Mod_worstAt_l107  jF l0 l2 (0 : Int32) h
set_option maxRecDepth 100000 in
theorem F_Mod_worstAt_c25_ok {d : Nat} {q : (Int32 × LH)} {k25 : Nat → Int32 → Int32 → Int32 → LH → Option (Int32 × LH)} (hd : 4 ≤ d) (hk25 : ∀ (l0 : Nat) (l1 : Int32) (l2 : Int32) (l3 : Int32) (u4 : Value) (h : LH), k25 l0 l1 l2 l3 h = some q → JR d jM_254 25 [.ref l0, .int l1, .int l2, .int l3, u4] [] h (jo_i q)) {l0 : Nat} {l1 : Int32} {l2 : Int32} {l3 : Int32} {u4 : Value} {h : LH} : F_Mod_worstAt_c25 k25 l0 l1 l2 l3 h = some q → JR d jM_254 25 [.ref l0, .int l1, .int l2, .int l3, u4] [] h (jo_i q) := by
 unfold F_Mod_worstAt_c25
 exact jr_iloadn 25 26 rfl rfl rfl
  (jr_aloadn 26 27 rfl rfl rfl
  (jr_gr 27 30 rfl jg_11_23_2 rfl (fun v1 =>
  jr_iconst 30 31 (0 : Int32) rfl jc_i_0 rfl
  (jr_ia 31 32 rfl rfl (fun v2 =>
  jr_icmp_ge 32 105 35 rfl rfl rfl
  (jr_iconst 105 106 (0 : Int32) rfl jc_i_0 rfl
  (jr_istoren 106 107 [.ref l0, .int l1, .int l2, .int (0 : Int32), u4] rfl rfl rfl rfl
  ((F_Mod_worstAt_l107_ok hd  jF _ _ _ _ _ _))))
  (jr_iconst 35 36 (1 : Int32) rfl jc_i_1 rfl
  (jr_istore 36 38 [.ref l0, .int l1, .int l2, .int l3, .int (1 : Int32)] rfl rfl rfl rfl
  ((F_Mod_worstAt_l38_ok hd hk25 jF _ _ _ _ _ _)))))))))
noncomputable def F_Mod_worstAt_l25 : Nat → Nat → Int32 → Int32 → Int32 → LH → Option (Int32 × LH)
 | 0, _, _, _, _, _ => none
 | n + 1, l0, l1, l2, l3, h => F_Mod_worstAt_c25 (F_Mod_worstAt_l25 n) l0 l1 l2 l3 h
theorem F_Mod_worstAt_l25_ok {d : Nat} {q : (Int32 × LH)} (hd : 4 ≤ d) : ∀ (n : Nat) (l0 : Nat) (l1 : Int32) (l2 : Int32) (l3 : Int32) (u4 : Value) (h : LH), F_Mod_worstAt_l25 n l0 l1 l2 l3 h = some q → JR d jM_254 25 [.ref l0, .int l1, .int l2, .int l3, u4] [] h (jo_i q)
 | 0 => fun _ _ _ _ _ _ hq => nomatch (show (none : Option (Int32 × LH)) = some q from hq)
 | n + 1 => fun _ _ _ _ _ _ hq => F_Mod_worstAt_c25_ok hd (F_Mod_worstAt_l25_ok hd n) hq
noncomputable def F_Mod_worstAt_c4 (k4 : Nat → Int32 → Int32 → Int32 → LH → Option (Int32 × LH)) (l0 : Nat) (l1 : Int32) (l2 : Int32) (l3 : Int32) (h : LH) : Option (Int32 × LH) :=
 if l3 < (32 : Int32) then
 jf_gr h l0 11 49 fun v1 =>
 jf_is h v1 l3 (0 : Int32) fun h2 =>
 k4 l0 l1 l2 (l3 + (1 : Int32)) h2
else
 F_Mod_worstAt_l25  jF l0 l1 l2 (0 : Int32) h
set_option maxRecDepth 100000 in
theorem F_Mod_worstAt_c4_ok {d : Nat} {q : (Int32 × LH)} {k4 : Nat → Int32 → Int32 → Int32 → LH → Option (Int32 × LH)} (hd : 4 ≤ d) (hk4 : ∀ (l0 : Nat) (l1 : Int32) (l2 : Int32) (l3 : Int32) (u4 : Value) (h : LH), k4 l0 l1 l2 l3 h = some q → JR d jM_254 4 [.ref l0, .int l1, .int l2, .int l3, u4] [] h (jo_i q)) {l0 : Nat} {l1 : Int32} {l2 : Int32} {l3 : Int32} {u4 : Value} {h : LH} : F_Mod_worstAt_c4 k4 l0 l1 l2 l3 h = some q → JR d jM_254 4 [.ref l0, .int l1, .int l2, .int l3, u4] [] h (jo_i q) := by
 unfold F_Mod_worstAt_c4
 exact jr_iloadn 4 5 rfl rfl rfl
  (jr_bipush 5 7 (32 : Int32) rfl jc_b_32 rfl
  (jr_icmp_ge 7 23 10 rfl rfl rfl
  (jr_iconst 23 24 (0 : Int32) rfl jc_i_0 rfl
  (jr_istoren 24 25 [.ref l0, .int l1, .int l2, .int (0 : Int32), u4] rfl rfl rfl rfl
  ((F_Mod_worstAt_l25_ok hd  jF _ _ _ _ _ _))))
  (jr_aloadn 10 11 rfl rfl rfl
  (jr_gr 11 14 rfl jg_11_103_2 rfl (fun v1 =>
  jr_iloadn 14 15 rfl rfl rfl
  (jr_iconst 15 16 (0 : Int32) rfl jc_i_0 rfl
  (jr_is 16 17 rfl rfl (fun h2 =>
  jr_iinc 17 20 [.ref l0, .int l1, .int l2, .int (l3 + (1 : Int32)), u4] rfl jc_i_1 rfl rfl rfl rfl
  (jr_goto 20 4 rfl rfl
  ((hk4 _ _ _ _ _ _)))))))))))
noncomputable def F_Mod_worstAt_l4 : Nat → Nat → Int32 → Int32 → Int32 → LH → Option (Int32 × LH)
 | 0, _, _, _, _, _ => none
 | n + 1, l0, l1, l2, l3, h => F_Mod_worstAt_c4 (F_Mod_worstAt_l4 n) l0 l1 l2 l3 h
theorem F_Mod_worstAt_l4_ok {d : Nat} {q : (Int32 × LH)} (hd : 4 ≤ d) : ∀ (n : Nat) (l0 : Nat) (l1 : Int32) (l2 : Int32) (l3 : Int32) (u4 : Value) (h : LH), F_Mod_worstAt_l4 n l0 l1 l2 l3 h = some q → JR d jM_254 4 [.ref l0, .int l1, .int l2, .int l3, u4] [] h (jo_i q)
 | 0 => fun _ _ _ _ _ _ hq => nomatch (show (none : Option (Int32 × LH)) = some q from hq)
 | n + 1 => fun _ _ _ _ _ _ hq => F_Mod_worstAt_c4_ok hd (F_Mod_worstAt_l4_ok hd n) hq
noncomputable def F_Mod_worstAt (l0 : Nat) (l1 : Int32) (h : LH) : Option (Int32 × LH) :=
 F_Mod_worstAt_l4  jF l0 l1 (0 : Int32) (0 : Int32) h
set_option maxRecDepth 100000 in
theorem F_Mod_worstAt_ok {d : Nat} (hd : 5 ≤ d) {l0 : Nat} {l1 : Int32} {h : LH} {q : (Int32 × LH)} : F_Mod_worstAt l0 l1 h = some q → jl_Sem jt_T jt_Ms d 254 [.ref l0, .int l1] h (jo_i q) := by
 unfold F_Mod_worstAt
 exact jr_enter (D := 4) hd jM_254_at rfl rfl rfl (fun d hd =>
  jr_iconst 0 1 (0 : Int32) rfl jc_i_0 rfl
  (jr_istoren 1 2 [.ref l0, .int l1, .int (0 : Int32), .retAddr 0, .retAddr 0] rfl rfl rfl rfl
  (jr_iconst 2 3 (0 : Int32) rfl jc_i_0 rfl
  (jr_istoren 3 4 [.ref l0, .int l1, .int (0 : Int32), .int (0 : Int32), .retAddr 0] rfl rfl rfl rfl
  ((F_Mod_worstAt_l4_ok hd  jF _ _ _ _ _ _))))))
noncomputable def jM_252 : JMeth := (11, false, 1, jk_252, [], 6)
set_option maxRecDepth 100000 in
theorem jM_252_at : jt_Ms 252 = some jM_252 := rfl
noncomputable def F_Mod_nose_b103 (s0 : Int32) (h : LH) : Option (Int32 × LH) :=
 some (s0, h)
set_option maxRecDepth 100000 in
theorem F_Mod_nose_b103_ok {d : Nat} {q : (Int32 × LH)} (hd : 5 ≤ d) {s0 : Int32} {u0 : Value} {u1 : Value} {u2 : Value} {u3 : Value} {u4 : Value} {u5 : Value} {h : LH} : F_Mod_nose_b103 s0 h = some q → JR d jM_252 103 [u0, u1, u2, u3, u4, u5] [.int s0] h (jo_i q) := by
 unfold F_Mod_nose_b103
 exact jr_ri 103 rfl rfl
noncomputable def F_Mod_nose_b88 (k37 : Nat → Int32 → Int32 → Int32 → Int32 → LH → Option (Int32 × LH)) (l0 : Nat) (l1 : Int32) (l2 : Int32) (l3 : Int32) (l4 : Int32) (h : LH) : Option (Int32 × LH) :=
 k37 l0 l1 l2 l3 (l4 + (1 : Int32)) h
set_option maxRecDepth 100000 in
theorem F_Mod_nose_b88_ok {d : Nat} {q : (Int32 × LH)} {k37 : Nat → Int32 → Int32 → Int32 → Int32 → LH → Option (Int32 × LH)} (hd : 5 ≤ d) (hk37 : ∀ (l0 : Nat) (l1 : Int32) (l2 : Int32) (l3 : Int32) (l4 : Int32) (u5 : Value) (h : LH), k37 l0 l1 l2 l3 l4 h = some q → JR d jM_252 37 [.ref l0, .int l1, .int l2, .int l3, .int l4, u5] [] h (jo_i q)) {l0 : Nat} {l1 : Int32} {l2 : Int32} {l3 : Int32} {l4 : Int32} {u5 : Value} {h : LH} : F_Mod_nose_b88 k37 l0 l1 l2 l3 l4 h = some q → JR d jM_252 88 [.ref l0, .int l1, .int l2, .int l3, .int l4, u5] [] h (jo_i q) := by
 unfold F_Mod_nose_b88
 exact jr_iinc 88 91 [.ref l0, .int l1, .int l2, .int l3, .int (l4 + (1 : Int32)), u5] rfl jc_i_1 rfl rfl rfl rfl
  (jr_goto 91 37 rfl rfl
  ((hk37 _ _ _ _ _ _ _)))
noncomputable def F_Mod_nose_b82 (k37 : Nat → Int32 → Int32 → Int32 → Int32 → LH → Option (Int32 × LH)) (l0 : Nat) (l1 : Int32) (l4 : Int32) (l5 : Int32) (h : LH) : Option (Int32 × LH) :=
 F_Mod_nose_b88 k37 l0 l1 l4 l5 l4 h
set_option maxRecDepth 100000 in
theorem F_Mod_nose_b82_ok {d : Nat} {q : (Int32 × LH)} {k37 : Nat → Int32 → Int32 → Int32 → Int32 → LH → Option (Int32 × LH)} (hd : 5 ≤ d) (hk37 : ∀ (l0 : Nat) (l1 : Int32) (l2 : Int32) (l3 : Int32) (l4 : Int32) (u5 : Value) (h : LH), k37 l0 l1 l2 l3 l4 h = some q → JR d jM_252 37 [.ref l0, .int l1, .int l2, .int l3, .int l4, u5] [] h (jo_i q)) {l0 : Nat} {l1 : Int32} {l4 : Int32} {l5 : Int32} {u2 : Value} {u3 : Value} {h : LH} : F_Mod_nose_b82 k37 l0 l1 l4 l5 h = some q → JR d jM_252 82 [.ref l0, .int l1, u2, u3, .int l4, .int l5] [] h (jo_i q) := by
 unfold F_Mod_nose_b82
 exact jr_iload 82 84 rfl rfl rfl
  (jr_istoren 84 85 [.ref l0, .int l1, .int l4, u3, .int l4, .int l5] rfl rfl rfl rfl
  (jr_iload 85 87 rfl rfl rfl
  (jr_istoren 87 88 [.ref l0, .int l1, .int l4, .int l5, .int l4, .int l5] rfl rfl rfl rfl
  ((F_Mod_nose_b88_ok hd hk37)))))
noncomputable def F_Mod_nose_c37 (k37 : Nat → Int32 → Int32 → Int32 → Int32 → LH → Option (Int32 × LH)) (l0 : Nat) (l1 : Int32) (l2 : Int32) (l3 : Int32) (l4 : Int32) (h : LH) : Option (Int32 × LH) :=
 jf_gr h l0 11 12 fun v1 =>
 jf_ia h v1 (0 : Int32) fun v2 =>
 if l4 < v2 then
 jf_kd h l0 11
 (jf_bi (F_Mod_isInBook l0 l4 h) fun v3 h4 =>
 if v3 = 0 then
 jf_kd h4 l0 11
 (jf_bi (F_Mod_worstAt l0 l4 h4) fun v5 h6 =>
 if l2 = (-1 : Int32) then
 F_Mod_nose_b82 k37 l0 l1 l4 v5 h6
else
 if v5 < l3 then
 F_Mod_nose_b82 k37 l0 l1 l4 v5 h6
else
 F_Mod_nose_b88 k37 l0 l1 l2 l3 l4 h6)
else
 F_Mod_nose_b88 k37 l0 l1 l2 l3 l4 h4)
else
 if l1 = 0 then
 F_Mod_nose_b103  l2 h
else
 F_Mod_nose_b103  l3 h
set_option maxRecDepth 100000 in
theorem F_Mod_nose_c37_ok {d : Nat} {q : (Int32 × LH)} {k37 : Nat → Int32 → Int32 → Int32 → Int32 → LH → Option (Int32 × LH)} (hd : 5 ≤ d) (hk37 : ∀ (l0 : Nat) (l1 : Int32) (l2 : Int32) (l3 : Int32) (l4 : Int32) (u5 : Value) (h : LH), k37 l0 l1 l2 l3 l4 h = some q → JR d jM_252 37 [.ref l0, .int l1, .int l2, .int l3, .int l4, u5] [] h (jo_i q)) {l0 : Nat} {l1 : Int32} {l2 : Int32} {l3 : Int32} {l4 : Int32} {u5 : Value} {h : LH} : F_Mod_nose_c37 k37 l0 l1 l2 l3 l4 h = some q → JR d jM_252 37 [.ref l0, .int l1, .int l2, .int l3, .int l4, u5] [] h (jo_i q) := by
 unfold F_Mod_nose_c37
 exact jr_iload 37 39 rfl rfl rfl
  (jr_aloadn 39 40 rfl rfl rfl
  (jr_gr 40 43 rfl jg_11_23_2 rfl (fun v1 =>
  jr_iconst 43 44 (0 : Int32) rfl jc_i_0 rfl
  (jr_ia 44 45 rfl rfl (fun v2 =>
  jr_icmp_ge 45 94 48 rfl rfl rfl
  (jr_iloadn 94 95 rfl rfl rfl
  (jr_if_ne 95 102 98 rfl rfl rfl
  (jr_iloadn 102 103 rfl rfl rfl
  ((F_Mod_nose_b103_ok hd )))
  (jr_iloadn 98 99 rfl rfl rfl
  (jr_goto 99 103 rfl rfl
  ((F_Mod_nose_b103_ok hd ))))))
  (jr_aloadn 48 49 rfl rfl rfl
  (jr_iload 49 51 rfl rfl rfl
  (jr_cVi 51 54 [] rfl rfl rfl rfl rfl rfl rfl rfl (as := [.int l4]) (F_Mod_isInBook_ok (Nat.le_trans (by decide : 1 ≤ 5) hd)) (fun v3 h4 =>
  jr_if_eq 54 60 57 rfl rfl rfl
  (jr_aloadn 60 61 rfl rfl rfl
  (jr_iload 61 63 rfl rfl rfl
  (jr_cVi 63 66 [] rfl rfl rfl rfl rfl rfl rfl rfl (as := [.int l4]) (F_Mod_worstAt_ok (Nat.le_trans (by decide : 5 ≤ 5) hd)) (fun v5 h6 =>
  jr_istore 66 68 [.ref l0, .int l1, .int l2, .int l3, .int l4, .int v5] rfl rfl rfl rfl
  (jr_iloadn 68 69 rfl rfl rfl
  (jr_iconst 69 70 (-1 : Int32) rfl jc_i_m1 rfl
  (jr_icmp_eq 70 82 73 rfl rfl rfl
  ((F_Mod_nose_b82_ok hd hk37))
  (jr_iload 73 75 rfl rfl rfl
  (jr_iloadn 75 76 rfl rfl rfl
  (jr_icmp_lt 76 82 79 rfl rfl rfl
  ((F_Mod_nose_b82_ok hd hk37))
  (jr_goto 79 88 rfl rfl
  ((F_Mod_nose_b88_ok hd hk37)))))))))))))
  (jr_goto 57 88 rfl rfl
  ((F_Mod_nose_b88_ok hd hk37))))))))))))
noncomputable def F_Mod_nose_l37 : Nat → Nat → Int32 → Int32 → Int32 → Int32 → LH → Option (Int32 × LH)
 | 0, _, _, _, _, _, _ => none
 | n + 1, l0, l1, l2, l3, l4, h => F_Mod_nose_c37 (F_Mod_nose_l37 n) l0 l1 l2 l3 l4 h
theorem F_Mod_nose_l37_ok {d : Nat} {q : (Int32 × LH)} (hd : 5 ≤ d) : ∀ (n : Nat) (l0 : Nat) (l1 : Int32) (l2 : Int32) (l3 : Int32) (l4 : Int32) (u5 : Value) (h : LH), F_Mod_nose_l37 n l0 l1 l2 l3 l4 h = some q → JR d jM_252 37 [.ref l0, .int l1, .int l2, .int l3, .int l4, u5] [] h (jo_i q)
 | 0 => fun _ _ _ _ _ _ _ hq => nomatch (show (none : Option (Int32 × LH)) = some q from hq)
 | n + 1 => fun _ _ _ _ _ _ _ hq => F_Mod_nose_c37_ok hd (F_Mod_nose_l37_ok hd n) hq
noncomputable def F_Mod_nose_b20 (l0 : Nat) (l1 : Int32) (s0 : Nat) (s1 : Int32) (h : LH) : Option (Int32 × LH) :=
 jf_kd h s0 11
 (jf_bi (F_Mod_bad s0 s1 (1 : Int32) (1 : Int32) h) fun v1 h2 =>
 if v1 = 0 then
 F_Mod_nose_l37  jF l0 l1 (-1 : Int32) (-1 : Int32) (0 : Int32) h2
else
 some ((0 : Int32), h2))
set_option maxRecDepth 100000 in
theorem F_Mod_nose_b20_ok {d : Nat} {q : (Int32 × LH)} (hd : 5 ≤ d) {l0 : Nat} {l1 : Int32} {s0 : Nat} {s1 : Int32} {u2 : Value} {u3 : Value} {u4 : Value} {u5 : Value} {h : LH} : F_Mod_nose_b20 l0 l1 s0 s1 h = some q → JR d jM_252 20 [.ref l0, .int l1, u2, u3, u4, u5] [.int s1, .ref s0] h (jo_i q) := by
 unfold F_Mod_nose_b20
 exact jr_iconst 20 21 (1 : Int32) rfl jc_i_1 rfl
  (jr_iconst 21 22 (1 : Int32) rfl jc_i_1 rfl
  (jr_cVi 22 25 [] rfl rfl rfl rfl rfl rfl rfl rfl (as := [.int s1, .int (1 : Int32), .int (1 : Int32)]) (F_Mod_bad_ok (Nat.le_trans (by decide : 1 ≤ 5) hd)) (fun v1 h2 =>
  jr_if_eq 25 30 28 rfl rfl rfl
  (jr_iconst 30 31 (-1 : Int32) rfl jc_i_m1 rfl
  (jr_istoren 31 32 [.ref l0, .int l1, .int (-1 : Int32), u3, u4, u5] rfl rfl rfl rfl
  (jr_iconst 32 33 (-1 : Int32) rfl jc_i_m1 rfl
  (jr_istoren 33 34 [.ref l0, .int l1, .int (-1 : Int32), .int (-1 : Int32), u4, u5] rfl rfl rfl rfl
  (jr_iconst 34 35 (0 : Int32) rfl jc_i_0 rfl
  (jr_istore 35 37 [.ref l0, .int l1, .int (-1 : Int32), .int (-1 : Int32), .int (0 : Int32), u5] rfl rfl rfl rfl
  ((F_Mod_nose_l37_ok hd  jF _ _ _ _ _ _ _))))))))
  (jr_iconst 28 29 (0 : Int32) rfl jc_i_0 rfl
  (jr_ri 29 rfl rfl)))))
noncomputable def F_Mod_nose (l0 : Nat) (l1 : Int32) (h : LH) : Option (Int32 × LH) :=
 jf_pi h l0 11 0 (0 : Int32) fun h1 =>
 jf_bi (F_Mod_in l1 (0 : Int32) (1 : Int32) h1) fun v2 h3 =>
 if v2 = 0 then
 F_Mod_nose_b20  l0 l1 l0 (1 : Int32) h3
else
 F_Mod_nose_b20  l0 l1 l0 (0 : Int32) h3
set_option maxRecDepth 100000 in
theorem F_Mod_nose_ok {d : Nat} (hd : 6 ≤ d) {l0 : Nat} {l1 : Int32} {h : LH} {q : (Int32 × LH)} : F_Mod_nose l0 l1 h = some q → jl_Sem jt_T jt_Ms d 252 [.ref l0, .int l1] h (jo_i q) := by
 unfold F_Mod_nose
 exact jr_enter (D := 5) hd jM_252_at rfl rfl rfl (fun d hd =>
  jr_aloadn 0 1 rfl rfl rfl
  (jr_iconst 1 2 (0 : Int32) rfl jc_i_0 rfl
  (jr_pi 2 5 rfl jg_11_109_3 rfl (fun h1 =>
  jr_aloadn 5 6 rfl rfl rfl
  (jr_iloadn 6 7 rfl rfl rfl
  (jr_iconst 7 8 (0 : Int32) rfl jc_i_0 rfl
  (jr_iconst 8 9 (1 : Int32) rfl jc_i_1 rfl
  (jr_cSi 9 12 [.ref l0] rfl rfl rfl rfl rfl rfl rfl (as := [.int l1, .int (0 : Int32), .int (1 : Int32)]) (F_Mod_in_ok (Nat.le_trans (by decide : 1 ≤ 5) hd)) (fun v2 h3 =>
  jr_if_ne 12 19 15 rfl rfl rfl
  (jr_iconst 19 20 (0 : Int32) rfl jc_i_0 rfl
  ((F_Mod_nose_b20_ok hd )))
  (jr_iconst 15 16 (1 : Int32) rfl jc_i_1 rfl
  (jr_goto 16 20 rfl rfl
  ((F_Mod_nose_b20_ok hd )))))))))))))
noncomputable def jM_256 : JMeth := (11, false, 1, jk_256, [], 4)
set_option maxRecDepth 100000 in
theorem jM_256_at : jt_Ms 256 = some jM_256 := rfl
noncomputable def F_Mod_storedIn_c4 (k4 : Nat → Nat → Int32 → Int32 → LH → Option (Int32 × LH)) (l0 : Nat) (l1 : Nat) (l2 : Int32) (l3 : Int32) (h : LH) : Option (Int32 × LH) :=
 jf_gr h l0 11 12 fun v1 =>
 jf_ia h v1 (1 : Int32) fun v2 =>
 if l3 < v2 then
 jf_ia h l1 ((117 : Int32) + l3) fun v3 =>
 jf_let (l2 + v3) fun v4 =>
 k4 l0 l1 v4 (l3 + (1 : Int32)) h
else
 some (l2, h)
set_option maxRecDepth 100000 in
theorem F_Mod_storedIn_c4_ok {d : Nat} {q : (Int32 × LH)} {k4 : Nat → Nat → Int32 → Int32 → LH → Option (Int32 × LH)} (hd : 0 ≤ d) (hk4 : ∀ (l0 : Nat) (l1 : Nat) (l2 : Int32) (l3 : Int32) (h : LH), k4 l0 l1 l2 l3 h = some q → JR d jM_256 4 [.ref l0, .ref l1, .int l2, .int l3] [] h (jo_i q)) {l0 : Nat} {l1 : Nat} {l2 : Int32} {l3 : Int32} {h : LH} : F_Mod_storedIn_c4 k4 l0 l1 l2 l3 h = some q → JR d jM_256 4 [.ref l0, .ref l1, .int l2, .int l3] [] h (jo_i q) := by
 unfold F_Mod_storedIn_c4
 exact jr_iloadn 4 5 rfl rfl rfl
  (jr_aloadn 5 6 rfl rfl rfl
  (jr_gr 6 9 rfl jg_11_23_2 rfl (fun v1 =>
  jr_iconst 9 10 (1 : Int32) rfl jc_i_1 rfl
  (jr_ia 10 11 rfl rfl (fun v2 =>
  jr_icmp_ge 11 29 14 rfl rfl rfl
  (jr_iloadn 29 30 rfl rfl rfl
  (jr_ri 30 rfl rfl))
  (jr_iloadn 14 15 rfl rfl rfl
  (jr_aloadn 15 16 rfl rfl rfl
  (jr_bipush 16 18 (117 : Int32) rfl jc_b_117 rfl
  (jr_iloadn 18 19 rfl rfl rfl
  (jr_iadd 19 20 rfl rfl
  (jr_ia 20 21 rfl rfl (fun v3 =>
  jr_iadd 21 22 rfl rfl
  (jr_istorenL 22 23 (fun v4 => [.ref l0, .ref l1, .int v4, .int l3]) rfl rfl (fun _ => rfl) rfl (fun v4 =>
  jr_iinc 23 26 [.ref l0, .ref l1, .int v4, .int (l3 + (1 : Int32))] rfl jc_i_1 rfl rfl rfl rfl
  (jr_goto 26 4 rfl rfl
  ((hk4 _ _ _ _ _)))))))))))))))))
noncomputable def F_Mod_storedIn_l4 : Nat → Nat → Nat → Int32 → Int32 → LH → Option (Int32 × LH)
 | 0, _, _, _, _, _ => none
 | n + 1, l0, l1, l2, l3, h => F_Mod_storedIn_c4 (F_Mod_storedIn_l4 n) l0 l1 l2 l3 h
theorem F_Mod_storedIn_l4_ok {d : Nat} {q : (Int32 × LH)} (hd : 0 ≤ d) : ∀ (n : Nat) (l0 : Nat) (l1 : Nat) (l2 : Int32) (l3 : Int32) (h : LH), F_Mod_storedIn_l4 n l0 l1 l2 l3 h = some q → JR d jM_256 4 [.ref l0, .ref l1, .int l2, .int l3] [] h (jo_i q)
 | 0 => fun _ _ _ _ _ hq => nomatch (show (none : Option (Int32 × LH)) = some q from hq)
 | n + 1 => fun _ _ _ _ _ hq => F_Mod_storedIn_c4_ok hd (F_Mod_storedIn_l4_ok hd n) hq
noncomputable def F_Mod_storedIn (l0 : Nat) (l1 : Nat) (h : LH) : Option (Int32 × LH) :=
 F_Mod_storedIn_l4  jF l0 l1 (0 : Int32) (0 : Int32) h
set_option maxRecDepth 100000 in
theorem F_Mod_storedIn_ok {d : Nat} (hd : 1 ≤ d) {l0 : Nat} {l1 : Nat} {h : LH} {q : (Int32 × LH)} : F_Mod_storedIn l0 l1 h = some q → jl_Sem jt_T jt_Ms d 256 [.ref l0, .ref l1] h (jo_i q) := by
 unfold F_Mod_storedIn
 exact jr_enter (D := 0) hd jM_256_at rfl rfl rfl (fun d hd =>
  jr_iconst 0 1 (0 : Int32) rfl jc_i_0 rfl
  (jr_istoren 1 2 [.ref l0, .ref l1, .int (0 : Int32), .retAddr 0] rfl rfl rfl rfl
  (jr_iconst 2 3 (0 : Int32) rfl jc_i_0 rfl
  (jr_istoren 3 4 [.ref l0, .ref l1, .int (0 : Int32), .int (0 : Int32)] rfl rfl rfl rfl
  ((F_Mod_storedIn_l4_ok hd  jF _ _ _ _ _))))))
noncomputable def jM_255 : JMeth := (11, false, 1, jk_255, [], 3)
set_option maxRecDepth 100000 in
theorem jM_255_at : jt_Ms 255 = some jM_255 := rfl
noncomputable def F_Mod_siege_b67 (s0 : Int32) (h : LH) : Option (Int32 × LH) :=
 some (s0, h)
set_option maxRecDepth 100000 in
theorem F_Mod_siege_b67_ok {d : Nat} {q : (Int32 × LH)} (hd : 1 ≤ d) {s0 : Int32} {u0 : Value} {u1 : Value} {u2 : Value} {h : LH} : F_Mod_siege_b67 s0 h = some q → JR d jM_255 67 [u0, u1, u2] [.int s0] h (jo_i q) := by
 unfold F_Mod_siege_b67
 exact jr_ri 67 rfl rfl
noncomputable def F_Mod_siege_b30 (l0 : Nat) (l1 : Int32) (l2 : Int32) (s0 : Nat) (s1 : Int32) (h : LH) : Option (Int32 × LH) :=
 jf_kd h s0 11
 (jf_bi (F_Mod_bad s0 s1 (1 : Int32) (1 : Int32) h) fun v1 h2 =>
 if v1 = 0 then
 if l2 = 0 then
 jf_gr h2 l0 11 35 fun v7 =>
 jf_kd h2 l0 11
 (jf_bi (F_Mod_storedIn l0 v7 h2) fun v8 h9 =>
 jf_dv l1 (v8 / l1) fun v10 =>
 F_Mod_siege_b67  v10 h9)
else
 jf_gr h2 l0 11 35 fun v3 =>
 jf_kd h2 l0 11
 (jf_bi (F_Mod_storedIn l0 v3 h2) fun v4 h5 =>
 jf_dv l1 (v4 - v4 / l1 * l1) fun v6 =>
 F_Mod_siege_b67  v6 h5)
else
 some ((0 : Int32), h2))
set_option maxRecDepth 100000 in
theorem F_Mod_siege_b30_ok {d : Nat} {q : (Int32 × LH)} (hd : 1 ≤ d) {l0 : Nat} {l1 : Int32} {l2 : Int32} {s0 : Nat} {s1 : Int32} {h : LH} : F_Mod_siege_b30 l0 l1 l2 s0 s1 h = some q → JR d jM_255 30 [.ref l0, .int l1, .int l2] [.int s1, .ref s0] h (jo_i q) := by
 unfold F_Mod_siege_b30
 exact jr_iconst 30 31 (1 : Int32) rfl jc_i_1 rfl
  (jr_iconst 31 32 (1 : Int32) rfl jc_i_1 rfl
  (jr_cVi 32 35 [] rfl rfl rfl rfl rfl rfl rfl rfl (as := [.int s1, .int (1 : Int32), .int (1 : Int32)]) (F_Mod_bad_ok (Nat.le_trans (by decide : 1 ≤ 1) hd)) (fun v1 h2 =>
  jr_if_eq 35 40 38 rfl rfl rfl
  (jr_iloadn 40 41 rfl rfl rfl
  (jr_if_ne 41 57 44 rfl rfl rfl
  (jr_aloadn 57 58 rfl rfl rfl
  (jr_aloadn 58 59 rfl rfl rfl
  (jr_gr 59 62 rfl jg_11_85_2 rfl (fun v3 =>
  jr_cVi 62 65 [] rfl rfl rfl rfl rfl rfl rfl rfl (as := [.ref v3]) (F_Mod_storedIn_ok (Nat.le_trans (by decide : 1 ≤ 1) hd)) (fun v4 h5 =>
  jr_iloadn 65 66 rfl rfl rfl
  (jr_irem 66 67 rfl rfl (fun v6 =>
  (F_Mod_siege_b67_ok hd ))))))))
  (jr_aloadn 44 45 rfl rfl rfl
  (jr_aloadn 45 46 rfl rfl rfl
  (jr_gr 46 49 rfl jg_11_85_2 rfl (fun v7 =>
  jr_cVi 49 52 [] rfl rfl rfl rfl rfl rfl rfl rfl (as := [.ref v7]) (F_Mod_storedIn_ok (Nat.le_trans (by decide : 1 ≤ 1) hd)) (fun v8 h9 =>
  jr_iloadn 52 53 rfl rfl rfl
  (jr_idiv 53 54 rfl rfl (fun v10 =>
  jr_goto 54 67 rfl rfl
  ((F_Mod_siege_b67_ok hd )))))))))))
  (jr_iconst 38 39 (0 : Int32) rfl jc_i_0 rfl
  (jr_ri 39 rfl rfl)))))
noncomputable def F_Mod_siege_b25 (l0 : Nat) (l1 : Int32) (l2 : Int32) (s0 : Nat) (h : LH) : Option (Int32 × LH) :=
 F_Mod_siege_b30  l0 l1 l2 s0 (1 : Int32) h
set_option maxRecDepth 100000 in
theorem F_Mod_siege_b25_ok {d : Nat} {q : (Int32 × LH)} (hd : 1 ≤ d) {l0 : Nat} {l1 : Int32} {l2 : Int32} {s0 : Nat} {h : LH} : F_Mod_siege_b25 l0 l1 l2 s0 h = some q → JR d jM_255 25 [.ref l0, .int l1, .int l2] [.ref s0] h (jo_i q) := by
 unfold F_Mod_siege_b25
 exact jr_iconst 25 26 (1 : Int32) rfl jc_i_1 rfl
  (jr_goto 26 30 rfl rfl
  ((F_Mod_siege_b30_ok hd )))
noncomputable def F_Mod_siege (l0 : Nat) (l1 : Int32) (l2 : Int32) (h : LH) : Option (Int32 × LH) :=
 jf_pi h l0 11 0 (0 : Int32) fun h1 =>
 jf_bi (F_Mod_in l1 (1 : Int32) (9 : Int32) h1) fun v2 h3 =>
 if v2 = 0 then
 F_Mod_siege_b25  l0 l1 l2 l0 h3
else
 jf_bi (F_Mod_in l2 (0 : Int32) (1 : Int32) h3) fun v4 h5 =>
 if v4 = 0 then
 F_Mod_siege_b25  l0 l1 l2 l0 h5
else
 F_Mod_siege_b30  l0 l1 l2 l0 (0 : Int32) h5
set_option maxRecDepth 100000 in
theorem F_Mod_siege_ok {d : Nat} (hd : 2 ≤ d) {l0 : Nat} {l1 : Int32} {l2 : Int32} {h : LH} {q : (Int32 × LH)} : F_Mod_siege l0 l1 l2 h = some q → jl_Sem jt_T jt_Ms d 255 [.ref l0, .int l1, .int l2] h (jo_i q) := by
 unfold F_Mod_siege
 exact jr_enter (D := 1) hd jM_255_at rfl rfl rfl (fun d hd =>
  jr_aloadn 0 1 rfl rfl rfl
  (jr_iconst 1 2 (0 : Int32) rfl jc_i_0 rfl
  (jr_pi 2 5 rfl jg_11_109_3 rfl (fun h1 =>
  jr_aloadn 5 6 rfl rfl rfl
  (jr_iloadn 6 7 rfl rfl rfl
  (jr_iconst 7 8 (1 : Int32) rfl jc_i_1 rfl
  (jr_bipush 8 10 (9 : Int32) rfl jc_b_9 rfl
  (jr_cSi 10 13 [.ref l0] rfl rfl rfl rfl rfl rfl rfl (as := [.int l1, .int (1 : Int32), .int (9 : Int32)]) (F_Mod_in_ok (Nat.le_trans (by decide : 1 ≤ 1) hd)) (fun v2 h3 =>
  jr_if_eq 13 25 16 rfl rfl rfl
  ((F_Mod_siege_b25_ok hd ))
  (jr_iloadn 16 17 rfl rfl rfl
  (jr_iconst 17 18 (0 : Int32) rfl jc_i_0 rfl
  (jr_iconst 18 19 (1 : Int32) rfl jc_i_1 rfl
  (jr_cSi 19 22 [.ref l0] rfl rfl rfl rfl rfl rfl rfl (as := [.int l2, .int (0 : Int32), .int (1 : Int32)]) (F_Mod_in_ok (Nat.le_trans (by decide : 1 ≤ 1) hd)) (fun v4 h5 =>
  jr_if_ne 22 29 25 rfl rfl rfl
  (jr_iconst 29 30 (0 : Int32) rfl jc_i_0 rfl
  ((F_Mod_siege_b30_ok hd )))
  ((F_Mod_siege_b25_ok hd ))))))))))))))))
noncomputable def jM_258 : JMeth := (11, false, 2, jk_258, [], 2)
set_option maxRecDepth 100000 in
theorem jM_258_at : jt_Ms 258 = some jM_258 := rfl
noncomputable def F_Mod_isSignal (l0 : Nat) (l1 : Int32) (h : LH) : Option (Int32 × LH) :=
 jf_gr h l0 11 12 fun v1 =>
 jf_ia h v1 (3 : Int32) fun v2 =>
 jf_bi (F_Mod_in l1 (0 : Int32) (v2 - (1 : Int32)) h) fun v3 h4 =>
 jf_rz v3 (some (v3, h4))
set_option maxRecDepth 100000 in
theorem F_Mod_isSignal_ok {d : Nat} (hd : 2 ≤ d) {l0 : Nat} {l1 : Int32} {h : LH} {q : (Int32 × LH)} : F_Mod_isSignal l0 l1 h = some q → jl_Sem jt_T jt_Ms d 258 [.ref l0, .int l1] h (jo_i q) := by
 unfold F_Mod_isSignal
 exact jr_enter (D := 1) hd jM_258_at rfl rfl rfl (fun d hd =>
  jr_iloadn 0 1 rfl rfl rfl
  (jr_iconst 1 2 (0 : Int32) rfl jc_i_0 rfl
  (jr_aloadn 2 3 rfl rfl rfl
  (jr_gr 3 6 rfl jg_11_23_2 rfl (fun v1 =>
  jr_iconst 6 7 (3 : Int32) rfl jc_i_3 rfl
  (jr_ia 7 8 rfl rfl (fun v2 =>
  jr_iconst 8 9 (1 : Int32) rfl jc_i_1 rfl
  (jr_isub 9 10 rfl rfl
  (jr_cSi 10 13 [] rfl rfl rfl rfl rfl rfl rfl (as := [.int l1, .int (0 : Int32), .int (v2 - (1 : Int32))]) (F_Mod_in_ok (Nat.le_trans (by decide : 1 ≤ 1) hd)) (fun v3 h4 =>
  jr_rz 13 rfl rfl))))))))))
noncomputable def jM_259 : JMeth := (11, false, 1, jk_259, [], 3)
set_option maxRecDepth 100000 in
theorem jM_259_at : jt_Ms 259 = some jM_259 := rfl
noncomputable def F_Mod_distanceTo (l0 : Nat) (l1 : Int32) (l2 : Int32) (h : LH) : Option (Int32 × LH) :=
 jf_gr h l0 11 18 fun v1 =>
 jf_ia h v1 l1 fun v2 =>
 jf_bi (F_Mod_ones (v2 ^^^ l2) h) fun v3 h4 =>
 some (v3, h4)
set_option maxRecDepth 100000 in
theorem F_Mod_distanceTo_ok {d : Nat} (hd : 2 ≤ d) {l0 : Nat} {l1 : Int32} {l2 : Int32} {h : LH} {q : (Int32 × LH)} : F_Mod_distanceTo l0 l1 l2 h = some q → jl_Sem jt_T jt_Ms d 259 [.ref l0, .int l1, .int l2] h (jo_i q) := by
 unfold F_Mod_distanceTo
 exact jr_enter (D := 1) hd jM_259_at rfl rfl rfl (fun d hd =>
  jr_aloadn 0 1 rfl rfl rfl
  (jr_gr 1 4 rfl jg_11_41_2 rfl (fun v1 =>
  jr_iloadn 4 5 rfl rfl rfl
  (jr_ia 5 6 rfl rfl (fun v2 =>
  jr_iloadn 6 7 rfl rfl rfl
  (jr_ixor 7 8 rfl rfl
  (jr_cSi 8 11 [] rfl rfl rfl rfl rfl rfl rfl (as := [.int (v2 ^^^ l2)]) (F_Mod_ones_ok (Nat.le_trans (by decide : 1 ≤ 1) hd)) (fun v3 h4 =>
  jr_ri 11 rfl rfl))))))))
noncomputable def jM_257 : JMeth := (11, false, 1, jk_257, [], 3)
set_option maxRecDepth 100000 in
theorem jM_257_at : jt_Ms 257 = some jM_257 := rfl
noncomputable def F_Mod_distance_b27 (l0 : Nat) (l1 : Int32) (l2 : Int32) (s0 : Nat) (s1 : Int32) (h : LH) : Option (Int32 × LH) :=
 jf_kd h s0 11
 (jf_bi (F_Mod_bad s0 s1 (1 : Int32) (0 : Int32) h) fun v1 h2 =>
 if v1 = 0 then
 jf_gr h2 l0 11 18 fun v3 =>
 jf_ia h2 v3 l2 fun v4 =>
 jf_kd h2 l0 11
 (jf_bi (F_Mod_distanceTo l0 l1 v4 h2) fun v5 h6 =>
 some (v5, h6))
else
 some ((0 : Int32), h2))
set_option maxRecDepth 100000 in
theorem F_Mod_distance_b27_ok {d : Nat} {q : (Int32 × LH)} (hd : 2 ≤ d) {l0 : Nat} {l1 : Int32} {l2 : Int32} {s0 : Nat} {s1 : Int32} {h : LH} : F_Mod_distance_b27 l0 l1 l2 s0 s1 h = some q → JR d jM_257 27 [.ref l0, .int l1, .int l2] [.int s1, .ref s0] h (jo_i q) := by
 unfold F_Mod_distance_b27
 exact jr_iconst 27 28 (1 : Int32) rfl jc_i_1 rfl
  (jr_iconst 28 29 (0 : Int32) rfl jc_i_0 rfl
  (jr_cVi 29 32 [] rfl rfl rfl rfl rfl rfl rfl rfl (as := [.int s1, .int (1 : Int32), .int (0 : Int32)]) (F_Mod_bad_ok (Nat.le_trans (by decide : 1 ≤ 2) hd)) (fun v1 h2 =>
  jr_if_eq 32 37 35 rfl rfl rfl
  (jr_aloadn 37 38 rfl rfl rfl
  (jr_iloadn 38 39 rfl rfl rfl
  (jr_aloadn 39 40 rfl rfl rfl
  (jr_gr 40 43 rfl jg_11_41_2 rfl (fun v3 =>
  jr_iloadn 43 44 rfl rfl rfl
  (jr_ia 44 45 rfl rfl (fun v4 =>
  jr_cVi 45 48 [] rfl rfl rfl rfl rfl rfl rfl rfl (as := [.int l1, .int v4]) (F_Mod_distanceTo_ok (Nat.le_trans (by decide : 2 ≤ 2) hd)) (fun v5 h6 =>
  jr_ri 48 rfl rfl))))))))
  (jr_iconst 35 36 (0 : Int32) rfl jc_i_0 rfl
  (jr_ri 36 rfl rfl)))))
noncomputable def F_Mod_distance_b22 (l0 : Nat) (l1 : Int32) (l2 : Int32) (s0 : Nat) (h : LH) : Option (Int32 × LH) :=
 F_Mod_distance_b27  l0 l1 l2 s0 (1 : Int32) h
set_option maxRecDepth 100000 in
theorem F_Mod_distance_b22_ok {d : Nat} {q : (Int32 × LH)} (hd : 2 ≤ d) {l0 : Nat} {l1 : Int32} {l2 : Int32} {s0 : Nat} {h : LH} : F_Mod_distance_b22 l0 l1 l2 s0 h = some q → JR d jM_257 22 [.ref l0, .int l1, .int l2] [.ref s0] h (jo_i q) := by
 unfold F_Mod_distance_b22
 exact jr_iconst 22 23 (1 : Int32) rfl jc_i_1 rfl
  (jr_goto 23 27 rfl rfl
  ((F_Mod_distance_b27_ok hd )))
noncomputable def F_Mod_distance (l0 : Nat) (l1 : Int32) (l2 : Int32) (h : LH) : Option (Int32 × LH) :=
 jf_pi h l0 11 0 (0 : Int32) fun h1 =>
 jf_kd h1 l0 11
 (jf_bi (F_Mod_isSignal l0 l1 h1) fun v2 h3 =>
 if v2 = 0 then
 F_Mod_distance_b22  l0 l1 l2 l0 h3
else
 jf_kd h3 l0 11
 (jf_bi (F_Mod_isSignal l0 l2 h3) fun v4 h5 =>
 if v4 = 0 then
 F_Mod_distance_b22  l0 l1 l2 l0 h5
else
 F_Mod_distance_b27  l0 l1 l2 l0 (0 : Int32) h5))
set_option maxRecDepth 100000 in
theorem F_Mod_distance_ok {d : Nat} (hd : 3 ≤ d) {l0 : Nat} {l1 : Int32} {l2 : Int32} {h : LH} {q : (Int32 × LH)} : F_Mod_distance l0 l1 l2 h = some q → jl_Sem jt_T jt_Ms d 257 [.ref l0, .int l1, .int l2] h (jo_i q) := by
 unfold F_Mod_distance
 exact jr_enter (D := 2) hd jM_257_at rfl rfl rfl (fun d hd =>
  jr_aloadn 0 1 rfl rfl rfl
  (jr_iconst 1 2 (0 : Int32) rfl jc_i_0 rfl
  (jr_pi 2 5 rfl jg_11_109_3 rfl (fun h1 =>
  jr_aloadn 5 6 rfl rfl rfl
  (jr_aloadn 6 7 rfl rfl rfl
  (jr_iloadn 7 8 rfl rfl rfl
  (jr_cVi 8 11 [.ref l0] rfl rfl rfl rfl rfl rfl rfl rfl (as := [.int l1]) (F_Mod_isSignal_ok (Nat.le_trans (by decide : 2 ≤ 2) hd)) (fun v2 h3 =>
  jr_if_eq 11 22 14 rfl rfl rfl
  ((F_Mod_distance_b22_ok hd ))
  (jr_aloadn 14 15 rfl rfl rfl
  (jr_iloadn 15 16 rfl rfl rfl
  (jr_cVi 16 19 [.ref l0] rfl rfl rfl rfl rfl rfl rfl rfl (as := [.int l2]) (F_Mod_isSignal_ok (Nat.le_trans (by decide : 2 ≤ 2) hd)) (fun v4 h5 =>
  jr_if_ne 19 26 22 rfl rfl rfl
  (jr_iconst 26 27 (0 : Int32) rfl jc_i_0 rfl
  ((F_Mod_distance_b27_ok hd )))
  ((F_Mod_distance_b22_ok hd ))))))))))))))
noncomputable def jM_260 : JMeth := (11, false, 1, jk_260, [], 5)
set_option maxRecDepth 100000 in
theorem jM_260_at : jt_Ms 260 = some jM_260 := rfl
noncomputable def F_Mod_closest_b82 (k11 : Nat → Int32 → Int32 → Int32 → LH → Option (Int32 × LH)) (k26 : Nat → Int32 → Int32 → Int32 → Int32 → LH → Option (Int32 × LH)) (l0 : Nat) (l1 : Int32) (l2 : Int32) (l3 : Int32) (l4 : Int32) (h : LH) : Option (Int32 × LH) :=
 k26 l0 l1 l2 l3 (l4 + (1 : Int32)) h
set_option maxRecDepth 100000 in
theorem F_Mod_closest_b82_ok {d : Nat} {q : (Int32 × LH)} {k11 : Nat → Int32 → Int32 → Int32 → LH → Option (Int32 × LH)} {k26 : Nat → Int32 → Int32 → Int32 → Int32 → LH → Option (Int32 × LH)} (hd : 2 ≤ d) (hk11 : ∀ (l0 : Nat) (l1 : Int32) (l2 : Int32) (l3 : Int32) (u4 : Value) (h : LH), k11 l0 l1 l2 l3 h = some q → JR d jM_260 11 [.ref l0, .int l1, .int l2, .int l3, u4] [] h (jo_i q)) (hk26 : ∀ (l0 : Nat) (l1 : Int32) (l2 : Int32) (l3 : Int32) (l4 : Int32) (h : LH), k26 l0 l1 l2 l3 l4 h = some q → JR d jM_260 26 [.ref l0, .int l1, .int l2, .int l3, .int l4] [] h (jo_i q)) {l0 : Nat} {l1 : Int32} {l2 : Int32} {l3 : Int32} {l4 : Int32} {h : LH} : F_Mod_closest_b82 k11 k26 l0 l1 l2 l3 l4 h = some q → JR d jM_260 82 [.ref l0, .int l1, .int l2, .int l3, .int l4] [] h (jo_i q) := by
 unfold F_Mod_closest_b82
 exact jr_iinc 82 85 [.ref l0, .int l1, .int l2, .int l3, .int (l4 + (1 : Int32))] rfl jc_i_1 rfl rfl rfl rfl
  (jr_goto 85 26 rfl rfl
  ((hk26 _ _ _ _ _ _)))
noncomputable def F_Mod_closest_b61 (k11 : Nat → Int32 → Int32 → Int32 → LH → Option (Int32 × LH)) (k26 : Nat → Int32 → Int32 → Int32 → Int32 → LH → Option (Int32 × LH)) (l0 : Nat) (l3 : Int32) (l4 : Int32) (h : LH) : Option (Int32 × LH) :=
 jf_let (((10 : Int32) * l3) + l4) fun v1 =>
 jf_gr h l0 11 18 fun v2 =>
 jf_ia h v2 l4 fun v3 =>
 jf_kd h l0 11
 (jf_bi (F_Mod_distanceTo l0 l3 v3 h) fun v4 h5 =>
 F_Mod_closest_b82 k11 k26 l0 v1 v4 l3 l4 h5)
set_option maxRecDepth 100000 in
theorem F_Mod_closest_b61_ok {d : Nat} {q : (Int32 × LH)} {k11 : Nat → Int32 → Int32 → Int32 → LH → Option (Int32 × LH)} {k26 : Nat → Int32 → Int32 → Int32 → Int32 → LH → Option (Int32 × LH)} (hd : 2 ≤ d) (hk11 : ∀ (l0 : Nat) (l1 : Int32) (l2 : Int32) (l3 : Int32) (u4 : Value) (h : LH), k11 l0 l1 l2 l3 h = some q → JR d jM_260 11 [.ref l0, .int l1, .int l2, .int l3, u4] [] h (jo_i q)) (hk26 : ∀ (l0 : Nat) (l1 : Int32) (l2 : Int32) (l3 : Int32) (l4 : Int32) (h : LH), k26 l0 l1 l2 l3 l4 h = some q → JR d jM_260 26 [.ref l0, .int l1, .int l2, .int l3, .int l4] [] h (jo_i q)) {l0 : Nat} {l3 : Int32} {l4 : Int32} {u1 : Value} {u2 : Value} {h : LH} : F_Mod_closest_b61 k11 k26 l0 l3 l4 h = some q → JR d jM_260 61 [.ref l0, u1, u2, .int l3, .int l4] [] h (jo_i q) := by
 unfold F_Mod_closest_b61
 exact jr_bipush 61 63 (10 : Int32) rfl jc_b_10 rfl
  (jr_iloadn 63 64 rfl rfl rfl
  (jr_imul 64 65 rfl rfl
  (jr_iload 65 67 rfl rfl rfl
  (jr_iadd 67 68 rfl rfl
  (jr_istorenL 68 69 (fun v1 => [.ref l0, .int v1, u2, .int l3, .int l4]) rfl rfl (fun _ => rfl) rfl (fun v1 =>
  jr_aloadn 69 70 rfl rfl rfl
  (jr_iloadn 70 71 rfl rfl rfl
  (jr_aloadn 71 72 rfl rfl rfl
  (jr_gr 72 75 rfl jg_11_41_2 rfl (fun v2 =>
  jr_iload 75 77 rfl rfl rfl
  (jr_ia 77 78 rfl rfl (fun v3 =>
  jr_cVi 78 81 [] rfl rfl rfl rfl rfl rfl rfl rfl (as := [.int l3, .int v3]) (F_Mod_distanceTo_ok (Nat.le_trans (by decide : 2 ≤ 2) hd)) (fun v4 h5 =>
  jr_istoren 81 82 [.ref l0, .int v1, .int v4, .int l3, .int l4] rfl rfl rfl rfl
  ((F_Mod_closest_b82_ok hd hk11 hk26)))))))))))))))
noncomputable def F_Mod_closest_c26 (k11 : Nat → Int32 → Int32 → Int32 → LH → Option (Int32 × LH)) (k26 : Nat → Int32 → Int32 → Int32 → Int32 → LH → Option (Int32 × LH)) (l0 : Nat) (l1 : Int32) (l2 : Int32) (l3 : Int32) (l4 : Int32) (h : LH) : Option (Int32 × LH) :=
 jf_gr h l0 11 12 fun v1 =>
 jf_ia h v1 (3 : Int32) fun v2 =>
 if l4 < v2 then
 if l2 = (-1 : Int32) then
 F_Mod_closest_b61 k11 k26 l0 l3 l4 h
else
 jf_gr h l0 11 18 fun v3 =>
 jf_ia h v3 l4 fun v4 =>
 jf_kd h l0 11
 (jf_bi (F_Mod_distanceTo l0 l3 v4 h) fun v5 h6 =>
 if v5 < l2 then
 F_Mod_closest_b61 k11 k26 l0 l3 l4 h6
else
 F_Mod_closest_b82 k11 k26 l0 l1 l2 l3 l4 h6)
else
 k11 l0 l1 l2 (l3 + (1 : Int32)) h
set_option maxRecDepth 100000 in
theorem F_Mod_closest_c26_ok {d : Nat} {q : (Int32 × LH)} {k11 : Nat → Int32 → Int32 → Int32 → LH → Option (Int32 × LH)} {k26 : Nat → Int32 → Int32 → Int32 → Int32 → LH → Option (Int32 × LH)} (hd : 2 ≤ d) (hk11 : ∀ (l0 : Nat) (l1 : Int32) (l2 : Int32) (l3 : Int32) (u4 : Value) (h : LH), k11 l0 l1 l2 l3 h = some q → JR d jM_260 11 [.ref l0, .int l1, .int l2, .int l3, u4] [] h (jo_i q)) (hk26 : ∀ (l0 : Nat) (l1 : Int32) (l2 : Int32) (l3 : Int32) (l4 : Int32) (h : LH), k26 l0 l1 l2 l3 l4 h = some q → JR d jM_260 26 [.ref l0, .int l1, .int l2, .int l3, .int l4] [] h (jo_i q)) {l0 : Nat} {l1 : Int32} {l2 : Int32} {l3 : Int32} {l4 : Int32} {h : LH} : F_Mod_closest_c26 k11 k26 l0 l1 l2 l3 l4 h = some q → JR d jM_260 26 [.ref l0, .int l1, .int l2, .int l3, .int l4] [] h (jo_i q) := by
 unfold F_Mod_closest_c26
 exact jr_iload 26 28 rfl rfl rfl
  (jr_aloadn 28 29 rfl rfl rfl
  (jr_gr 29 32 rfl jg_11_23_2 rfl (fun v1 =>
  jr_iconst 32 33 (3 : Int32) rfl jc_i_3 rfl
  (jr_ia 33 34 rfl rfl (fun v2 =>
  jr_icmp_ge 34 88 37 rfl rfl rfl
  (jr_iinc 88 91 [.ref l0, .int l1, .int l2, .int (l3 + (1 : Int32)), .int l4] rfl jc_i_1 rfl rfl rfl rfl
  (jr_goto 91 11 rfl rfl
  ((hk11 _ _ _ _ _ _))))
  (jr_iloadn 37 38 rfl rfl rfl
  (jr_iconst 38 39 (-1 : Int32) rfl jc_i_m1 rfl
  (jr_icmp_eq 39 61 42 rfl rfl rfl
  ((F_Mod_closest_b61_ok hd hk11 hk26))
  (jr_aloadn 42 43 rfl rfl rfl
  (jr_iloadn 43 44 rfl rfl rfl
  (jr_aloadn 44 45 rfl rfl rfl
  (jr_gr 45 48 rfl jg_11_41_2 rfl (fun v3 =>
  jr_iload 48 50 rfl rfl rfl
  (jr_ia 50 51 rfl rfl (fun v4 =>
  jr_cVi 51 54 [] rfl rfl rfl rfl rfl rfl rfl rfl (as := [.int l3, .int v4]) (F_Mod_distanceTo_ok (Nat.le_trans (by decide : 2 ≤ 2) hd)) (fun v5 h6 =>
  jr_iloadn 54 55 rfl rfl rfl
  (jr_icmp_lt 55 61 58 rfl rfl rfl
  ((F_Mod_closest_b61_ok hd hk11 hk26))
  (jr_goto 58 82 rfl rfl
  ((F_Mod_closest_b82_ok hd hk11 hk26))))))))))))))))))))
noncomputable def F_Mod_closest_l26 (k11 : Nat → Int32 → Int32 → Int32 → LH → Option (Int32 × LH)) : Nat → Nat → Int32 → Int32 → Int32 → Int32 → LH → Option (Int32 × LH)
 | 0, _, _, _, _, _, _ => none
 | n + 1, l0, l1, l2, l3, l4, h => F_Mod_closest_c26 k11 (F_Mod_closest_l26 k11 n) l0 l1 l2 l3 l4 h
theorem F_Mod_closest_l26_ok {d : Nat} {q : (Int32 × LH)} {k11 : Nat → Int32 → Int32 → Int32 → LH → Option (Int32 × LH)} (hd : 2 ≤ d) (hk11 : ∀ (l0 : Nat) (l1 : Int32) (l2 : Int32) (l3 : Int32) (u4 : Value) (h : LH), k11 l0 l1 l2 l3 h = some q → JR d jM_260 11 [.ref l0, .int l1, .int l2, .int l3, u4] [] h (jo_i q)) : ∀ (n : Nat) (l0 : Nat) (l1 : Int32) (l2 : Int32) (l3 : Int32) (l4 : Int32) (h : LH), F_Mod_closest_l26 k11 n l0 l1 l2 l3 l4 h = some q → JR d jM_260 26 [.ref l0, .int l1, .int l2, .int l3, .int l4] [] h (jo_i q)
 | 0 => fun _ _ _ _ _ _ hq => nomatch (show (none : Option (Int32 × LH)) = some q from hq)
 | n + 1 => fun _ _ _ _ _ _ hq => F_Mod_closest_c26_ok hd hk11 (F_Mod_closest_l26_ok hd hk11 n) hq
noncomputable def F_Mod_closest_c11 (k11 : Nat → Int32 → Int32 → Int32 → LH → Option (Int32 × LH)) (l0 : Nat) (l1 : Int32) (l2 : Int32) (l3 : Int32) (h : LH) : Option (Int32 × LH) :=
 jf_gr h l0 11 12 fun v1 =>
 jf_ia h v1 (3 : Int32) fun v2 =>
 if l3 < v2 then
 jf_let (l3 + (1 : Int32)) fun v3 =>
 F_Mod_closest_l26 k11 jF l0 l1 l2 l3 v3 h
else
 some (l1, h)
set_option maxRecDepth 100000 in
theorem F_Mod_closest_c11_ok {d : Nat} {q : (Int32 × LH)} {k11 : Nat → Int32 → Int32 → Int32 → LH → Option (Int32 × LH)} (hd : 2 ≤ d) (hk11 : ∀ (l0 : Nat) (l1 : Int32) (l2 : Int32) (l3 : Int32) (u4 : Value) (h : LH), k11 l0 l1 l2 l3 h = some q → JR d jM_260 11 [.ref l0, .int l1, .int l2, .int l3, u4] [] h (jo_i q)) {l0 : Nat} {l1 : Int32} {l2 : Int32} {l3 : Int32} {u4 : Value} {h : LH} : F_Mod_closest_c11 k11 l0 l1 l2 l3 h = some q → JR d jM_260 11 [.ref l0, .int l1, .int l2, .int l3, u4] [] h (jo_i q) := by
 unfold F_Mod_closest_c11
 exact jr_iloadn 11 12 rfl rfl rfl
  (jr_aloadn 12 13 rfl rfl rfl
  (jr_gr 13 16 rfl jg_11_23_2 rfl (fun v1 =>
  jr_iconst 16 17 (3 : Int32) rfl jc_i_3 rfl
  (jr_ia 17 18 rfl rfl (fun v2 =>
  jr_icmp_ge 18 94 21 rfl rfl rfl
  (jr_iloadn 94 95 rfl rfl rfl
  (jr_ri 95 rfl rfl))
  (jr_iloadn 21 22 rfl rfl rfl
  (jr_iconst 22 23 (1 : Int32) rfl jc_i_1 rfl
  (jr_iadd 23 24 rfl rfl
  (jr_istoreL 24 26 (fun v3 => [.ref l0, .int l1, .int l2, .int l3, .int v3]) rfl rfl (fun _ => rfl) rfl (fun v3 =>
  (F_Mod_closest_l26_ok hd hk11 jF _ _ _ _ _ _)))))))))))
noncomputable def F_Mod_closest_l11 : Nat → Nat → Int32 → Int32 → Int32 → LH → Option (Int32 × LH)
 | 0, _, _, _, _, _ => none
 | n + 1, l0, l1, l2, l3, h => F_Mod_closest_c11 (F_Mod_closest_l11 n) l0 l1 l2 l3 h
theorem F_Mod_closest_l11_ok {d : Nat} {q : (Int32 × LH)} (hd : 2 ≤ d) : ∀ (n : Nat) (l0 : Nat) (l1 : Int32) (l2 : Int32) (l3 : Int32) (u4 : Value) (h : LH), F_Mod_closest_l11 n l0 l1 l2 l3 h = some q → JR d jM_260 11 [.ref l0, .int l1, .int l2, .int l3, u4] [] h (jo_i q)
 | 0 => fun _ _ _ _ _ _ hq => nomatch (show (none : Option (Int32 × LH)) = some q from hq)
 | n + 1 => fun _ _ _ _ _ _ hq => F_Mod_closest_c11_ok hd (F_Mod_closest_l11_ok hd n) hq
noncomputable def F_Mod_closest (l0 : Nat) (h : LH) : Option (Int32 × LH) :=
 jf_pi h l0 11 0 (0 : Int32) fun h1 =>
 F_Mod_closest_l11  jF l0 (-1 : Int32) (-1 : Int32) (0 : Int32) h1
set_option maxRecDepth 100000 in
theorem F_Mod_closest_ok {d : Nat} (hd : 3 ≤ d) {l0 : Nat} {h : LH} {q : (Int32 × LH)} : F_Mod_closest l0 h = some q → jl_Sem jt_T jt_Ms d 260 [.ref l0] h (jo_i q) := by
 unfold F_Mod_closest
 exact jr_enter (D := 2) hd jM_260_at rfl rfl rfl (fun d hd =>
  jr_aloadn 0 1 rfl rfl rfl
  (jr_iconst 1 2 (0 : Int32) rfl jc_i_0 rfl
  (jr_pi 2 5 rfl jg_11_109_3 rfl (fun h1 =>
  jr_iconst 5 6 (-1 : Int32) rfl jc_i_m1 rfl
  (jr_istoren 6 7 [.ref l0, .int (-1 : Int32), .retAddr 0, .retAddr 0, .retAddr 0] rfl rfl rfl rfl
  (jr_iconst 7 8 (-1 : Int32) rfl jc_i_m1 rfl
  (jr_istoren 8 9 [.ref l0, .int (-1 : Int32), .int (-1 : Int32), .retAddr 0, .retAddr 0] rfl rfl rfl rfl
  (jr_iconst 9 10 (0 : Int32) rfl jc_i_0 rfl
  (jr_istoren 10 11 [.ref l0, .int (-1 : Int32), .int (-1 : Int32), .int (0 : Int32), .retAddr 0] rfl rfl rfl rfl
  ((F_Mod_closest_l11_ok hd  jF _ _ _ _ _ _)))))))))))
noncomputable def jM_262 : JMeth := (11, false, 1, jk_262, [], 4)
set_option maxRecDepth 100000 in
theorem jM_262_at : jt_Ms 262 = some jM_262 := rfl
noncomputable def F_Mod_readAs_b36 (k4 : Nat → Int32 → Int32 → Int32 → LH → Option (Int32 × LH)) (l0 : Nat) (l1 : Int32) (l2 : Int32) (l3 : Int32) (h : LH) : Option (Int32 × LH) :=
 k4 l0 l1 l2 (l3 + (1 : Int32)) h
set_option maxRecDepth 100000 in
theorem F_Mod_readAs_b36_ok {d : Nat} {q : (Int32 × LH)} {k4 : Nat → Int32 → Int32 → Int32 → LH → Option (Int32 × LH)} (hd : 2 ≤ d) (hk4 : ∀ (l0 : Nat) (l1 : Int32) (l2 : Int32) (l3 : Int32) (h : LH), k4 l0 l1 l2 l3 h = some q → JR d jM_262 4 [.ref l0, .int l1, .int l2, .int l3] [] h (jo_i q)) {l0 : Nat} {l1 : Int32} {l2 : Int32} {l3 : Int32} {h : LH} : F_Mod_readAs_b36 k4 l0 l1 l2 l3 h = some q → JR d jM_262 36 [.ref l0, .int l1, .int l2, .int l3] [] h (jo_i q) := by
 unfold F_Mod_readAs_b36
 exact jr_iinc 36 39 [.ref l0, .int l1, .int l2, .int (l3 + (1 : Int32))] rfl jc_i_1 rfl rfl rfl rfl
  (jr_goto 39 4 rfl rfl
  ((hk4 _ _ _ _ _)))
noncomputable def F_Mod_readAs_b34 (k4 : Nat → Int32 → Int32 → Int32 → LH → Option (Int32 × LH)) (l0 : Nat) (l1 : Int32) (l3 : Int32) (h : LH) : Option (Int32 × LH) :=
 F_Mod_readAs_b36 k4 l0 l1 l3 l3 h
set_option maxRecDepth 100000 in
theorem F_Mod_readAs_b34_ok {d : Nat} {q : (Int32 × LH)} {k4 : Nat → Int32 → Int32 → Int32 → LH → Option (Int32 × LH)} (hd : 2 ≤ d) (hk4 : ∀ (l0 : Nat) (l1 : Int32) (l2 : Int32) (l3 : Int32) (h : LH), k4 l0 l1 l2 l3 h = some q → JR d jM_262 4 [.ref l0, .int l1, .int l2, .int l3] [] h (jo_i q)) {l0 : Nat} {l1 : Int32} {l3 : Int32} {u2 : Value} {h : LH} : F_Mod_readAs_b34 k4 l0 l1 l3 h = some q → JR d jM_262 34 [.ref l0, .int l1, u2, .int l3] [] h (jo_i q) := by
 unfold F_Mod_readAs_b34
 exact jr_iloadn 34 35 rfl rfl rfl
  (jr_istoren 35 36 [.ref l0, .int l1, .int l3, .int l3] rfl rfl rfl rfl
  ((F_Mod_readAs_b36_ok hd hk4)))
noncomputable def F_Mod_readAs_c4 (k4 : Nat → Int32 → Int32 → Int32 → LH → Option (Int32 × LH)) (l0 : Nat) (l1 : Int32) (l2 : Int32) (l3 : Int32) (h : LH) : Option (Int32 × LH) :=
 jf_gr h l0 11 12 fun v1 =>
 jf_ia h v1 (3 : Int32) fun v2 =>
 if l3 < v2 then
 if l2 = (-1 : Int32) then
 F_Mod_readAs_b34 k4 l0 l1 l3 h
else
 jf_kd h l0 11
 (jf_bi (F_Mod_distanceTo l0 l3 l1 h) fun v3 h4 =>
 jf_kd h4 l0 11
 (jf_bi (F_Mod_distanceTo l0 l2 l1 h4) fun v5 h6 =>
 if v3 < v5 then
 F_Mod_readAs_b34 k4 l0 l1 l3 h6
else
 F_Mod_readAs_b36 k4 l0 l1 l2 l3 h6))
else
 some (l2, h)
set_option maxRecDepth 100000 in
theorem F_Mod_readAs_c4_ok {d : Nat} {q : (Int32 × LH)} {k4 : Nat → Int32 → Int32 → Int32 → LH → Option (Int32 × LH)} (hd : 2 ≤ d) (hk4 : ∀ (l0 : Nat) (l1 : Int32) (l2 : Int32) (l3 : Int32) (h : LH), k4 l0 l1 l2 l3 h = some q → JR d jM_262 4 [.ref l0, .int l1, .int l2, .int l3] [] h (jo_i q)) {l0 : Nat} {l1 : Int32} {l2 : Int32} {l3 : Int32} {h : LH} : F_Mod_readAs_c4 k4 l0 l1 l2 l3 h = some q → JR d jM_262 4 [.ref l0, .int l1, .int l2, .int l3] [] h (jo_i q) := by
 unfold F_Mod_readAs_c4
 exact jr_iloadn 4 5 rfl rfl rfl
  (jr_aloadn 5 6 rfl rfl rfl
  (jr_gr 6 9 rfl jg_11_23_2 rfl (fun v1 =>
  jr_iconst 9 10 (3 : Int32) rfl jc_i_3 rfl
  (jr_ia 10 11 rfl rfl (fun v2 =>
  jr_icmp_ge 11 42 14 rfl rfl rfl
  (jr_iloadn 42 43 rfl rfl rfl
  (jr_ri 43 rfl rfl))
  (jr_iloadn 14 15 rfl rfl rfl
  (jr_iconst 15 16 (-1 : Int32) rfl jc_i_m1 rfl
  (jr_icmp_eq 16 34 19 rfl rfl rfl
  ((F_Mod_readAs_b34_ok hd hk4))
  (jr_aloadn 19 20 rfl rfl rfl
  (jr_iloadn 20 21 rfl rfl rfl
  (jr_iloadn 21 22 rfl rfl rfl
  (jr_cVi 22 25 [] rfl rfl rfl rfl rfl rfl rfl rfl (as := [.int l3, .int l1]) (F_Mod_distanceTo_ok (Nat.le_trans (by decide : 2 ≤ 2) hd)) (fun v3 h4 =>
  jr_aloadn 25 26 rfl rfl rfl
  (jr_iloadn 26 27 rfl rfl rfl
  (jr_iloadn 27 28 rfl rfl rfl
  (jr_cVi 28 31 [.int v3] rfl rfl rfl rfl rfl rfl rfl rfl (as := [.int l2, .int l1]) (F_Mod_distanceTo_ok (Nat.le_trans (by decide : 2 ≤ 2) hd)) (fun v5 h6 =>
  jr_icmp_ge 31 36 34 rfl rfl rfl
  ((F_Mod_readAs_b36_ok hd hk4))
  ((F_Mod_readAs_b34_ok hd hk4)))))))))))))))))))
noncomputable def F_Mod_readAs_l4 : Nat → Nat → Int32 → Int32 → Int32 → LH → Option (Int32 × LH)
 | 0, _, _, _, _, _ => none
 | n + 1, l0, l1, l2, l3, h => F_Mod_readAs_c4 (F_Mod_readAs_l4 n) l0 l1 l2 l3 h
theorem F_Mod_readAs_l4_ok {d : Nat} {q : (Int32 × LH)} (hd : 2 ≤ d) : ∀ (n : Nat) (l0 : Nat) (l1 : Int32) (l2 : Int32) (l3 : Int32) (h : LH), F_Mod_readAs_l4 n l0 l1 l2 l3 h = some q → JR d jM_262 4 [.ref l0, .int l1, .int l2, .int l3] [] h (jo_i q)
 | 0 => fun _ _ _ _ _ hq => nomatch (show (none : Option (Int32 × LH)) = some q from hq)
 | n + 1 => fun _ _ _ _ _ hq => F_Mod_readAs_c4_ok hd (F_Mod_readAs_l4_ok hd n) hq
noncomputable def F_Mod_readAs (l0 : Nat) (l1 : Int32) (h : LH) : Option (Int32 × LH) :=
 F_Mod_readAs_l4  jF l0 l1 (-1 : Int32) (0 : Int32) h
set_option maxRecDepth 100000 in
theorem F_Mod_readAs_ok {d : Nat} (hd : 3 ≤ d) {l0 : Nat} {l1 : Int32} {h : LH} {q : (Int32 × LH)} : F_Mod_readAs l0 l1 h = some q → jl_Sem jt_T jt_Ms d 262 [.ref l0, .int l1] h (jo_i q) := by
 unfold F_Mod_readAs
 exact jr_enter (D := 2) hd jM_262_at rfl rfl rfl (fun d hd =>
  jr_iconst 0 1 (-1 : Int32) rfl jc_i_m1 rfl
  (jr_istoren 1 2 [.ref l0, .int l1, .int (-1 : Int32), .retAddr 0] rfl rfl rfl rfl
  (jr_iconst 2 3 (0 : Int32) rfl jc_i_0 rfl
  (jr_istoren 3 4 [.ref l0, .int l1, .int (-1 : Int32), .int (0 : Int32)] rfl rfl rfl rfl
  ((F_Mod_readAs_l4_ok hd  jF _ _ _ _ _))))))
noncomputable def jM_261 : JMeth := (11, false, 1, jk_261, [], 2)
set_option maxRecDepth 100000 in
theorem jM_261_at : jt_Ms 261 = some jM_261 := rfl
noncomputable def F_Mod_read_b22 (l0 : Nat) (l1 : Int32) (s0 : Nat) (s1 : Int32) (h : LH) : Option (Int32 × LH) :=
 jf_kd h s0 11
 (jf_bi (F_Mod_bad s0 s1 (1 : Int32) (1 : Int32) h) fun v1 h2 =>
 if v1 = 0 then
 jf_kd h2 l0 11
 (jf_bi (F_Mod_readAs l0 l1 h2) fun v3 h4 =>
 some (v3, h4))
else
 some ((0 : Int32), h2))
set_option maxRecDepth 100000 in
theorem F_Mod_read_b22_ok {d : Nat} {q : (Int32 × LH)} (hd : 3 ≤ d) {l0 : Nat} {l1 : Int32} {s0 : Nat} {s1 : Int32} {h : LH} : F_Mod_read_b22 l0 l1 s0 s1 h = some q → JR d jM_261 22 [.ref l0, .int l1] [.int s1, .ref s0] h (jo_i q) := by
 unfold F_Mod_read_b22
 exact jr_iconst 22 23 (1 : Int32) rfl jc_i_1 rfl
  (jr_iconst 23 24 (1 : Int32) rfl jc_i_1 rfl
  (jr_cVi 24 27 [] rfl rfl rfl rfl rfl rfl rfl rfl (as := [.int s1, .int (1 : Int32), .int (1 : Int32)]) (F_Mod_bad_ok (Nat.le_trans (by decide : 1 ≤ 3) hd)) (fun v1 h2 =>
  jr_if_eq 27 32 30 rfl rfl rfl
  (jr_aloadn 32 33 rfl rfl rfl
  (jr_iloadn 33 34 rfl rfl rfl
  (jr_cVi 34 37 [] rfl rfl rfl rfl rfl rfl rfl rfl (as := [.int l1]) (F_Mod_readAs_ok (Nat.le_trans (by decide : 3 ≤ 3) hd)) (fun v3 h4 =>
  jr_ri 37 rfl rfl))))
  (jr_iconst 30 31 (0 : Int32) rfl jc_i_0 rfl
  (jr_ri 31 rfl rfl)))))
noncomputable def F_Mod_read (l0 : Nat) (l1 : Int32) (h : LH) : Option (Int32 × LH) :=
 jf_pi h l0 11 0 (0 : Int32) fun h1 =>
 jf_bi (F_Mod_in l1 (0 : Int32) (511 : Int32) h1) fun v2 h3 =>
 if v2 = 0 then
 F_Mod_read_b22  l0 l1 l0 (1 : Int32) h3
else
 F_Mod_read_b22  l0 l1 l0 (0 : Int32) h3
set_option maxRecDepth 100000 in
theorem F_Mod_read_ok {d : Nat} (hd : 4 ≤ d) {l0 : Nat} {l1 : Int32} {h : LH} {q : (Int32 × LH)} : F_Mod_read l0 l1 h = some q → jl_Sem jt_T jt_Ms d 261 [.ref l0, .int l1] h (jo_i q) := by
 unfold F_Mod_read
 exact jr_enter (D := 3) hd jM_261_at rfl rfl rfl (fun d hd =>
  jr_aloadn 0 1 rfl rfl rfl
  (jr_iconst 1 2 (0 : Int32) rfl jc_i_0 rfl
  (jr_pi 2 5 rfl jg_11_109_3 rfl (fun h1 =>
  jr_aloadn 5 6 rfl rfl rfl
  (jr_iloadn 6 7 rfl rfl rfl
  (jr_iconst 7 8 (0 : Int32) rfl jc_i_0 rfl
  (jr_sipush 8 11 (511 : Int32) rfl jc_s_511 rfl
  (jr_cSi 11 14 [.ref l0] rfl rfl rfl rfl rfl rfl rfl (as := [.int l1, .int (0 : Int32), .int (511 : Int32)]) (F_Mod_in_ok (Nat.le_trans (by decide : 1 ≤ 3) hd)) (fun v2 h3 =>
  jr_if_ne 14 21 17 rfl rfl rfl
  (jr_iconst 21 22 (0 : Int32) rfl jc_i_0 rfl
  ((F_Mod_read_b22_ok hd )))
  (jr_iconst 17 18 (1 : Int32) rfl jc_i_1 rfl
  (jr_goto 18 22 rfl rfl
  ((F_Mod_read_b22_ok hd )))))))))))))
noncomputable def jM_263 : JMeth := (11, false, 1, jk_263, [], 3)
set_option maxRecDepth 100000 in
theorem jM_263_at : jt_Ms 263 = some jM_263 := rfl
noncomputable def F_Mod_seems_b39 (k9 : Nat → Int32 → Int32 → LH → Option (Int32 × LH)) (l0 : Nat) (l2 : Int32) (s0 : Int32) (s1 : Int32) (h : LH) : Option (Int32 × LH) :=
 jf_let (s0 ||| s1) fun v1 =>
 k9 l0 v1 (l2 + (1 : Int32)) h
set_option maxRecDepth 100000 in
theorem F_Mod_seems_b39_ok {d : Nat} {q : (Int32 × LH)} {k9 : Nat → Int32 → Int32 → LH → Option (Int32 × LH)} (hd : 3 ≤ d) (hk9 : ∀ (l0 : Nat) (l1 : Int32) (l2 : Int32) (h : LH), k9 l0 l1 l2 h = some q → JR d jM_263 9 [.ref l0, .int l1, .int l2] [] h (jo_i q)) {l0 : Nat} {l2 : Int32} {s0 : Int32} {s1 : Int32} {u1 : Value} {h : LH} : F_Mod_seems_b39 k9 l0 l2 s0 s1 h = some q → JR d jM_263 39 [.ref l0, u1, .int l2] [.int s1, .int s0] h (jo_i q) := by
 unfold F_Mod_seems_b39
 exact jr_ior 39 40 rfl rfl
  (jr_istorenL 40 41 (fun v1 => [.ref l0, .int v1, .int l2]) rfl rfl (fun _ => rfl) rfl (fun v1 =>
  jr_iinc 41 44 [.ref l0, .int v1, .int (l2 + (1 : Int32))] rfl jc_i_1 rfl rfl rfl rfl
  (jr_goto 44 9 rfl rfl
  ((hk9 _ _ _ _)))))
noncomputable def F_Mod_seems_c9 (k9 : Nat → Int32 → Int32 → LH → Option (Int32 × LH)) (l0 : Nat) (l1 : Int32) (l2 : Int32) (h : LH) : Option (Int32 × LH) :=
 jf_gr h l0 11 12 fun v1 =>
 jf_ia h v1 (0 : Int32) fun v2 =>
 if l2 < v2 then
 jf_gr h l0 11 35 fun v5 =>
 jf_ia h v5 ((108 : Int32) + l2) fun v6 =>
 if 0 < v6 then
 F_Mod_seems_b39 k9 l0 l2 l1 ((1 : Int32) <<< (l2 &&& 31)) h
else
 F_Mod_seems_b39 k9 l0 l2 l1 (0 : Int32) h
else
 jf_kd h l0 11
 (jf_bi (F_Mod_readAs l0 l1 h) fun v3 h4 =>
 some (v3, h4))
set_option maxRecDepth 100000 in
theorem F_Mod_seems_c9_ok {d : Nat} {q : (Int32 × LH)} {k9 : Nat → Int32 → Int32 → LH → Option (Int32 × LH)} (hd : 3 ≤ d) (hk9 : ∀ (l0 : Nat) (l1 : Int32) (l2 : Int32) (h : LH), k9 l0 l1 l2 h = some q → JR d jM_263 9 [.ref l0, .int l1, .int l2] [] h (jo_i q)) {l0 : Nat} {l1 : Int32} {l2 : Int32} {h : LH} : F_Mod_seems_c9 k9 l0 l1 l2 h = some q → JR d jM_263 9 [.ref l0, .int l1, .int l2] [] h (jo_i q) := by
 unfold F_Mod_seems_c9
 exact jr_iloadn 9 10 rfl rfl rfl
  (jr_aloadn 10 11 rfl rfl rfl
  (jr_gr 11 14 rfl jg_11_23_2 rfl (fun v1 =>
  jr_iconst 14 15 (0 : Int32) rfl jc_i_0 rfl
  (jr_ia 15 16 rfl rfl (fun v2 =>
  jr_icmp_ge 16 47 19 rfl rfl rfl
  (jr_aloadn 47 48 rfl rfl rfl
  (jr_iloadn 48 49 rfl rfl rfl
  (jr_cVi 49 52 [] rfl rfl rfl rfl rfl rfl rfl rfl (as := [.int l1]) (F_Mod_readAs_ok (Nat.le_trans (by decide : 3 ≤ 3) hd)) (fun v3 h4 =>
  jr_ri 52 rfl rfl))))
  (jr_iloadn 19 20 rfl rfl rfl
  (jr_aloadn 20 21 rfl rfl rfl
  (jr_gr 21 24 rfl jg_11_85_2 rfl (fun v5 =>
  jr_bipush 24 26 (108 : Int32) rfl jc_b_108 rfl
  (jr_iloadn 26 27 rfl rfl rfl
  (jr_iadd 27 28 rfl rfl
  (jr_ia 28 29 rfl rfl (fun v6 =>
  jr_if_le 29 38 32 rfl rfl rfl
  (jr_iconst 38 39 (0 : Int32) rfl jc_i_0 rfl
  ((F_Mod_seems_b39_ok hd hk9)))
  (jr_iconst 32 33 (1 : Int32) rfl jc_i_1 rfl
  (jr_iloadn 33 34 rfl rfl rfl
  (jr_ishl 34 35 rfl rfl
  (jr_goto 35 39 rfl rfl
  ((F_Mod_seems_b39_ok hd hk9)))))))))))))))))))
noncomputable def F_Mod_seems_l9 : Nat → Nat → Int32 → Int32 → LH → Option (Int32 × LH)
 | 0, _, _, _, _ => none
 | n + 1, l0, l1, l2, h => F_Mod_seems_c9 (F_Mod_seems_l9 n) l0 l1 l2 h
theorem F_Mod_seems_l9_ok {d : Nat} {q : (Int32 × LH)} (hd : 3 ≤ d) : ∀ (n : Nat) (l0 : Nat) (l1 : Int32) (l2 : Int32) (h : LH), F_Mod_seems_l9 n l0 l1 l2 h = some q → JR d jM_263 9 [.ref l0, .int l1, .int l2] [] h (jo_i q)
 | 0 => fun _ _ _ _ hq => nomatch (show (none : Option (Int32 × LH)) = some q from hq)
 | n + 1 => fun _ _ _ _ hq => F_Mod_seems_c9_ok hd (F_Mod_seems_l9_ok hd n) hq
noncomputable def F_Mod_seems (l0 : Nat) (h : LH) : Option (Int32 × LH) :=
 jf_pi h l0 11 0 (0 : Int32) fun h1 =>
 F_Mod_seems_l9  jF l0 (0 : Int32) (0 : Int32) h1
set_option maxRecDepth 100000 in
theorem F_Mod_seems_ok {d : Nat} (hd : 4 ≤ d) {l0 : Nat} {h : LH} {q : (Int32 × LH)} : F_Mod_seems l0 h = some q → jl_Sem jt_T jt_Ms d 263 [.ref l0] h (jo_i q) := by
 unfold F_Mod_seems
 exact jr_enter (D := 3) hd jM_263_at rfl rfl rfl (fun d hd =>
  jr_aloadn 0 1 rfl rfl rfl
  (jr_iconst 1 2 (0 : Int32) rfl jc_i_0 rfl
  (jr_pi 2 5 rfl jg_11_109_3 rfl (fun h1 =>
  jr_iconst 5 6 (0 : Int32) rfl jc_i_0 rfl
  (jr_istoren 6 7 [.ref l0, .int (0 : Int32), .retAddr 0] rfl rfl rfl rfl
  (jr_iconst 7 8 (0 : Int32) rfl jc_i_0 rfl
  (jr_istoren 8 9 [.ref l0, .int (0 : Int32), .int (0 : Int32)] rfl rfl rfl rfl
  ((F_Mod_seems_l9_ok hd  jF _ _ _ _)))))))))
noncomputable def jM_265 : JMeth := (11, false, 1, jk_265, [], 5)
set_option maxRecDepth 100000 in
theorem jM_265_at : jt_Ms 265 = some jM_265 := rfl
noncomputable def F_Mod_claimsOf_b44 (k5 : Nat → Int32 → Int32 → Int32 → Int32 → LH → Option (Int32 × LH)) (l0 : Nat) (l1 : Int32) (l2 : Int32) (l4 : Int32) (s0 : Int32) (s1 : Int32) (h : LH) : Option (Int32 × LH) :=
 jf_let (s0 + s1) fun v1 =>
 k5 l0 l1 l2 v1 (l4 + (1 : Int32)) h
set_option maxRecDepth 100000 in
theorem F_Mod_claimsOf_b44_ok {d : Nat} {q : (Int32 × LH)} {k5 : Nat → Int32 → Int32 → Int32 → Int32 → LH → Option (Int32 × LH)} (hd : 1 ≤ d) (hk5 : ∀ (l0 : Nat) (l1 : Int32) (l2 : Int32) (l3 : Int32) (l4 : Int32) (h : LH), k5 l0 l1 l2 l3 l4 h = some q → JR d jM_265 5 [.ref l0, .int l1, .int l2, .int l3, .int l4] [] h (jo_i q)) {l0 : Nat} {l1 : Int32} {l2 : Int32} {l4 : Int32} {s0 : Int32} {s1 : Int32} {u3 : Value} {h : LH} : F_Mod_claimsOf_b44 k5 l0 l1 l2 l4 s0 s1 h = some q → JR d jM_265 44 [.ref l0, .int l1, .int l2, u3, .int l4] [.int s1, .int s0] h (jo_i q) := by
 unfold F_Mod_claimsOf_b44
 exact jr_iadd 44 45 rfl rfl
  (jr_istorenL 45 46 (fun v1 => [.ref l0, .int l1, .int l2, .int v1, .int l4]) rfl rfl (fun _ => rfl) rfl (fun v1 =>
  jr_iinc 46 49 [.ref l0, .int l1, .int l2, .int v1, .int (l4 + (1 : Int32))] rfl jc_i_1 rfl rfl rfl rfl
  (jr_goto 49 5 rfl rfl
  ((hk5 _ _ _ _ _ _)))))
noncomputable def F_Mod_claimsOf_c5 (k5 : Nat → Int32 → Int32 → Int32 → Int32 → LH → Option (Int32 × LH)) (l0 : Nat) (l1 : Int32) (l2 : Int32) (l3 : Int32) (l4 : Int32) (h : LH) : Option (Int32 × LH) :=
 jf_gr h l0 11 12 fun v1 =>
 jf_ia h v1 (0 : Int32) fun v2 =>
 if l4 < v2 then
 jf_bi (F_Mod_has l1 l4 h) fun v3 h4 =>
 if v3 = 0 then
 F_Mod_claimsOf_b44 k5 l0 l1 l2 l4 l3 (0 : Int32) h4
else
 jf_gr h4 l0 11 35 fun v5 =>
 jf_ia h4 v5 ((108 : Int32) + l4) fun v6 =>
 jf_bi (F_Mod_less l2 v6 h4) fun v7 h8 =>
 F_Mod_claimsOf_b44 k5 l0 l1 l2 l4 l3 v7 h8
else
 some (l3, h)
set_option maxRecDepth 100000 in
theorem F_Mod_claimsOf_c5_ok {d : Nat} {q : (Int32 × LH)} {k5 : Nat → Int32 → Int32 → Int32 → Int32 → LH → Option (Int32 × LH)} (hd : 1 ≤ d) (hk5 : ∀ (l0 : Nat) (l1 : Int32) (l2 : Int32) (l3 : Int32) (l4 : Int32) (h : LH), k5 l0 l1 l2 l3 l4 h = some q → JR d jM_265 5 [.ref l0, .int l1, .int l2, .int l3, .int l4] [] h (jo_i q)) {l0 : Nat} {l1 : Int32} {l2 : Int32} {l3 : Int32} {l4 : Int32} {h : LH} : F_Mod_claimsOf_c5 k5 l0 l1 l2 l3 l4 h = some q → JR d jM_265 5 [.ref l0, .int l1, .int l2, .int l3, .int l4] [] h (jo_i q) := by
 unfold F_Mod_claimsOf_c5
 exact jr_iload 5 7 rfl rfl rfl
  (jr_aloadn 7 8 rfl rfl rfl
  (jr_gr 8 11 rfl jg_11_23_2 rfl (fun v1 =>
  jr_iconst 11 12 (0 : Int32) rfl jc_i_0 rfl
  (jr_ia 12 13 rfl rfl (fun v2 =>
  jr_icmp_ge 13 52 16 rfl rfl rfl
  (jr_iloadn 52 53 rfl rfl rfl
  (jr_ri 53 rfl rfl))
  (jr_iloadn 16 17 rfl rfl rfl
  (jr_iloadn 17 18 rfl rfl rfl
  (jr_iload 18 20 rfl rfl rfl
  (jr_cSi 20 23 [.int l3] rfl rfl rfl rfl rfl rfl rfl (as := [.int l1, .int l4]) (F_Mod_has_ok (Nat.le_trans (by decide : 1 ≤ 1) hd)) (fun v3 h4 =>
  jr_if_eq 23 43 26 rfl rfl rfl
  (jr_iconst 43 44 (0 : Int32) rfl jc_i_0 rfl
  ((F_Mod_claimsOf_b44_ok hd hk5)))
  (jr_iloadn 26 27 rfl rfl rfl
  (jr_aloadn 27 28 rfl rfl rfl
  (jr_gr 28 31 rfl jg_11_85_2 rfl (fun v5 =>
  jr_bipush 31 33 (108 : Int32) rfl jc_b_108 rfl
  (jr_iload 33 35 rfl rfl rfl
  (jr_iadd 35 36 rfl rfl
  (jr_ia 36 37 rfl rfl (fun v6 =>
  jr_cSi 37 40 [.int l3] rfl rfl rfl rfl rfl rfl rfl (as := [.int l2, .int v6]) (F_Mod_less_ok (Nat.le_trans (by decide : 1 ≤ 1) hd)) (fun v7 h8 =>
  jr_goto 40 44 rfl rfl
  ((F_Mod_claimsOf_b44_ok hd hk5)))))))))))))))))))))
noncomputable def F_Mod_claimsOf_l5 : Nat → Nat → Int32 → Int32 → Int32 → Int32 → LH → Option (Int32 × LH)
 | 0, _, _, _, _, _, _ => none
 | n + 1, l0, l1, l2, l3, l4, h => F_Mod_claimsOf_c5 (F_Mod_claimsOf_l5 n) l0 l1 l2 l3 l4 h
theorem F_Mod_claimsOf_l5_ok {d : Nat} {q : (Int32 × LH)} (hd : 1 ≤ d) : ∀ (n : Nat) (l0 : Nat) (l1 : Int32) (l2 : Int32) (l3 : Int32) (l4 : Int32) (h : LH), F_Mod_claimsOf_l5 n l0 l1 l2 l3 l4 h = some q → JR d jM_265 5 [.ref l0, .int l1, .int l2, .int l3, .int l4] [] h (jo_i q)
 | 0 => fun _ _ _ _ _ _ hq => nomatch (show (none : Option (Int32 × LH)) = some q from hq)
 | n + 1 => fun _ _ _ _ _ _ hq => F_Mod_claimsOf_c5_ok hd (F_Mod_claimsOf_l5_ok hd n) hq
noncomputable def F_Mod_claimsOf (l0 : Nat) (l1 : Int32) (l2 : Int32) (h : LH) : Option (Int32 × LH) :=
 F_Mod_claimsOf_l5  jF l0 l1 l2 (0 : Int32) (0 : Int32) h
set_option maxRecDepth 100000 in
theorem F_Mod_claimsOf_ok {d : Nat} (hd : 2 ≤ d) {l0 : Nat} {l1 : Int32} {l2 : Int32} {h : LH} {q : (Int32 × LH)} : F_Mod_claimsOf l0 l1 l2 h = some q → jl_Sem jt_T jt_Ms d 265 [.ref l0, .int l1, .int l2] h (jo_i q) := by
 unfold F_Mod_claimsOf
 exact jr_enter (D := 1) hd jM_265_at rfl rfl rfl (fun d hd =>
  jr_iconst 0 1 (0 : Int32) rfl jc_i_0 rfl
  (jr_istoren 1 2 [.ref l0, .int l1, .int l2, .int (0 : Int32), .retAddr 0] rfl rfl rfl rfl
  (jr_iconst 2 3 (0 : Int32) rfl jc_i_0 rfl
  (jr_istore 3 5 [.ref l0, .int l1, .int l2, .int (0 : Int32), .int (0 : Int32)] rfl rfl rfl rfl
  ((F_Mod_claimsOf_l5_ok hd  jF _ _ _ _ _ _))))))
noncomputable def jM_264 : JMeth := (11, false, 1, jk_264, [], 5)
set_option maxRecDepth 100000 in
theorem jM_264_at : jt_Ms 264 = some jM_264 := rfl
noncomputable def F_Mod_share_b59 (h : LH) : Option (Int32 × LH) :=
 some ((0 : Int32), h)
set_option maxRecDepth 100000 in
theorem F_Mod_share_b59_ok {d : Nat} {q : (Int32 × LH)} (hd : 2 ≤ d) {u0 : Value} {u1 : Value} {u2 : Value} {u3 : Value} {u4 : Value} {h : LH} : F_Mod_share_b59 h = some q → JR d jM_264 59 [u0, u1, u2, u3, u4] [] h (jo_i q) := by
 unfold F_Mod_share_b59
 exact jr_iconst 59 60 (0 : Int32) rfl jc_i_0 rfl
  (jr_ri 60 rfl rfl)
noncomputable def F_Mod_share_b116 (s0 : Int32) (h : LH) : Option (Int32 × LH) :=
 some (s0, h)
set_option maxRecDepth 100000 in
theorem F_Mod_share_b116_ok {d : Nat} {q : (Int32 × LH)} (hd : 2 ≤ d) {s0 : Int32} {u0 : Value} {u1 : Value} {u2 : Value} {u3 : Value} {u4 : Value} {h : LH} : F_Mod_share_b116 s0 h = some q → JR d jM_264 116 [u0, u1, u2, u3, u4] [.int s0] h (jo_i q) := by
 unfold F_Mod_share_b116
 exact jr_ri 116 rfl rfl
noncomputable def F_Mod_share_b90 (l0 : Nat) (l1 : Int32) (l2 : Int32) (l4 : Int32) (h : LH) : Option (Int32 × LH) :=
 jf_bi (F_Mod_has l2 l1 h) fun v1 h2 =>
 if v1 = 0 then
 F_Mod_share_b116  (0 : Int32) h2
else
 jf_gr h2 l0 11 35 fun v3 =>
 jf_ia h2 v3 ((108 : Int32) + l1) fun v4 =>
 jf_bi (F_Mod_less l4 v4 h2) fun v5 h6 =>
 F_Mod_share_b116  v5 h6
set_option maxRecDepth 100000 in
theorem F_Mod_share_b90_ok {d : Nat} {q : (Int32 × LH)} (hd : 2 ≤ d) {l0 : Nat} {l1 : Int32} {l2 : Int32} {l4 : Int32} {u3 : Value} {h : LH} : F_Mod_share_b90 l0 l1 l2 l4 h = some q → JR d jM_264 90 [.ref l0, .int l1, .int l2, u3, .int l4] [] h (jo_i q) := by
 unfold F_Mod_share_b90
 exact jr_iloadn 90 91 rfl rfl rfl
  (jr_iloadn 91 92 rfl rfl rfl
  (jr_cSi 92 95 [] rfl rfl rfl rfl rfl rfl rfl (as := [.int l2, .int l1]) (F_Mod_has_ok (Nat.le_trans (by decide : 1 ≤ 2) hd)) (fun v1 h2 =>
  jr_if_eq 95 115 98 rfl rfl rfl
  (jr_iconst 115 116 (0 : Int32) rfl jc_i_0 rfl
  ((F_Mod_share_b116_ok hd )))
  (jr_iload 98 100 rfl rfl rfl
  (jr_aloadn 100 101 rfl rfl rfl
  (jr_gr 101 104 rfl jg_11_85_2 rfl (fun v3 =>
  jr_bipush 104 106 (108 : Int32) rfl jc_b_108 rfl
  (jr_iloadn 106 107 rfl rfl rfl
  (jr_iadd 107 108 rfl rfl
  (jr_ia 108 109 rfl rfl (fun v4 =>
  jr_cSi 109 112 [] rfl rfl rfl rfl rfl rfl rfl (as := [.int l4, .int v4]) (F_Mod_less_ok (Nat.le_trans (by decide : 1 ≤ 2) hd)) (fun v5 h6 =>
  jr_goto 112 116 rfl rfl
  ((F_Mod_share_b116_ok hd ))))))))))))))
noncomputable def F_Mod_share_c64 (k64 : Nat → Int32 → Int32 → Int32 → Int32 → LH → Option (Int32 × LH)) (l0 : Nat) (l1 : Int32) (l2 : Int32) (l3 : Int32) (l4 : Int32) (h : LH) : Option (Int32 × LH) :=
 if l4 < (6 : Int32) then
 jf_kd h l0 11
 (jf_bi (F_Mod_claimsOf l0 l2 (l4 + (1 : Int32)) h) fun v1 h2 =>
 if l3 < v1 then
 F_Mod_share_b90  l0 l1 l2 l4 h2
else
 k64 l0 l1 l2 l3 (l4 + (1 : Int32)) h2)
else
 F_Mod_share_b90  l0 l1 l2 l4 h
set_option maxRecDepth 100000 in
theorem F_Mod_share_c64_ok {d : Nat} {q : (Int32 × LH)} {k64 : Nat → Int32 → Int32 → Int32 → Int32 → LH → Option (Int32 × LH)} (hd : 2 ≤ d) (hk64 : ∀ (l0 : Nat) (l1 : Int32) (l2 : Int32) (l3 : Int32) (l4 : Int32) (h : LH), k64 l0 l1 l2 l3 l4 h = some q → JR d jM_264 64 [.ref l0, .int l1, .int l2, .int l3, .int l4] [] h (jo_i q)) {l0 : Nat} {l1 : Int32} {l2 : Int32} {l3 : Int32} {l4 : Int32} {h : LH} : F_Mod_share_c64 k64 l0 l1 l2 l3 l4 h = some q → JR d jM_264 64 [.ref l0, .int l1, .int l2, .int l3, .int l4] [] h (jo_i q) := by
 unfold F_Mod_share_c64
 exact jr_iload 64 66 rfl rfl rfl
  (jr_bipush 66 68 (6 : Int32) rfl jc_b_6 rfl
  (jr_icmp_ge 68 90 71 rfl rfl rfl
  ((F_Mod_share_b90_ok hd ))
  (jr_aloadn 71 72 rfl rfl rfl
  (jr_iloadn 72 73 rfl rfl rfl
  (jr_iload 73 75 rfl rfl rfl
  (jr_iconst 75 76 (1 : Int32) rfl jc_i_1 rfl
  (jr_iadd 76 77 rfl rfl
  (jr_cVi 77 80 [] rfl rfl rfl rfl rfl rfl rfl rfl (as := [.int l2, .int (l4 + (1 : Int32))]) (F_Mod_claimsOf_ok (Nat.le_trans (by decide : 2 ≤ 2) hd)) (fun v1 h2 =>
  jr_iloadn 80 81 rfl rfl rfl
  (jr_icmp_gt 81 90 84 rfl rfl rfl
  ((F_Mod_share_b90_ok hd ))
  (jr_iinc 84 87 [.ref l0, .int l1, .int l2, .int l3, .int (l4 + (1 : Int32))] rfl jc_i_1 rfl rfl rfl rfl
  (jr_goto 87 64 rfl rfl
  ((hk64 _ _ _ _ _ _))))))))))))))
noncomputable def F_Mod_share_l64 : Nat → Nat → Int32 → Int32 → Int32 → Int32 → LH → Option (Int32 × LH)
 | 0, _, _, _, _, _, _ => none
 | n + 1, l0, l1, l2, l3, l4, h => F_Mod_share_c64 (F_Mod_share_l64 n) l0 l1 l2 l3 l4 h
theorem F_Mod_share_l64_ok {d : Nat} {q : (Int32 × LH)} (hd : 2 ≤ d) : ∀ (n : Nat) (l0 : Nat) (l1 : Int32) (l2 : Int32) (l3 : Int32) (l4 : Int32) (h : LH), F_Mod_share_l64 n l0 l1 l2 l3 l4 h = some q → JR d jM_264 64 [.ref l0, .int l1, .int l2, .int l3, .int l4] [] h (jo_i q)
 | 0 => fun _ _ _ _ _ _ hq => nomatch (show (none : Option (Int32 × LH)) = some q from hq)
 | n + 1 => fun _ _ _ _ _ _ hq => F_Mod_share_c64_ok hd (F_Mod_share_l64_ok hd n) hq
noncomputable def F_Mod_share_b51 (l0 : Nat) (l1 : Int32) (l2 : Int32) (l3 : Int32) (s0 : Nat) (s1 : Int32) (h : LH) : Option (Int32 × LH) :=
 jf_kd h s0 11
 (jf_bi (F_Mod_bad s0 s1 (2 : Int32) (1 : Int32) h) fun v1 h2 =>
 if v1 = 0 then
 F_Mod_share_l64  jF l0 l1 l2 l3 (0 : Int32) h2
else
 F_Mod_share_b59  h2)
set_option maxRecDepth 100000 in
theorem F_Mod_share_b51_ok {d : Nat} {q : (Int32 × LH)} (hd : 2 ≤ d) {l0 : Nat} {l1 : Int32} {l2 : Int32} {l3 : Int32} {s0 : Nat} {s1 : Int32} {u4 : Value} {h : LH} : F_Mod_share_b51 l0 l1 l2 l3 s0 s1 h = some q → JR d jM_264 51 [.ref l0, .int l1, .int l2, .int l3, u4] [.int s1, .ref s0] h (jo_i q) := by
 unfold F_Mod_share_b51
 exact jr_iconst 51 52 (2 : Int32) rfl jc_i_2 rfl
  (jr_iconst 52 53 (1 : Int32) rfl jc_i_1 rfl
  (jr_cVi 53 56 [] rfl rfl rfl rfl rfl rfl rfl rfl (as := [.int s1, .int (2 : Int32), .int (1 : Int32)]) (F_Mod_bad_ok (Nat.le_trans (by decide : 1 ≤ 2) hd)) (fun v1 h2 =>
  jr_if_eq 56 61 59 rfl rfl rfl
  (jr_iconst 61 62 (0 : Int32) rfl jc_i_0 rfl
  (jr_istore 62 64 [.ref l0, .int l1, .int l2, .int l3, .int (0 : Int32)] rfl rfl rfl rfl
  ((F_Mod_share_l64_ok hd  jF _ _ _ _ _ _))))
  ((F_Mod_share_b59_ok hd )))))
noncomputable def F_Mod_share_b46 (l0 : Nat) (l1 : Int32) (l2 : Int32) (l3 : Int32) (s0 : Nat) (h : LH) : Option (Int32 × LH) :=
 F_Mod_share_b51  l0 l1 l2 l3 s0 (1 : Int32) h
set_option maxRecDepth 100000 in
theorem F_Mod_share_b46_ok {d : Nat} {q : (Int32 × LH)} (hd : 2 ≤ d) {l0 : Nat} {l1 : Int32} {l2 : Int32} {l3 : Int32} {s0 : Nat} {u4 : Value} {h : LH} : F_Mod_share_b46 l0 l1 l2 l3 s0 h = some q → JR d jM_264 46 [.ref l0, .int l1, .int l2, .int l3, u4] [.ref s0] h (jo_i q) := by
 unfold F_Mod_share_b46
 exact jr_iconst 46 47 (1 : Int32) rfl jc_i_1 rfl
  (jr_goto 47 51 rfl rfl
  ((F_Mod_share_b51_ok hd )))
noncomputable def F_Mod_share_b19 (l0 : Nat) (l1 : Int32) (l2 : Int32) (l3 : Int32) (s0 : Nat) (s1 : Int32) (h : LH) : Option (Int32 × LH) :=
 jf_kd h s0 11
 (jf_bi (F_Mod_bad s0 s1 (1 : Int32) (0 : Int32) h) fun v1 h2 =>
 if v1 = 0 then
 jf_kd h2 l0 11
 (jf_bi (F_Mod_areGates l0 l2 h2) fun v3 h4 =>
 if v3 = 0 then
 F_Mod_share_b46  l0 l1 l2 l3 l0 h4
else
 jf_bi (F_Mod_in l3 (0 : Int32) (99 : Int32) h4) fun v5 h6 =>
 if v5 = 0 then
 F_Mod_share_b46  l0 l1 l2 l3 l0 h6
else
 F_Mod_share_b51  l0 l1 l2 l3 l0 (0 : Int32) h6)
else
 F_Mod_share_b59  h2)
set_option maxRecDepth 100000 in
theorem F_Mod_share_b19_ok {d : Nat} {q : (Int32 × LH)} (hd : 2 ≤ d) {l0 : Nat} {l1 : Int32} {l2 : Int32} {l3 : Int32} {s0 : Nat} {s1 : Int32} {u4 : Value} {h : LH} : F_Mod_share_b19 l0 l1 l2 l3 s0 s1 h = some q → JR d jM_264 19 [.ref l0, .int l1, .int l2, .int l3, u4] [.int s1, .ref s0] h (jo_i q) := by
 unfold F_Mod_share_b19
 exact jr_iconst 19 20 (1 : Int32) rfl jc_i_1 rfl
  (jr_iconst 20 21 (0 : Int32) rfl jc_i_0 rfl
  (jr_cVi 21 24 [] rfl rfl rfl rfl rfl rfl rfl rfl (as := [.int s1, .int (1 : Int32), .int (0 : Int32)]) (F_Mod_bad_ok (Nat.le_trans (by decide : 1 ≤ 2) hd)) (fun v1 h2 =>
  jr_if_ne 24 59 27 rfl rfl rfl
  ((F_Mod_share_b59_ok hd ))
  (jr_aloadn 27 28 rfl rfl rfl
  (jr_aloadn 28 29 rfl rfl rfl
  (jr_iloadn 29 30 rfl rfl rfl
  (jr_cVi 30 33 [.ref l0] rfl rfl rfl rfl rfl rfl rfl rfl (as := [.int l2]) (F_Mod_areGates_ok (Nat.le_trans (by decide : 2 ≤ 2) hd)) (fun v3 h4 =>
  jr_if_eq 33 46 36 rfl rfl rfl
  ((F_Mod_share_b46_ok hd ))
  (jr_iloadn 36 37 rfl rfl rfl
  (jr_iconst 37 38 (0 : Int32) rfl jc_i_0 rfl
  (jr_bipush 38 40 (99 : Int32) rfl jc_b_99 rfl
  (jr_cSi 40 43 [.ref l0] rfl rfl rfl rfl rfl rfl rfl (as := [.int l3, .int (0 : Int32), .int (99 : Int32)]) (F_Mod_in_ok (Nat.le_trans (by decide : 1 ≤ 2) hd)) (fun v5 h6 =>
  jr_if_ne 43 50 46 rfl rfl rfl
  (jr_iconst 50 51 (0 : Int32) rfl jc_i_0 rfl
  ((F_Mod_share_b51_ok hd )))
  ((F_Mod_share_b46_ok hd )))))))))))))))
noncomputable def F_Mod_share (l0 : Nat) (l1 : Int32) (l2 : Int32) (l3 : Int32) (h : LH) : Option (Int32 × LH) :=
 jf_pi h l0 11 0 (0 : Int32) fun h1 =>
 jf_kd h1 l0 11
 (jf_bi (F_Mod_isGate l0 l1 h1) fun v2 h3 =>
 if v2 = 0 then
 F_Mod_share_b19  l0 l1 l2 l3 l0 (1 : Int32) h3
else
 F_Mod_share_b19  l0 l1 l2 l3 l0 (0 : Int32) h3)
set_option maxRecDepth 100000 in
theorem F_Mod_share_ok {d : Nat} (hd : 3 ≤ d) {l0 : Nat} {l1 : Int32} {l2 : Int32} {l3 : Int32} {h : LH} {q : (Int32 × LH)} : F_Mod_share l0 l1 l2 l3 h = some q → jl_Sem jt_T jt_Ms d 264 [.ref l0, .int l1, .int l2, .int l3] h (jo_i q) := by
 unfold F_Mod_share
 exact jr_enter (D := 2) hd jM_264_at rfl rfl rfl (fun d hd =>
  jr_aloadn 0 1 rfl rfl rfl
  (jr_iconst 1 2 (0 : Int32) rfl jc_i_0 rfl
  (jr_pi 2 5 rfl jg_11_109_3 rfl (fun h1 =>
  jr_aloadn 5 6 rfl rfl rfl
  (jr_aloadn 6 7 rfl rfl rfl
  (jr_iloadn 7 8 rfl rfl rfl
  (jr_cVi 8 11 [.ref l0] rfl rfl rfl rfl rfl rfl rfl rfl (as := [.int l1]) (F_Mod_isGate_ok (Nat.le_trans (by decide : 2 ≤ 2) hd)) (fun v2 h3 =>
  jr_if_ne 11 18 14 rfl rfl rfl
  (jr_iconst 18 19 (0 : Int32) rfl jc_i_0 rfl
  ((F_Mod_share_b19_ok hd )))
  (jr_iconst 14 15 (1 : Int32) rfl jc_i_1 rfl
  (jr_goto 15 19 rfl rfl
  ((F_Mod_share_b19_ok hd ))))))))))))
noncomputable def jM_266 : JMeth := (11, false, 1, jk_266, [], 7)
set_option maxRecDepth 100000 in
theorem jM_266_at : jt_Ms 266 = some jM_266 := rfl
noncomputable def F_Mod_crowd_b144 (s0 : Int32) (h : LH) : Option (Int32 × LH) :=
 some (s0, h)
set_option maxRecDepth 100000 in
theorem F_Mod_crowd_b144_ok {d : Nat} {q : (Int32 × LH)} (hd : 3 ≤ d) {s0 : Int32} {u0 : Value} {u1 : Value} {u2 : Value} {u3 : Value} {u4 : Value} {u5 : Value} {u6 : Value} {h : LH} : F_Mod_crowd_b144 s0 h = some q → JR d jM_266 144 [u0, u1, u2, u3, u4, u5, u6] [.int s0] h (jo_i q) := by
 unfold F_Mod_crowd_b144
 exact jr_ri 144 rfl rfl
noncomputable def F_Mod_crowd_b139 (l2 : Int32) (h : LH) : Option (Int32 × LH) :=
 F_Mod_crowd_b144  l2 h
set_option maxRecDepth 100000 in
theorem F_Mod_crowd_b139_ok {d : Nat} {q : (Int32 × LH)} (hd : 3 ≤ d) {l2 : Int32} {u0 : Value} {u1 : Value} {u3 : Value} {u4 : Value} {u5 : Value} {u6 : Value} {h : LH} : F_Mod_crowd_b139 l2 h = some q → JR d jM_266 139 [u0, u1, .int l2, u3, u4, u5, u6] [] h (jo_i q) := by
 unfold F_Mod_crowd_b139
 exact jr_iloadn 139 140 rfl rfl rfl
  (jr_goto 140 144 rfl rfl
  ((F_Mod_crowd_b144_ok hd )))
noncomputable def F_Mod_crowd_b124 (k37 : Nat → Int32 → Int32 → Int32 → Int32 → LH → Option (Int32 × LH)) (l0 : Nat) (l1 : Int32) (l2 : Int32) (l3 : Int32) (l4 : Int32) (h : LH) : Option (Int32 × LH) :=
 k37 l0 l1 l2 l3 (l4 + (1 : Int32)) h
set_option maxRecDepth 100000 in
theorem F_Mod_crowd_b124_ok {d : Nat} {q : (Int32 × LH)} {k37 : Nat → Int32 → Int32 → Int32 → Int32 → LH → Option (Int32 × LH)} (hd : 3 ≤ d) (hk37 : ∀ (l0 : Nat) (l1 : Int32) (l2 : Int32) (l3 : Int32) (l4 : Int32) (u5 : Value) (u6 : Value) (h : LH), k37 l0 l1 l2 l3 l4 h = some q → JR d jM_266 37 [.ref l0, .int l1, .int l2, .int l3, .int l4, u5, u6] [] h (jo_i q)) {l0 : Nat} {l1 : Int32} {l2 : Int32} {l3 : Int32} {l4 : Int32} {u5 : Value} {u6 : Value} {h : LH} : F_Mod_crowd_b124 k37 l0 l1 l2 l3 l4 h = some q → JR d jM_266 124 [.ref l0, .int l1, .int l2, .int l3, .int l4, u5, u6] [] h (jo_i q) := by
 unfold F_Mod_crowd_b124
 exact jr_iinc 124 127 [.ref l0, .int l1, .int l2, .int l3, .int (l4 + (1 : Int32)), u5, u6] rfl jc_i_1 rfl rfl rfl rfl
  (jr_goto 127 37 rfl rfl
  ((hk37 _ _ _ _ _ _ _ _)))
noncomputable def F_Mod_crowd_b100 (k37 : Nat → Int32 → Int32 → Int32 → Int32 → LH → Option (Int32 × LH)) (k54 : Nat → Int32 → Int32 → Int32 → Int32 → Int32 → Int32 → LH → Option (Int32 × LH)) (l0 : Nat) (l1 : Int32) (l2 : Int32) (l3 : Int32) (l4 : Int32) (l6 : Int32) (s0 : Int32) (s1 : Int32) (h : LH) : Option (Int32 × LH) :=
 jf_let (s0 + s1) fun v1 =>
 k54 l0 l1 l2 l3 l4 v1 (l6 + (1 : Int32)) h
set_option maxRecDepth 100000 in
theorem F_Mod_crowd_b100_ok {d : Nat} {q : (Int32 × LH)} {k37 : Nat → Int32 → Int32 → Int32 → Int32 → LH → Option (Int32 × LH)} {k54 : Nat → Int32 → Int32 → Int32 → Int32 → Int32 → Int32 → LH → Option (Int32 × LH)} (hd : 3 ≤ d) (hk37 : ∀ (l0 : Nat) (l1 : Int32) (l2 : Int32) (l3 : Int32) (l4 : Int32) (u5 : Value) (u6 : Value) (h : LH), k37 l0 l1 l2 l3 l4 h = some q → JR d jM_266 37 [.ref l0, .int l1, .int l2, .int l3, .int l4, u5, u6] [] h (jo_i q)) (hk54 : ∀ (l0 : Nat) (l1 : Int32) (l2 : Int32) (l3 : Int32) (l4 : Int32) (l5 : Int32) (l6 : Int32) (h : LH), k54 l0 l1 l2 l3 l4 l5 l6 h = some q → JR d jM_266 54 [.ref l0, .int l1, .int l2, .int l3, .int l4, .int l5, .int l6] [] h (jo_i q)) {l0 : Nat} {l1 : Int32} {l2 : Int32} {l3 : Int32} {l4 : Int32} {l6 : Int32} {s0 : Int32} {s1 : Int32} {u5 : Value} {h : LH} : F_Mod_crowd_b100 k37 k54 l0 l1 l2 l3 l4 l6 s0 s1 h = some q → JR d jM_266 100 [.ref l0, .int l1, .int l2, .int l3, .int l4, u5, .int l6] [.int s1, .int s0] h (jo_i q) := by
 unfold F_Mod_crowd_b100
 exact jr_iadd 100 101 rfl rfl
  (jr_istoreL 101 103 (fun v1 => [.ref l0, .int l1, .int l2, .int l3, .int l4, .int v1, .int l6]) rfl rfl (fun _ => rfl) rfl (fun v1 =>
  jr_iinc 103 106 [.ref l0, .int l1, .int l2, .int l3, .int l4, .int v1, .int (l6 + (1 : Int32))] rfl jc_i_1 rfl rfl rfl rfl
  (jr_goto 106 54 rfl rfl
  ((hk54 _ _ _ _ _ _ _ _)))))
noncomputable def F_Mod_crowd_b99 (k37 : Nat → Int32 → Int32 → Int32 → Int32 → LH → Option (Int32 × LH)) (k54 : Nat → Int32 → Int32 → Int32 → Int32 → Int32 → Int32 → LH → Option (Int32 × LH)) (l0 : Nat) (l1 : Int32) (l2 : Int32) (l3 : Int32) (l4 : Int32) (l6 : Int32) (s0 : Int32) (h : LH) : Option (Int32 × LH) :=
 F_Mod_crowd_b100 k37 k54 l0 l1 l2 l3 l4 l6 s0 (0 : Int32) h
set_option maxRecDepth 100000 in
theorem F_Mod_crowd_b99_ok {d : Nat} {q : (Int32 × LH)} {k37 : Nat → Int32 → Int32 → Int32 → Int32 → LH → Option (Int32 × LH)} {k54 : Nat → Int32 → Int32 → Int32 → Int32 → Int32 → Int32 → LH → Option (Int32 × LH)} (hd : 3 ≤ d) (hk37 : ∀ (l0 : Nat) (l1 : Int32) (l2 : Int32) (l3 : Int32) (l4 : Int32) (u5 : Value) (u6 : Value) (h : LH), k37 l0 l1 l2 l3 l4 h = some q → JR d jM_266 37 [.ref l0, .int l1, .int l2, .int l3, .int l4, u5, u6] [] h (jo_i q)) (hk54 : ∀ (l0 : Nat) (l1 : Int32) (l2 : Int32) (l3 : Int32) (l4 : Int32) (l5 : Int32) (l6 : Int32) (h : LH), k54 l0 l1 l2 l3 l4 l5 l6 h = some q → JR d jM_266 54 [.ref l0, .int l1, .int l2, .int l3, .int l4, .int l5, .int l6] [] h (jo_i q)) {l0 : Nat} {l1 : Int32} {l2 : Int32} {l3 : Int32} {l4 : Int32} {l6 : Int32} {s0 : Int32} {u5 : Value} {h : LH} : F_Mod_crowd_b99 k37 k54 l0 l1 l2 l3 l4 l6 s0 h = some q → JR d jM_266 99 [.ref l0, .int l1, .int l2, .int l3, .int l4, u5, .int l6] [.int s0] h (jo_i q) := by
 unfold F_Mod_crowd_b99
 exact jr_iconst 99 100 (0 : Int32) rfl jc_i_0 rfl
  ((F_Mod_crowd_b100_ok hd hk37 hk54))
noncomputable def F_Mod_crowd_c54 (k37 : Nat → Int32 → Int32 → Int32 → Int32 → LH → Option (Int32 × LH)) (k54 : Nat → Int32 → Int32 → Int32 → Int32 → Int32 → Int32 → LH → Option (Int32 × LH)) (l0 : Nat) (l1 : Int32) (l2 : Int32) (l3 : Int32) (l4 : Int32) (l5 : Int32) (l6 : Int32) (h : LH) : Option (Int32 × LH) :=
 jf_gr h l0 11 12 fun v1 =>
 jf_ia h v1 (0 : Int32) fun v2 =>
 if l6 < v2 then
 jf_gr h l0 11 35 fun v3 =>
 jf_ia h v3 ((108 : Int32) + l6) fun v4 =>
 if 0 < v4 then
 jf_gr h l0 11 35 fun v5 =>
 jf_kd h l0 11
 (jf_bi (F_Mod_standsOf l0 v5 l6 h) fun v6 h7 =>
 if v6 = l4 then
 F_Mod_crowd_b100 k37 k54 l0 l1 l2 l3 l4 l6 l5 (1 : Int32) h7
else
 F_Mod_crowd_b99 k37 k54 l0 l1 l2 l3 l4 l6 l5 h7)
else
 F_Mod_crowd_b99 k37 k54 l0 l1 l2 l3 l4 l6 l5 h
else
 if l3 < l5 then
 F_Mod_crowd_b124 k37 l0 l1 l4 l5 l4 h
else
 F_Mod_crowd_b124 k37 l0 l1 l2 l3 l4 h
set_option maxRecDepth 100000 in
theorem F_Mod_crowd_c54_ok {d : Nat} {q : (Int32 × LH)} {k37 : Nat → Int32 → Int32 → Int32 → Int32 → LH → Option (Int32 × LH)} {k54 : Nat → Int32 → Int32 → Int32 → Int32 → Int32 → Int32 → LH → Option (Int32 × LH)} (hd : 3 ≤ d) (hk37 : ∀ (l0 : Nat) (l1 : Int32) (l2 : Int32) (l3 : Int32) (l4 : Int32) (u5 : Value) (u6 : Value) (h : LH), k37 l0 l1 l2 l3 l4 h = some q → JR d jM_266 37 [.ref l0, .int l1, .int l2, .int l3, .int l4, u5, u6] [] h (jo_i q)) (hk54 : ∀ (l0 : Nat) (l1 : Int32) (l2 : Int32) (l3 : Int32) (l4 : Int32) (l5 : Int32) (l6 : Int32) (h : LH), k54 l0 l1 l2 l3 l4 l5 l6 h = some q → JR d jM_266 54 [.ref l0, .int l1, .int l2, .int l3, .int l4, .int l5, .int l6] [] h (jo_i q)) {l0 : Nat} {l1 : Int32} {l2 : Int32} {l3 : Int32} {l4 : Int32} {l5 : Int32} {l6 : Int32} {h : LH} : F_Mod_crowd_c54 k37 k54 l0 l1 l2 l3 l4 l5 l6 h = some q → JR d jM_266 54 [.ref l0, .int l1, .int l2, .int l3, .int l4, .int l5, .int l6] [] h (jo_i q) := by
 unfold F_Mod_crowd_c54
 exact jr_iload 54 56 rfl rfl rfl
  (jr_aloadn 56 57 rfl rfl rfl
  (jr_gr 57 60 rfl jg_11_23_2 rfl (fun v1 =>
  jr_iconst 60 61 (0 : Int32) rfl jc_i_0 rfl
  (jr_ia 61 62 rfl rfl (fun v2 =>
  jr_icmp_ge 62 109 65 rfl rfl rfl
  (jr_iload 109 111 rfl rfl rfl
  (jr_iloadn 111 112 rfl rfl rfl
  (jr_icmp_gt 112 118 115 rfl rfl rfl
  (jr_iload 118 120 rfl rfl rfl
  (jr_istoren 120 121 [.ref l0, .int l1, .int l4, .int l3, .int l4, .int l5, .int l6] rfl rfl rfl rfl
  (jr_iload 121 123 rfl rfl rfl
  (jr_istoren 123 124 [.ref l0, .int l1, .int l4, .int l5, .int l4, .int l5, .int l6] rfl rfl rfl rfl
  ((F_Mod_crowd_b124_ok hd hk37))))))
  (jr_goto 115 124 rfl rfl
  ((F_Mod_crowd_b124_ok hd hk37))))))
  (jr_iload 65 67 rfl rfl rfl
  (jr_aloadn 67 68 rfl rfl rfl
  (jr_gr 68 71 rfl jg_11_85_2 rfl (fun v3 =>
  jr_bipush 71 73 (108 : Int32) rfl jc_b_108 rfl
  (jr_iload 73 75 rfl rfl rfl
  (jr_iadd 75 76 rfl rfl
  (jr_ia 76 77 rfl rfl (fun v4 =>
  jr_if_le 77 99 80 rfl rfl rfl
  ((F_Mod_crowd_b99_ok hd hk37 hk54))
  (jr_aloadn 80 81 rfl rfl rfl
  (jr_aloadn 81 82 rfl rfl rfl
  (jr_gr 82 85 rfl jg_11_85_2 rfl (fun v5 =>
  jr_iload 85 87 rfl rfl rfl
  (jr_cVi 87 90 [.int l5] rfl rfl rfl rfl rfl rfl rfl rfl (as := [.ref v5, .int l6]) (F_Mod_standsOf_ok (Nat.le_trans (by decide : 3 ≤ 3) hd)) (fun v6 h7 =>
  jr_iload 90 92 rfl rfl rfl
  (jr_icmp_ne 92 99 95 rfl rfl rfl
  ((F_Mod_crowd_b99_ok hd hk37 hk54))
  (jr_iconst 95 96 (1 : Int32) rfl jc_i_1 rfl
  (jr_goto 96 100 rfl rfl
  ((F_Mod_crowd_b100_ok hd hk37 hk54))))))))))))))))))))))))
noncomputable def F_Mod_crowd_l54 (k37 : Nat → Int32 → Int32 → Int32 → Int32 → LH → Option (Int32 × LH)) : Nat → Nat → Int32 → Int32 → Int32 → Int32 → Int32 → Int32 → LH → Option (Int32 × LH)
 | 0, _, _, _, _, _, _, _, _ => none
 | n + 1, l0, l1, l2, l3, l4, l5, l6, h => F_Mod_crowd_c54 k37 (F_Mod_crowd_l54 k37 n) l0 l1 l2 l3 l4 l5 l6 h
theorem F_Mod_crowd_l54_ok {d : Nat} {q : (Int32 × LH)} {k37 : Nat → Int32 → Int32 → Int32 → Int32 → LH → Option (Int32 × LH)} (hd : 3 ≤ d) (hk37 : ∀ (l0 : Nat) (l1 : Int32) (l2 : Int32) (l3 : Int32) (l4 : Int32) (u5 : Value) (u6 : Value) (h : LH), k37 l0 l1 l2 l3 l4 h = some q → JR d jM_266 37 [.ref l0, .int l1, .int l2, .int l3, .int l4, u5, u6] [] h (jo_i q)) : ∀ (n : Nat) (l0 : Nat) (l1 : Int32) (l2 : Int32) (l3 : Int32) (l4 : Int32) (l5 : Int32) (l6 : Int32) (h : LH), F_Mod_crowd_l54 k37 n l0 l1 l2 l3 l4 l5 l6 h = some q → JR d jM_266 54 [.ref l0, .int l1, .int l2, .int l3, .int l4, .int l5, .int l6] [] h (jo_i q)
 | 0 => fun _ _ _ _ _ _ _ _ hq => nomatch (show (none : Option (Int32 × LH)) = some q from hq)
 | n + 1 => fun _ _ _ _ _ _ _ _ hq => F_Mod_crowd_c54_ok hd hk37 (F_Mod_crowd_l54_ok hd hk37 n) hq
noncomputable def F_Mod_crowd_c37 (k37 : Nat → Int32 → Int32 → Int32 → Int32 → LH → Option (Int32 × LH)) (l0 : Nat) (l1 : Int32) (l2 : Int32) (l3 : Int32) (l4 : Int32) (h : LH) : Option (Int32 × LH) :=
 jf_gr h l0 11 12 fun v1 =>
 jf_ia h v1 (0 : Int32) fun v2 =>
 if l4 < v2 then
 F_Mod_crowd_l54 k37 jF l0 l1 l2 l3 l4 (0 : Int32) (0 : Int32) h
else
 if l1 = 0 then
 F_Mod_crowd_b139  l2 h
else
 if l2 = (-1 : Int32) then
 F_Mod_crowd_b139  l2 h
else
 F_Mod_crowd_b144  l3 h
set_option maxRecDepth 100000 in
theorem F_Mod_crowd_c37_ok {d : Nat} {q : (Int32 × LH)} {k37 : Nat → Int32 → Int32 → Int32 → Int32 → LH → Option (Int32 × LH)} (hd : 3 ≤ d) (hk37 : ∀ (l0 : Nat) (l1 : Int32) (l2 : Int32) (l3 : Int32) (l4 : Int32) (u5 : Value) (u6 : Value) (h : LH), k37 l0 l1 l2 l3 l4 h = some q → JR d jM_266 37 [.ref l0, .int l1, .int l2, .int l3, .int l4, u5, u6] [] h (jo_i q)) {l0 : Nat} {l1 : Int32} {l2 : Int32} {l3 : Int32} {l4 : Int32} {u5 : Value} {u6 : Value} {h : LH} : F_Mod_crowd_c37 k37 l0 l1 l2 l3 l4 h = some q → JR d jM_266 37 [.ref l0, .int l1, .int l2, .int l3, .int l4, u5, u6] [] h (jo_i q) := by
 unfold F_Mod_crowd_c37
 exact jr_iload 37 39 rfl rfl rfl
  (jr_aloadn 39 40 rfl rfl rfl
  (jr_gr 40 43 rfl jg_11_23_2 rfl (fun v1 =>
  jr_iconst 43 44 (0 : Int32) rfl jc_i_0 rfl
  (jr_ia 44 45 rfl rfl (fun v2 =>
  jr_icmp_ge 45 130 48 rfl rfl rfl
  (jr_iloadn 130 131 rfl rfl rfl
  (jr_if_eq 131 139 134 rfl rfl rfl
  ((F_Mod_crowd_b139_ok hd ))
  (jr_iloadn 134 135 rfl rfl rfl
  (jr_iconst 135 136 (-1 : Int32) rfl jc_i_m1 rfl
  (jr_icmp_ne 136 143 139 rfl rfl rfl
  (jr_iloadn 143 144 rfl rfl rfl
  ((F_Mod_crowd_b144_ok hd )))
  ((F_Mod_crowd_b139_ok hd )))))))
  (jr_iconst 48 49 (0 : Int32) rfl jc_i_0 rfl
  (jr_istore 49 51 [.ref l0, .int l1, .int l2, .int l3, .int l4, .int (0 : Int32), u6] rfl rfl rfl rfl
  (jr_iconst 51 52 (0 : Int32) rfl jc_i_0 rfl
  (jr_istore 52 54 [.ref l0, .int l1, .int l2, .int l3, .int l4, .int (0 : Int32), .int (0 : Int32)] rfl rfl rfl rfl
  ((F_Mod_crowd_l54_ok hd hk37 jF _ _ _ _ _ _ _ _)))))))))))
noncomputable def F_Mod_crowd_l37 : Nat → Nat → Int32 → Int32 → Int32 → Int32 → LH → Option (Int32 × LH)
 | 0, _, _, _, _, _, _ => none
 | n + 1, l0, l1, l2, l3, l4, h => F_Mod_crowd_c37 (F_Mod_crowd_l37 n) l0 l1 l2 l3 l4 h
theorem F_Mod_crowd_l37_ok {d : Nat} {q : (Int32 × LH)} (hd : 3 ≤ d) : ∀ (n : Nat) (l0 : Nat) (l1 : Int32) (l2 : Int32) (l3 : Int32) (l4 : Int32) (u5 : Value) (u6 : Value) (h : LH), F_Mod_crowd_l37 n l0 l1 l2 l3 l4 h = some q → JR d jM_266 37 [.ref l0, .int l1, .int l2, .int l3, .int l4, u5, u6] [] h (jo_i q)
 | 0 => fun _ _ _ _ _ _ _ _ hq => nomatch (show (none : Option (Int32 × LH)) = some q from hq)
 | n + 1 => fun _ _ _ _ _ _ _ _ hq => F_Mod_crowd_c37_ok hd (F_Mod_crowd_l37_ok hd n) hq
noncomputable def F_Mod_crowd_b20 (l0 : Nat) (l1 : Int32) (s0 : Nat) (s1 : Int32) (h : LH) : Option (Int32 × LH) :=
 jf_kd h s0 11
 (jf_bi (F_Mod_bad s0 s1 (1 : Int32) (1 : Int32) h) fun v1 h2 =>
 if v1 = 0 then
 F_Mod_crowd_l37  jF l0 l1 (-1 : Int32) (0 : Int32) (0 : Int32) h2
else
 some ((0 : Int32), h2))
set_option maxRecDepth 100000 in
theorem F_Mod_crowd_b20_ok {d : Nat} {q : (Int32 × LH)} (hd : 3 ≤ d) {l0 : Nat} {l1 : Int32} {s0 : Nat} {s1 : Int32} {u2 : Value} {u3 : Value} {u4 : Value} {u5 : Value} {u6 : Value} {h : LH} : F_Mod_crowd_b20 l0 l1 s0 s1 h = some q → JR d jM_266 20 [.ref l0, .int l1, u2, u3, u4, u5, u6] [.int s1, .ref s0] h (jo_i q) := by
 unfold F_Mod_crowd_b20
 exact jr_iconst 20 21 (1 : Int32) rfl jc_i_1 rfl
  (jr_iconst 21 22 (1 : Int32) rfl jc_i_1 rfl
  (jr_cVi 22 25 [] rfl rfl rfl rfl rfl rfl rfl rfl (as := [.int s1, .int (1 : Int32), .int (1 : Int32)]) (F_Mod_bad_ok (Nat.le_trans (by decide : 1 ≤ 3) hd)) (fun v1 h2 =>
  jr_if_eq 25 30 28 rfl rfl rfl
  (jr_iconst 30 31 (-1 : Int32) rfl jc_i_m1 rfl
  (jr_istoren 31 32 [.ref l0, .int l1, .int (-1 : Int32), u3, u4, u5, u6] rfl rfl rfl rfl
  (jr_iconst 32 33 (0 : Int32) rfl jc_i_0 rfl
  (jr_istoren 33 34 [.ref l0, .int l1, .int (-1 : Int32), .int (0 : Int32), u4, u5, u6] rfl rfl rfl rfl
  (jr_iconst 34 35 (0 : Int32) rfl jc_i_0 rfl
  (jr_istore 35 37 [.ref l0, .int l1, .int (-1 : Int32), .int (0 : Int32), .int (0 : Int32), u5, u6] rfl rfl rfl rfl
  ((F_Mod_crowd_l37_ok hd  jF _ _ _ _ _ _ _ _))))))))
  (jr_iconst 28 29 (0 : Int32) rfl jc_i_0 rfl
  (jr_ri 29 rfl rfl)))))
noncomputable def F_Mod_crowd (l0 : Nat) (l1 : Int32) (h : LH) : Option (Int32 × LH) :=
 jf_pi h l0 11 0 (0 : Int32) fun h1 =>
 jf_bi (F_Mod_in l1 (0 : Int32) (1 : Int32) h1) fun v2 h3 =>
 if v2 = 0 then
 F_Mod_crowd_b20  l0 l1 l0 (1 : Int32) h3
else
 F_Mod_crowd_b20  l0 l1 l0 (0 : Int32) h3
set_option maxRecDepth 100000 in
theorem F_Mod_crowd_ok {d : Nat} (hd : 4 ≤ d) {l0 : Nat} {l1 : Int32} {h : LH} {q : (Int32 × LH)} : F_Mod_crowd l0 l1 h = some q → jl_Sem jt_T jt_Ms d 266 [.ref l0, .int l1] h (jo_i q) := by
 unfold F_Mod_crowd
 exact jr_enter (D := 3) hd jM_266_at rfl rfl rfl (fun d hd =>
  jr_aloadn 0 1 rfl rfl rfl
  (jr_iconst 1 2 (0 : Int32) rfl jc_i_0 rfl
  (jr_pi 2 5 rfl jg_11_109_3 rfl (fun h1 =>
  jr_aloadn 5 6 rfl rfl rfl
  (jr_iloadn 6 7 rfl rfl rfl
  (jr_iconst 7 8 (0 : Int32) rfl jc_i_0 rfl
  (jr_iconst 8 9 (1 : Int32) rfl jc_i_1 rfl
  (jr_cSi 9 12 [.ref l0] rfl rfl rfl rfl rfl rfl rfl (as := [.int l1, .int (0 : Int32), .int (1 : Int32)]) (F_Mod_in_ok (Nat.le_trans (by decide : 1 ≤ 3) hd)) (fun v2 h3 =>
  jr_if_ne 12 19 15 rfl rfl rfl
  (jr_iconst 19 20 (0 : Int32) rfl jc_i_0 rfl
  ((F_Mod_crowd_b20_ok hd )))
  (jr_iconst 15 16 (1 : Int32) rfl jc_i_1 rfl
  (jr_goto 16 20 rfl rfl
  ((F_Mod_crowd_b20_ok hd )))))))))))))
noncomputable def jM_267 : JMeth := (11, false, 1, jk_267, [], 4)
set_option maxRecDepth 100000 in
theorem jM_267_at : jt_Ms 267 = some jM_267 := rfl
noncomputable def F_Mod_turned_b103 (k60 : Nat → Int32 → Int32 → LH → Option (Int32 × LH)) (l0 : Nat) (l3 : Int32) (s0 : Int32) (s1 : Int32) (h : LH) : Option (Int32 × LH) :=
 jf_let (s0 ||| s1) fun v1 =>
 k60 l0 v1 (l3 + (1 : Int32)) h
set_option maxRecDepth 100000 in
theorem F_Mod_turned_b103_ok {d : Nat} {q : (Int32 × LH)} {k60 : Nat → Int32 → Int32 → LH → Option (Int32 × LH)} (hd : 8 ≤ d) (hk60 : ∀ (l0 : Nat) (l2 : Int32) (l3 : Int32) (u1 : Value) (h : LH), k60 l0 l2 l3 h = some q → JR d jM_267 60 [.ref l0, u1, .int l2, .int l3] [] h (jo_i q)) {l0 : Nat} {l3 : Int32} {s0 : Int32} {s1 : Int32} {u1 : Value} {u2 : Value} {h : LH} : F_Mod_turned_b103 k60 l0 l3 s0 s1 h = some q → JR d jM_267 103 [.ref l0, u1, u2, .int l3] [.int s1, .int s0] h (jo_i q) := by
 unfold F_Mod_turned_b103
 exact jr_ior 103 104 rfl rfl
  (jr_istorenL 104 105 (fun v1 => [.ref l0, u1, .int v1, .int l3]) rfl rfl (fun _ => rfl) rfl (fun v1 =>
  jr_iinc 105 108 [.ref l0, u1, .int v1, .int (l3 + (1 : Int32))] rfl jc_i_1 rfl rfl rfl rfl
  (jr_goto 108 60 rfl rfl
  ((hk60 _ _ _ _ _)))))
noncomputable def F_Mod_turned_b102 (k60 : Nat → Int32 → Int32 → LH → Option (Int32 × LH)) (l0 : Nat) (l3 : Int32) (s0 : Int32) (h : LH) : Option (Int32 × LH) :=
 F_Mod_turned_b103 k60 l0 l3 s0 (0 : Int32) h
set_option maxRecDepth 100000 in
theorem F_Mod_turned_b102_ok {d : Nat} {q : (Int32 × LH)} {k60 : Nat → Int32 → Int32 → LH → Option (Int32 × LH)} (hd : 8 ≤ d) (hk60 : ∀ (l0 : Nat) (l2 : Int32) (l3 : Int32) (u1 : Value) (h : LH), k60 l0 l2 l3 h = some q → JR d jM_267 60 [.ref l0, u1, .int l2, .int l3] [] h (jo_i q)) {l0 : Nat} {l3 : Int32} {s0 : Int32} {u1 : Value} {u2 : Value} {h : LH} : F_Mod_turned_b102 k60 l0 l3 s0 h = some q → JR d jM_267 102 [.ref l0, u1, u2, .int l3] [.int s0] h (jo_i q) := by
 unfold F_Mod_turned_b102
 exact jr_iconst 102 103 (0 : Int32) rfl jc_i_0 rfl
  ((F_Mod_turned_b103_ok hd hk60))
noncomputable def F_Mod_turned_c60 (k60 : Nat → Int32 → Int32 → LH → Option (Int32 × LH)) (l0 : Nat) (l2 : Int32) (l3 : Int32) (h : LH) : Option (Int32 × LH) :=
 jf_gr h l0 11 12 fun v1 =>
 jf_ia h v1 (2 : Int32) fun v2 =>
 if l3 < v2 then
 jf_gr h l0 11 36 fun v3 =>
 jf_ia h v3 ((123 : Int32) + l3) fun v4 =>
 if v4 = (2 : Int32) then
 jf_gr h l0 11 35 fun v5 =>
 jf_ia h v5 ((123 : Int32) + l3) fun v6 =>
 if v6 = 0 then
 F_Mod_turned_b103 k60 l0 l3 l2 ((1 : Int32) <<< (l3 &&& 31)) h
else
 F_Mod_turned_b102 k60 l0 l3 l2 h
else
 F_Mod_turned_b102 k60 l0 l3 l2 h
else
 some (l2, h)
set_option maxRecDepth 100000 in
theorem F_Mod_turned_c60_ok {d : Nat} {q : (Int32 × LH)} {k60 : Nat → Int32 → Int32 → LH → Option (Int32 × LH)} (hd : 8 ≤ d) (hk60 : ∀ (l0 : Nat) (l2 : Int32) (l3 : Int32) (u1 : Value) (h : LH), k60 l0 l2 l3 h = some q → JR d jM_267 60 [.ref l0, u1, .int l2, .int l3] [] h (jo_i q)) {l0 : Nat} {l2 : Int32} {l3 : Int32} {u1 : Value} {h : LH} : F_Mod_turned_c60 k60 l0 l2 l3 h = some q → JR d jM_267 60 [.ref l0, u1, .int l2, .int l3] [] h (jo_i q) := by
 unfold F_Mod_turned_c60
 exact jr_iloadn 60 61 rfl rfl rfl
  (jr_aloadn 61 62 rfl rfl rfl
  (jr_gr 62 65 rfl jg_11_23_2 rfl (fun v1 =>
  jr_iconst 65 66 (2 : Int32) rfl jc_i_2 rfl
  (jr_ia 66 67 rfl rfl (fun v2 =>
  jr_icmp_ge 67 111 70 rfl rfl rfl
  (jr_iloadn 111 112 rfl rfl rfl
  (jr_ri 112 rfl rfl))
  (jr_iloadn 70 71 rfl rfl rfl
  (jr_aloadn 71 72 rfl rfl rfl
  (jr_gr 72 75 rfl jg_11_88_2 rfl (fun v3 =>
  jr_bipush 75 77 (123 : Int32) rfl jc_b_123 rfl
  (jr_iloadn 77 78 rfl rfl rfl
  (jr_iadd 78 79 rfl rfl
  (jr_ia 79 80 rfl rfl (fun v4 =>
  jr_iconst 80 81 (2 : Int32) rfl jc_i_2 rfl
  (jr_icmp_ne 81 102 84 rfl rfl rfl
  ((F_Mod_turned_b102_ok hd hk60))
  (jr_aloadn 84 85 rfl rfl rfl
  (jr_gr 85 88 rfl jg_11_85_2 rfl (fun v5 =>
  jr_bipush 88 90 (123 : Int32) rfl jc_b_123 rfl
  (jr_iloadn 90 91 rfl rfl rfl
  (jr_iadd 91 92 rfl rfl
  (jr_ia 92 93 rfl rfl (fun v6 =>
  jr_if_ne 93 102 96 rfl rfl rfl
  ((F_Mod_turned_b102_ok hd hk60))
  (jr_iconst 96 97 (1 : Int32) rfl jc_i_1 rfl
  (jr_iloadn 97 98 rfl rfl rfl
  (jr_ishl 98 99 rfl rfl
  (jr_goto 99 103 rfl rfl
  ((F_Mod_turned_b103_ok hd hk60)))))))))))))))))))))))))))
noncomputable def F_Mod_turned_l60 : Nat → Nat → Int32 → Int32 → LH → Option (Int32 × LH)
 | 0, _, _, _, _ => none
 | n + 1, l0, l2, l3, h => F_Mod_turned_c60 (F_Mod_turned_l60 n) l0 l2 l3 h
theorem F_Mod_turned_l60_ok {d : Nat} {q : (Int32 × LH)} (hd : 8 ≤ d) : ∀ (n : Nat) (l0 : Nat) (l2 : Int32) (l3 : Int32) (u1 : Value) (h : LH), F_Mod_turned_l60 n l0 l2 l3 h = some q → JR d jM_267 60 [.ref l0, u1, .int l2, .int l3] [] h (jo_i q)
 | 0 => fun _ _ _ _ _ hq => nomatch (show (none : Option (Int32 × LH)) = some q from hq)
 | n + 1 => fun _ _ _ _ _ hq => F_Mod_turned_c60_ok hd (F_Mod_turned_l60_ok hd n) hq
noncomputable def F_Mod_turned_c39 (k39 : Nat → Int32 → Int32 → Int32 → LH → Option (Int32 × LH)) (l0 : Nat) (l1 : Int32) (l2 : Int32) (l3 : Int32) (h : LH) : Option (Int32 × LH) :=
 if l3 < l1 then
 jf_gr h l0 11 36 fun v1 =>
 jf_kd h l0 11
 ((F_Mod_hourEnds l0 v1 h).bind fun h2 =>
 k39 l0 l1 l2 (l3 + (1 : Int32)) h2)
else
 F_Mod_turned_l60  jF l0 l2 (0 : Int32) h
set_option maxRecDepth 100000 in
theorem F_Mod_turned_c39_ok {d : Nat} {q : (Int32 × LH)} {k39 : Nat → Int32 → Int32 → Int32 → LH → Option (Int32 × LH)} (hd : 8 ≤ d) (hk39 : ∀ (l0 : Nat) (l1 : Int32) (l2 : Int32) (l3 : Int32) (h : LH), k39 l0 l1 l2 l3 h = some q → JR d jM_267 39 [.ref l0, .int l1, .int l2, .int l3] [] h (jo_i q)) {l0 : Nat} {l1 : Int32} {l2 : Int32} {l3 : Int32} {h : LH} : F_Mod_turned_c39 k39 l0 l1 l2 l3 h = some q → JR d jM_267 39 [.ref l0, .int l1, .int l2, .int l3] [] h (jo_i q) := by
 unfold F_Mod_turned_c39
 exact jr_iloadn 39 40 rfl rfl rfl
  (jr_iloadn 40 41 rfl rfl rfl
  (jr_icmp_ge 41 58 44 rfl rfl rfl
  (jr_iconst 58 59 (0 : Int32) rfl jc_i_0 rfl
  (jr_istoren 59 60 [.ref l0, .int l1, .int l2, .int (0 : Int32)] rfl rfl rfl rfl
  ((F_Mod_turned_l60_ok hd  jF _ _ _ _ _))))
  (jr_aloadn 44 45 rfl rfl rfl
  (jr_aloadn 45 46 rfl rfl rfl
  (jr_gr 46 49 rfl jg_11_88_2 rfl (fun v1 =>
  jr_cVv 49 52 [] rfl rfl rfl rfl rfl rfl rfl rfl (as := [.ref v1]) (F_Mod_hourEnds_ok (Nat.le_trans (by decide : 8 ≤ 8) hd)) (fun h2 =>
  jr_iinc 52 55 [.ref l0, .int l1, .int l2, .int (l3 + (1 : Int32))] rfl jc_i_1 rfl rfl rfl rfl
  (jr_goto 55 39 rfl rfl
  ((hk39 _ _ _ _ _))))))))))
noncomputable def F_Mod_turned_l39 : Nat → Nat → Int32 → Int32 → Int32 → LH → Option (Int32 × LH)
 | 0, _, _, _, _, _ => none
 | n + 1, l0, l1, l2, l3, h => F_Mod_turned_c39 (F_Mod_turned_l39 n) l0 l1 l2 l3 h
theorem F_Mod_turned_l39_ok {d : Nat} {q : (Int32 × LH)} (hd : 8 ≤ d) : ∀ (n : Nat) (l0 : Nat) (l1 : Int32) (l2 : Int32) (l3 : Int32) (h : LH), F_Mod_turned_l39 n l0 l1 l2 l3 h = some q → JR d jM_267 39 [.ref l0, .int l1, .int l2, .int l3] [] h (jo_i q)
 | 0 => fun _ _ _ _ _ hq => nomatch (show (none : Option (Int32 × LH)) = some q from hq)
 | n + 1 => fun _ _ _ _ _ hq => F_Mod_turned_c39_ok hd (F_Mod_turned_l39_ok hd n) hq
noncomputable def F_Mod_turned_b21 (l0 : Nat) (l1 : Int32) (s0 : Nat) (s1 : Int32) (h : LH) : Option (Int32 × LH) :=
 jf_kd h s0 11
 (jf_bi (F_Mod_bad s0 s1 (1 : Int32) (1 : Int32) h) fun v1 h2 =>
 if v1 = 0 then
 jf_kd h2 l0 11
 ((F_Mod_tries l0 h2).bind fun h3 =>
 F_Mod_turned_l39  jF l0 l1 (0 : Int32) (0 : Int32) h3)
else
 some ((0 : Int32), h2))
set_option maxRecDepth 100000 in
theorem F_Mod_turned_b21_ok {d : Nat} {q : (Int32 × LH)} (hd : 8 ≤ d) {l0 : Nat} {l1 : Int32} {s0 : Nat} {s1 : Int32} {u2 : Value} {u3 : Value} {h : LH} : F_Mod_turned_b21 l0 l1 s0 s1 h = some q → JR d jM_267 21 [.ref l0, .int l1, u2, u3] [.int s1, .ref s0] h (jo_i q) := by
 unfold F_Mod_turned_b21
 exact jr_iconst 21 22 (1 : Int32) rfl jc_i_1 rfl
  (jr_iconst 22 23 (1 : Int32) rfl jc_i_1 rfl
  (jr_cVi 23 26 [] rfl rfl rfl rfl rfl rfl rfl rfl (as := [.int s1, .int (1 : Int32), .int (1 : Int32)]) (F_Mod_bad_ok (Nat.le_trans (by decide : 1 ≤ 8) hd)) (fun v1 h2 =>
  jr_if_eq 26 31 29 rfl rfl rfl
  (jr_iconst 31 32 (0 : Int32) rfl jc_i_0 rfl
  (jr_istoren 32 33 [.ref l0, .int l1, .int (0 : Int32), u3] rfl rfl rfl rfl
  (jr_aloadn 33 34 rfl rfl rfl
  (jr_cVv 34 37 [] rfl rfl rfl rfl rfl rfl rfl rfl (as := []) (F_Mod_tries_ok (Nat.le_trans (by decide : 2 ≤ 8) hd)) (fun h3 =>
  jr_iconst 37 38 (0 : Int32) rfl jc_i_0 rfl
  (jr_istoren 38 39 [.ref l0, .int l1, .int (0 : Int32), .int (0 : Int32)] rfl rfl rfl rfl
  ((F_Mod_turned_l39_ok hd  jF _ _ _ _ _))))))))
  (jr_iconst 29 30 (0 : Int32) rfl jc_i_0 rfl
  (jr_ri 30 rfl rfl)))))
noncomputable def F_Mod_turned (l0 : Nat) (l1 : Int32) (h : LH) : Option (Int32 × LH) :=
 jf_pi h l0 11 0 (0 : Int32) fun h1 =>
 jf_bi (F_Mod_in l1 (0 : Int32) (96 : Int32) h1) fun v2 h3 =>
 if v2 = 0 then
 F_Mod_turned_b21  l0 l1 l0 (1 : Int32) h3
else
 F_Mod_turned_b21  l0 l1 l0 (0 : Int32) h3
set_option maxRecDepth 100000 in
theorem F_Mod_turned_ok {d : Nat} (hd : 9 ≤ d) {l0 : Nat} {l1 : Int32} {h : LH} {q : (Int32 × LH)} : F_Mod_turned l0 l1 h = some q → jl_Sem jt_T jt_Ms d 267 [.ref l0, .int l1] h (jo_i q) := by
 unfold F_Mod_turned
 exact jr_enter (D := 8) hd jM_267_at rfl rfl rfl (fun d hd =>
  jr_aloadn 0 1 rfl rfl rfl
  (jr_iconst 1 2 (0 : Int32) rfl jc_i_0 rfl
  (jr_pi 2 5 rfl jg_11_109_3 rfl (fun h1 =>
  jr_aloadn 5 6 rfl rfl rfl
  (jr_iloadn 6 7 rfl rfl rfl
  (jr_iconst 7 8 (0 : Int32) rfl jc_i_0 rfl
  (jr_bipush 8 10 (96 : Int32) rfl jc_b_96 rfl
  (jr_cSi 10 13 [.ref l0] rfl rfl rfl rfl rfl rfl rfl (as := [.int l1, .int (0 : Int32), .int (96 : Int32)]) (F_Mod_in_ok (Nat.le_trans (by decide : 1 ≤ 8) hd)) (fun v2 h3 =>
  jr_if_ne 13 20 16 rfl rfl rfl
  (jr_iconst 20 21 (0 : Int32) rfl jc_i_0 rfl
  ((F_Mod_turned_b21_ok hd )))
  (jr_iconst 16 17 (1 : Int32) rfl jc_i_1 rfl
  (jr_goto 17 21 rfl rfl
  ((F_Mod_turned_b21_ok hd )))))))))))))
noncomputable def jM_268 : JMeth := (11, false, 1, jk_268, [], 6)
set_option maxRecDepth 100000 in
theorem jM_268_at : jt_Ms 268 = some jM_268 := rfl
noncomputable def F_Mod_thickest_b96 (s0 : Int32) (h : LH) : Option (Int32 × LH) :=
 some (s0, h)
set_option maxRecDepth 100000 in
theorem F_Mod_thickest_b96_ok {d : Nat} {q : (Int32 × LH)} (hd : 8 ≤ d) {s0 : Int32} {u0 : Value} {u1 : Value} {u2 : Value} {u3 : Value} {u4 : Value} {u5 : Value} {h : LH} : F_Mod_thickest_b96 s0 h = some q → JR d jM_268 96 [u0, u1, u2, u3, u4, u5] [.int s0] h (jo_i q) := by
 unfold F_Mod_thickest_b96
 exact jr_ri 96 rfl rfl
noncomputable def F_Mod_thickest_b73 (k41 : Nat → Int32 → Int32 → Int32 → Int32 → LH → Option (Int32 × LH)) (l0 : Nat) (l1 : Int32) (l2 : Int32) (l3 : Int32) (l4 : Int32) (h : LH) : Option (Int32 × LH) :=
 jf_gr h l0 11 36 fun v1 =>
 jf_kd h l0 11
 ((F_Mod_hourEnds l0 v1 h).bind fun h2 =>
 k41 l0 l1 l2 l3 (l4 + (1 : Int32)) h2)
set_option maxRecDepth 100000 in
theorem F_Mod_thickest_b73_ok {d : Nat} {q : (Int32 × LH)} {k41 : Nat → Int32 → Int32 → Int32 → Int32 → LH → Option (Int32 × LH)} (hd : 8 ≤ d) (hk41 : ∀ (l0 : Nat) (l1 : Int32) (l2 : Int32) (l3 : Int32) (l4 : Int32) (u5 : Value) (h : LH), k41 l0 l1 l2 l3 l4 h = some q → JR d jM_268 41 [.ref l0, .int l1, .int l2, .int l3, .int l4, u5] [] h (jo_i q)) {l0 : Nat} {l1 : Int32} {l2 : Int32} {l3 : Int32} {l4 : Int32} {u5 : Value} {h : LH} : F_Mod_thickest_b73 k41 l0 l1 l2 l3 l4 h = some q → JR d jM_268 73 [.ref l0, .int l1, .int l2, .int l3, .int l4, u5] [] h (jo_i q) := by
 unfold F_Mod_thickest_b73
 exact jr_aloadn 73 74 rfl rfl rfl
  (jr_aloadn 74 75 rfl rfl rfl
  (jr_gr 75 78 rfl jg_11_88_2 rfl (fun v1 =>
  jr_cVv 78 81 [] rfl rfl rfl rfl rfl rfl rfl rfl (as := [.ref v1]) (F_Mod_hourEnds_ok (Nat.le_trans (by decide : 8 ≤ 8) hd)) (fun h2 =>
  jr_iinc 81 84 [.ref l0, .int l1, .int l2, .int l3, .int (l4 + (1 : Int32)), u5] rfl jc_i_1 rfl rfl rfl rfl
  (jr_goto 84 41 rfl rfl
  ((hk41 _ _ _ _ _ _ _)))))))
noncomputable def F_Mod_thickest_c41 (k41 : Nat → Int32 → Int32 → Int32 → Int32 → LH → Option (Int32 × LH)) (l0 : Nat) (l1 : Int32) (l2 : Int32) (l3 : Int32) (l4 : Int32) (h : LH) : Option (Int32 × LH) :=
 if l4 < (48 : Int32) then
 jf_gr h l0 11 36 fun v1 =>
 jf_kd h l0 11
 (jf_bi (F_Mod_shutBits l0 v1 h) fun v2 h3 =>
 jf_bi (F_Mod_ones v2 h3) fun v4 h5 =>
 if l3 < v4 then
 F_Mod_thickest_b73 k41 l0 l1 l4 v4 l4 h5
else
 F_Mod_thickest_b73 k41 l0 l1 l2 l3 l4 h5)
else
 if l1 = 0 then
 F_Mod_thickest_b96  l2 h
else
 F_Mod_thickest_b96  l3 h
set_option maxRecDepth 100000 in
theorem F_Mod_thickest_c41_ok {d : Nat} {q : (Int32 × LH)} {k41 : Nat → Int32 → Int32 → Int32 → Int32 → LH → Option (Int32 × LH)} (hd : 8 ≤ d) (hk41 : ∀ (l0 : Nat) (l1 : Int32) (l2 : Int32) (l3 : Int32) (l4 : Int32) (u5 : Value) (h : LH), k41 l0 l1 l2 l3 l4 h = some q → JR d jM_268 41 [.ref l0, .int l1, .int l2, .int l3, .int l4, u5] [] h (jo_i q)) {l0 : Nat} {l1 : Int32} {l2 : Int32} {l3 : Int32} {l4 : Int32} {u5 : Value} {h : LH} : F_Mod_thickest_c41 k41 l0 l1 l2 l3 l4 h = some q → JR d jM_268 41 [.ref l0, .int l1, .int l2, .int l3, .int l4, u5] [] h (jo_i q) := by
 unfold F_Mod_thickest_c41
 exact jr_iload 41 43 rfl rfl rfl
  (jr_bipush 43 45 (48 : Int32) rfl jc_b_48 rfl
  (jr_icmp_ge 45 87 48 rfl rfl rfl
  (jr_iloadn 87 88 rfl rfl rfl
  (jr_if_ne 88 95 91 rfl rfl rfl
  (jr_iloadn 95 96 rfl rfl rfl
  ((F_Mod_thickest_b96_ok hd )))
  (jr_iloadn 91 92 rfl rfl rfl
  (jr_goto 92 96 rfl rfl
  ((F_Mod_thickest_b96_ok hd ))))))
  (jr_aloadn 48 49 rfl rfl rfl
  (jr_aloadn 49 50 rfl rfl rfl
  (jr_gr 50 53 rfl jg_11_88_2 rfl (fun v1 =>
  jr_cVi 53 56 [] rfl rfl rfl rfl rfl rfl rfl rfl (as := [.ref v1]) (F_Mod_shutBits_ok (Nat.le_trans (by decide : 7 ≤ 8) hd)) (fun v2 h3 =>
  jr_cSi 56 59 [] rfl rfl rfl rfl rfl rfl rfl (as := [.int v2]) (F_Mod_ones_ok (Nat.le_trans (by decide : 1 ≤ 8) hd)) (fun v4 h5 =>
  jr_istore 59 61 [.ref l0, .int l1, .int l2, .int l3, .int l4, .int v4] rfl rfl rfl rfl
  (jr_iload 61 63 rfl rfl rfl
  (jr_iloadn 63 64 rfl rfl rfl
  (jr_icmp_le 64 73 67 rfl rfl rfl
  ((F_Mod_thickest_b73_ok hd hk41))
  (jr_iload 67 69 rfl rfl rfl
  (jr_istoren 69 70 [.ref l0, .int l1, .int l4, .int l3, .int l4, .int v4] rfl rfl rfl rfl
  (jr_iload 70 72 rfl rfl rfl
  (jr_istoren 72 73 [.ref l0, .int l1, .int l4, .int v4, .int l4, .int v4] rfl rfl rfl rfl
  ((F_Mod_thickest_b73_ok hd hk41)))))))))))))))))
noncomputable def F_Mod_thickest_l41 : Nat → Nat → Int32 → Int32 → Int32 → Int32 → LH → Option (Int32 × LH)
 | 0, _, _, _, _, _, _ => none
 | n + 1, l0, l1, l2, l3, l4, h => F_Mod_thickest_c41 (F_Mod_thickest_l41 n) l0 l1 l2 l3 l4 h
theorem F_Mod_thickest_l41_ok {d : Nat} {q : (Int32 × LH)} (hd : 8 ≤ d) : ∀ (n : Nat) (l0 : Nat) (l1 : Int32) (l2 : Int32) (l3 : Int32) (l4 : Int32) (u5 : Value) (h : LH), F_Mod_thickest_l41 n l0 l1 l2 l3 l4 h = some q → JR d jM_268 41 [.ref l0, .int l1, .int l2, .int l3, .int l4, u5] [] h (jo_i q)
 | 0 => fun _ _ _ _ _ _ _ hq => nomatch (show (none : Option (Int32 × LH)) = some q from hq)
 | n + 1 => fun _ _ _ _ _ _ _ hq => F_Mod_thickest_c41_ok hd (F_Mod_thickest_l41_ok hd n) hq
noncomputable def F_Mod_thickest_b20 (l0 : Nat) (l1 : Int32) (s0 : Nat) (s1 : Int32) (h : LH) : Option (Int32 × LH) :=
 jf_kd h s0 11
 (jf_bi (F_Mod_bad s0 s1 (1 : Int32) (1 : Int32) h) fun v1 h2 =>
 if v1 = 0 then
 jf_kd h2 l0 11
 ((F_Mod_tries l0 h2).bind fun h3 =>
 F_Mod_thickest_l41  jF l0 l1 (0 : Int32) (-1 : Int32) (0 : Int32) h3)
else
 some ((0 : Int32), h2))
set_option maxRecDepth 100000 in
theorem F_Mod_thickest_b20_ok {d : Nat} {q : (Int32 × LH)} (hd : 8 ≤ d) {l0 : Nat} {l1 : Int32} {s0 : Nat} {s1 : Int32} {u2 : Value} {u3 : Value} {u4 : Value} {u5 : Value} {h : LH} : F_Mod_thickest_b20 l0 l1 s0 s1 h = some q → JR d jM_268 20 [.ref l0, .int l1, u2, u3, u4, u5] [.int s1, .ref s0] h (jo_i q) := by
 unfold F_Mod_thickest_b20
 exact jr_iconst 20 21 (1 : Int32) rfl jc_i_1 rfl
  (jr_iconst 21 22 (1 : Int32) rfl jc_i_1 rfl
  (jr_cVi 22 25 [] rfl rfl rfl rfl rfl rfl rfl rfl (as := [.int s1, .int (1 : Int32), .int (1 : Int32)]) (F_Mod_bad_ok (Nat.le_trans (by decide : 1 ≤ 8) hd)) (fun v1 h2 =>
  jr_if_eq 25 30 28 rfl rfl rfl
  (jr_iconst 30 31 (0 : Int32) rfl jc_i_0 rfl
  (jr_istoren 31 32 [.ref l0, .int l1, .int (0 : Int32), u3, u4, u5] rfl rfl rfl rfl
  (jr_iconst 32 33 (-1 : Int32) rfl jc_i_m1 rfl
  (jr_istoren 33 34 [.ref l0, .int l1, .int (0 : Int32), .int (-1 : Int32), u4, u5] rfl rfl rfl rfl
  (jr_aloadn 34 35 rfl rfl rfl
  (jr_cVv 35 38 [] rfl rfl rfl rfl rfl rfl rfl rfl (as := []) (F_Mod_tries_ok (Nat.le_trans (by decide : 2 ≤ 8) hd)) (fun h3 =>
  jr_iconst 38 39 (0 : Int32) rfl jc_i_0 rfl
  (jr_istore 39 41 [.ref l0, .int l1, .int (0 : Int32), .int (-1 : Int32), .int (0 : Int32), u5] rfl rfl rfl rfl
  ((F_Mod_thickest_l41_ok hd  jF _ _ _ _ _ _ _))))))))))
  (jr_iconst 28 29 (0 : Int32) rfl jc_i_0 rfl
  (jr_ri 29 rfl rfl)))))
noncomputable def F_Mod_thickest (l0 : Nat) (l1 : Int32) (h : LH) : Option (Int32 × LH) :=
 jf_pi h l0 11 0 (0 : Int32) fun h1 =>
 jf_bi (F_Mod_in l1 (0 : Int32) (1 : Int32) h1) fun v2 h3 =>
 if v2 = 0 then
 F_Mod_thickest_b20  l0 l1 l0 (1 : Int32) h3
else
 F_Mod_thickest_b20  l0 l1 l0 (0 : Int32) h3
set_option maxRecDepth 100000 in
theorem F_Mod_thickest_ok {d : Nat} (hd : 9 ≤ d) {l0 : Nat} {l1 : Int32} {h : LH} {q : (Int32 × LH)} : F_Mod_thickest l0 l1 h = some q → jl_Sem jt_T jt_Ms d 268 [.ref l0, .int l1] h (jo_i q) := by
 unfold F_Mod_thickest
 exact jr_enter (D := 8) hd jM_268_at rfl rfl rfl (fun d hd =>
  jr_aloadn 0 1 rfl rfl rfl
  (jr_iconst 1 2 (0 : Int32) rfl jc_i_0 rfl
  (jr_pi 2 5 rfl jg_11_109_3 rfl (fun h1 =>
  jr_aloadn 5 6 rfl rfl rfl
  (jr_iloadn 6 7 rfl rfl rfl
  (jr_iconst 7 8 (0 : Int32) rfl jc_i_0 rfl
  (jr_iconst 8 9 (1 : Int32) rfl jc_i_1 rfl
  (jr_cSi 9 12 [.ref l0] rfl rfl rfl rfl rfl rfl rfl (as := [.int l1, .int (0 : Int32), .int (1 : Int32)]) (F_Mod_in_ok (Nat.le_trans (by decide : 1 ≤ 8) hd)) (fun v2 h3 =>
  jr_if_ne 12 19 15 rfl rfl rfl
  (jr_iconst 19 20 (0 : Int32) rfl jc_i_0 rfl
  ((F_Mod_thickest_b20_ok hd )))
  (jr_iconst 15 16 (1 : Int32) rfl jc_i_1 rfl
  (jr_goto 16 20 rfl rfl
  ((F_Mod_thickest_b20_ok hd )))))))))))))
noncomputable def jM_269 : JMeth := (11, false, 1, jk_269, [], 4)
set_option maxRecDepth 100000 in
theorem jM_269_at : jt_Ms 269 = some jM_269 := rfl
noncomputable def F_Mod_burnsOut_c21 (k9 : Nat → Int32 → Int32 → LH → Option (Int32 × LH)) (k21 : Nat → Int32 → Int32 → Int32 → LH → Option (Int32 × LH)) (l0 : Nat) (l1 : Int32) (l2 : Int32) (l3 : Int32) (h : LH) : Option (Int32 × LH) :=
 jf_gr h l0 11 35 fun v1 =>
 jf_ia h v1 ((108 : Int32) + l2) fun v2 =>
 if l3 < v2 then
 jf_gr h l0 11 35 fun v3 =>
 jf_ia h v3 (((54 : Int32) + ((6 : Int32) * l2)) + l3) fun v4 =>
 jf_bi (F_Mod_more l1 v4 h) fun v5 h6 =>
 k21 l0 v5 l2 (l3 + (1 : Int32)) h6
else
 k9 l0 l1 (l2 + (1 : Int32)) h
set_option maxRecDepth 100000 in
theorem F_Mod_burnsOut_c21_ok {d : Nat} {q : (Int32 × LH)} {k9 : Nat → Int32 → Int32 → LH → Option (Int32 × LH)} {k21 : Nat → Int32 → Int32 → Int32 → LH → Option (Int32 × LH)} (hd : 1 ≤ d) (hk9 : ∀ (l0 : Nat) (l1 : Int32) (l2 : Int32) (u3 : Value) (h : LH), k9 l0 l1 l2 h = some q → JR d jM_269 9 [.ref l0, .int l1, .int l2, u3] [] h (jo_i q)) (hk21 : ∀ (l0 : Nat) (l1 : Int32) (l2 : Int32) (l3 : Int32) (h : LH), k21 l0 l1 l2 l3 h = some q → JR d jM_269 21 [.ref l0, .int l1, .int l2, .int l3] [] h (jo_i q)) {l0 : Nat} {l1 : Int32} {l2 : Int32} {l3 : Int32} {h : LH} : F_Mod_burnsOut_c21 k9 k21 l0 l1 l2 l3 h = some q → JR d jM_269 21 [.ref l0, .int l1, .int l2, .int l3] [] h (jo_i q) := by
 unfold F_Mod_burnsOut_c21
 exact jr_iloadn 21 22 rfl rfl rfl
  (jr_aloadn 22 23 rfl rfl rfl
  (jr_gr 23 26 rfl jg_11_85_2 rfl (fun v1 =>
  jr_bipush 26 28 (108 : Int32) rfl jc_b_108 rfl
  (jr_iloadn 28 29 rfl rfl rfl
  (jr_iadd 29 30 rfl rfl
  (jr_ia 30 31 rfl rfl (fun v2 =>
  jr_icmp_ge 31 59 34 rfl rfl rfl
  (jr_iinc 59 62 [.ref l0, .int l1, .int (l2 + (1 : Int32)), .int l3] rfl jc_i_1 rfl rfl rfl rfl
  (jr_goto 62 9 rfl rfl
  ((hk9 _ _ _ _ _))))
  (jr_iloadn 34 35 rfl rfl rfl
  (jr_aloadn 35 36 rfl rfl rfl
  (jr_gr 36 39 rfl jg_11_85_2 rfl (fun v3 =>
  jr_bipush 39 41 (54 : Int32) rfl jc_b_54 rfl
  (jr_bipush 41 43 (6 : Int32) rfl jc_b_6 rfl
  (jr_iloadn 43 44 rfl rfl rfl
  (jr_imul 44 45 rfl rfl
  (jr_iadd 45 46 rfl rfl
  (jr_iloadn 46 47 rfl rfl rfl
  (jr_iadd 47 48 rfl rfl
  (jr_ia 48 49 rfl rfl (fun v4 =>
  jr_cSi 49 52 [] rfl rfl rfl rfl rfl rfl rfl (as := [.int l1, .int v4]) (F_Mod_more_ok (Nat.le_trans (by decide : 1 ≤ 1) hd)) (fun v5 h6 =>
  jr_istoren 52 53 [.ref l0, .int v5, .int l2, .int l3] rfl rfl rfl rfl
  (jr_iinc 53 56 [.ref l0, .int v5, .int l2, .int (l3 + (1 : Int32))] rfl jc_i_1 rfl rfl rfl rfl
  (jr_goto 56 21 rfl rfl
  ((hk21 _ _ _ _ _))))))))))))))))))))))))
noncomputable def F_Mod_burnsOut_l21 (k9 : Nat → Int32 → Int32 → LH → Option (Int32 × LH)) : Nat → Nat → Int32 → Int32 → Int32 → LH → Option (Int32 × LH)
 | 0, _, _, _, _, _ => none
 | n + 1, l0, l1, l2, l3, h => F_Mod_burnsOut_c21 k9 (F_Mod_burnsOut_l21 k9 n) l0 l1 l2 l3 h
theorem F_Mod_burnsOut_l21_ok {d : Nat} {q : (Int32 × LH)} {k9 : Nat → Int32 → Int32 → LH → Option (Int32 × LH)} (hd : 1 ≤ d) (hk9 : ∀ (l0 : Nat) (l1 : Int32) (l2 : Int32) (u3 : Value) (h : LH), k9 l0 l1 l2 h = some q → JR d jM_269 9 [.ref l0, .int l1, .int l2, u3] [] h (jo_i q)) : ∀ (n : Nat) (l0 : Nat) (l1 : Int32) (l2 : Int32) (l3 : Int32) (h : LH), F_Mod_burnsOut_l21 k9 n l0 l1 l2 l3 h = some q → JR d jM_269 21 [.ref l0, .int l1, .int l2, .int l3] [] h (jo_i q)
 | 0 => fun _ _ _ _ _ hq => nomatch (show (none : Option (Int32 × LH)) = some q from hq)
 | n + 1 => fun _ _ _ _ _ hq => F_Mod_burnsOut_c21_ok hd hk9 (F_Mod_burnsOut_l21_ok hd hk9 n) hq
noncomputable def F_Mod_burnsOut_c9 (k9 : Nat → Int32 → Int32 → LH → Option (Int32 × LH)) (l0 : Nat) (l1 : Int32) (l2 : Int32) (h : LH) : Option (Int32 × LH) :=
 jf_gr h l0 11 12 fun v1 =>
 jf_ia h v1 (0 : Int32) fun v2 =>
 if l2 < v2 then
 F_Mod_burnsOut_l21 k9 jF l0 l1 l2 (0 : Int32) h
else
 some (l1, h)
set_option maxRecDepth 100000 in
theorem F_Mod_burnsOut_c9_ok {d : Nat} {q : (Int32 × LH)} {k9 : Nat → Int32 → Int32 → LH → Option (Int32 × LH)} (hd : 1 ≤ d) (hk9 : ∀ (l0 : Nat) (l1 : Int32) (l2 : Int32) (u3 : Value) (h : LH), k9 l0 l1 l2 h = some q → JR d jM_269 9 [.ref l0, .int l1, .int l2, u3] [] h (jo_i q)) {l0 : Nat} {l1 : Int32} {l2 : Int32} {u3 : Value} {h : LH} : F_Mod_burnsOut_c9 k9 l0 l1 l2 h = some q → JR d jM_269 9 [.ref l0, .int l1, .int l2, u3] [] h (jo_i q) := by
 unfold F_Mod_burnsOut_c9
 exact jr_iloadn 9 10 rfl rfl rfl
  (jr_aloadn 10 11 rfl rfl rfl
  (jr_gr 11 14 rfl jg_11_23_2 rfl (fun v1 =>
  jr_iconst 14 15 (0 : Int32) rfl jc_i_0 rfl
  (jr_ia 15 16 rfl rfl (fun v2 =>
  jr_icmp_ge 16 65 19 rfl rfl rfl
  (jr_iloadn 65 66 rfl rfl rfl
  (jr_ri 66 rfl rfl))
  (jr_iconst 19 20 (0 : Int32) rfl jc_i_0 rfl
  (jr_istoren 20 21 [.ref l0, .int l1, .int l2, .int (0 : Int32)] rfl rfl rfl rfl
  ((F_Mod_burnsOut_l21_ok hd hk9 jF _ _ _ _ _)))))))))
noncomputable def F_Mod_burnsOut_l9 : Nat → Nat → Int32 → Int32 → LH → Option (Int32 × LH)
 | 0, _, _, _, _ => none
 | n + 1, l0, l1, l2, h => F_Mod_burnsOut_c9 (F_Mod_burnsOut_l9 n) l0 l1 l2 h
theorem F_Mod_burnsOut_l9_ok {d : Nat} {q : (Int32 × LH)} (hd : 1 ≤ d) : ∀ (n : Nat) (l0 : Nat) (l1 : Int32) (l2 : Int32) (u3 : Value) (h : LH), F_Mod_burnsOut_l9 n l0 l1 l2 h = some q → JR d jM_269 9 [.ref l0, .int l1, .int l2, u3] [] h (jo_i q)
 | 0 => fun _ _ _ _ _ hq => nomatch (show (none : Option (Int32 × LH)) = some q from hq)
 | n + 1 => fun _ _ _ _ _ hq => F_Mod_burnsOut_c9_ok hd (F_Mod_burnsOut_l9_ok hd n) hq
noncomputable def F_Mod_burnsOut (l0 : Nat) (h : LH) : Option (Int32 × LH) :=
 jf_pi h l0 11 0 (0 : Int32) fun h1 =>
 F_Mod_burnsOut_l9  jF l0 (0 : Int32) (0 : Int32) h1
set_option maxRecDepth 100000 in
theorem F_Mod_burnsOut_ok {d : Nat} (hd : 2 ≤ d) {l0 : Nat} {h : LH} {q : (Int32 × LH)} : F_Mod_burnsOut l0 h = some q → jl_Sem jt_T jt_Ms d 269 [.ref l0] h (jo_i q) := by
 unfold F_Mod_burnsOut
 exact jr_enter (D := 1) hd jM_269_at rfl rfl rfl (fun d hd =>
  jr_aloadn 0 1 rfl rfl rfl
  (jr_iconst 1 2 (0 : Int32) rfl jc_i_0 rfl
  (jr_pi 2 5 rfl jg_11_109_3 rfl (fun h1 =>
  jr_iconst 5 6 (0 : Int32) rfl jc_i_0 rfl
  (jr_istoren 6 7 [.ref l0, .int (0 : Int32), .retAddr 0, .retAddr 0] rfl rfl rfl rfl
  (jr_iconst 7 8 (0 : Int32) rfl jc_i_0 rfl
  (jr_istoren 8 9 [.ref l0, .int (0 : Int32), .int (0 : Int32), .retAddr 0] rfl rfl rfl rfl
  ((F_Mod_burnsOut_l9_ok hd  jF _ _ _ _ _)))))))))
noncomputable def jM_271 : JMeth := (11, false, 1, jk_271, [], 5)
set_option maxRecDepth 100000 in
theorem jM_271_at : jt_Ms 271 = some jM_271 := rfl
noncomputable def F_Mod_cameIn_b33 (k5 : Nat → Nat → Int32 → Int32 → Int32 → LH → Option (Int32 × LH)) (l0 : Nat) (l1 : Nat) (l2 : Int32) (l4 : Int32) (s0 : Int32) (s1 : Int32) (h : LH) : Option (Int32 × LH) :=
 jf_let (s0 + s1) fun v1 =>
 k5 l0 l1 l2 v1 (l4 + (1 : Int32)) h
set_option maxRecDepth 100000 in
theorem F_Mod_cameIn_b33_ok {d : Nat} {q : (Int32 × LH)} {k5 : Nat → Nat → Int32 → Int32 → Int32 → LH → Option (Int32 × LH)} (hd : 0 ≤ d) (hk5 : ∀ (l0 : Nat) (l1 : Nat) (l2 : Int32) (l3 : Int32) (l4 : Int32) (h : LH), k5 l0 l1 l2 l3 l4 h = some q → JR d jM_271 5 [.ref l0, .ref l1, .int l2, .int l3, .int l4] [] h (jo_i q)) {l0 : Nat} {l1 : Nat} {l2 : Int32} {l4 : Int32} {s0 : Int32} {s1 : Int32} {u3 : Value} {h : LH} : F_Mod_cameIn_b33 k5 l0 l1 l2 l4 s0 s1 h = some q → JR d jM_271 33 [.ref l0, .ref l1, .int l2, u3, .int l4] [.int s1, .int s0] h (jo_i q) := by
 unfold F_Mod_cameIn_b33
 exact jr_iadd 33 34 rfl rfl
  (jr_istorenL 34 35 (fun v1 => [.ref l0, .ref l1, .int l2, .int v1, .int l4]) rfl rfl (fun _ => rfl) rfl (fun v1 =>
  jr_iinc 35 38 [.ref l0, .ref l1, .int l2, .int v1, .int (l4 + (1 : Int32))] rfl jc_i_1 rfl rfl rfl rfl
  (jr_goto 38 5 rfl rfl
  ((hk5 _ _ _ _ _ _)))))
noncomputable def F_Mod_cameIn_c5 (k5 : Nat → Nat → Int32 → Int32 → Int32 → LH → Option (Int32 × LH)) (l0 : Nat) (l1 : Nat) (l2 : Int32) (l3 : Int32) (l4 : Int32) (h : LH) : Option (Int32 × LH) :=
 jf_gr h l0 11 12 fun v1 =>
 jf_ia h v1 (2 : Int32) fun v2 =>
 if l4 < v2 then
 jf_ia h l1 ((123 : Int32) + l4) fun v3 =>
 if v3 = l2 then
 F_Mod_cameIn_b33 k5 l0 l1 l2 l4 l3 (1 : Int32) h
else
 F_Mod_cameIn_b33 k5 l0 l1 l2 l4 l3 (0 : Int32) h
else
 some (l3, h)
set_option maxRecDepth 100000 in
theorem F_Mod_cameIn_c5_ok {d : Nat} {q : (Int32 × LH)} {k5 : Nat → Nat → Int32 → Int32 → Int32 → LH → Option (Int32 × LH)} (hd : 0 ≤ d) (hk5 : ∀ (l0 : Nat) (l1 : Nat) (l2 : Int32) (l3 : Int32) (l4 : Int32) (h : LH), k5 l0 l1 l2 l3 l4 h = some q → JR d jM_271 5 [.ref l0, .ref l1, .int l2, .int l3, .int l4] [] h (jo_i q)) {l0 : Nat} {l1 : Nat} {l2 : Int32} {l3 : Int32} {l4 : Int32} {h : LH} : F_Mod_cameIn_c5 k5 l0 l1 l2 l3 l4 h = some q → JR d jM_271 5 [.ref l0, .ref l1, .int l2, .int l3, .int l4] [] h (jo_i q) := by
 unfold F_Mod_cameIn_c5
 exact jr_iload 5 7 rfl rfl rfl
  (jr_aloadn 7 8 rfl rfl rfl
  (jr_gr 8 11 rfl jg_11_23_2 rfl (fun v1 =>
  jr_iconst 11 12 (2 : Int32) rfl jc_i_2 rfl
  (jr_ia 12 13 rfl rfl (fun v2 =>
  jr_icmp_ge 13 41 16 rfl rfl rfl
  (jr_iloadn 41 42 rfl rfl rfl
  (jr_ri 42 rfl rfl))
  (jr_iloadn 16 17 rfl rfl rfl
  (jr_aloadn 17 18 rfl rfl rfl
  (jr_bipush 18 20 (123 : Int32) rfl jc_b_123 rfl
  (jr_iload 20 22 rfl rfl rfl
  (jr_iadd 22 23 rfl rfl
  (jr_ia 23 24 rfl rfl (fun v3 =>
  jr_iloadn 24 25 rfl rfl rfl
  (jr_icmp_ne 25 32 28 rfl rfl rfl
  (jr_iconst 32 33 (0 : Int32) rfl jc_i_0 rfl
  ((F_Mod_cameIn_b33_ok hd hk5)))
  (jr_iconst 28 29 (1 : Int32) rfl jc_i_1 rfl
  (jr_goto 29 33 rfl rfl
  ((F_Mod_cameIn_b33_ok hd hk5)))))))))))))))))
noncomputable def F_Mod_cameIn_l5 : Nat → Nat → Nat → Int32 → Int32 → Int32 → LH → Option (Int32 × LH)
 | 0, _, _, _, _, _, _ => none
 | n + 1, l0, l1, l2, l3, l4, h => F_Mod_cameIn_c5 (F_Mod_cameIn_l5 n) l0 l1 l2 l3 l4 h
theorem F_Mod_cameIn_l5_ok {d : Nat} {q : (Int32 × LH)} (hd : 0 ≤ d) : ∀ (n : Nat) (l0 : Nat) (l1 : Nat) (l2 : Int32) (l3 : Int32) (l4 : Int32) (h : LH), F_Mod_cameIn_l5 n l0 l1 l2 l3 l4 h = some q → JR d jM_271 5 [.ref l0, .ref l1, .int l2, .int l3, .int l4] [] h (jo_i q)
 | 0 => fun _ _ _ _ _ _ hq => nomatch (show (none : Option (Int32 × LH)) = some q from hq)
 | n + 1 => fun _ _ _ _ _ _ hq => F_Mod_cameIn_c5_ok hd (F_Mod_cameIn_l5_ok hd n) hq
noncomputable def F_Mod_cameIn (l0 : Nat) (l1 : Nat) (l2 : Int32) (h : LH) : Option (Int32 × LH) :=
 F_Mod_cameIn_l5  jF l0 l1 l2 (0 : Int32) (0 : Int32) h
set_option maxRecDepth 100000 in
theorem F_Mod_cameIn_ok {d : Nat} (hd : 1 ≤ d) {l0 : Nat} {l1 : Nat} {l2 : Int32} {h : LH} {q : (Int32 × LH)} : F_Mod_cameIn l0 l1 l2 h = some q → jl_Sem jt_T jt_Ms d 271 [.ref l0, .ref l1, .int l2] h (jo_i q) := by
 unfold F_Mod_cameIn
 exact jr_enter (D := 0) hd jM_271_at rfl rfl rfl (fun d hd =>
  jr_iconst 0 1 (0 : Int32) rfl jc_i_0 rfl
  (jr_istoren 1 2 [.ref l0, .ref l1, .int l2, .int (0 : Int32), .retAddr 0] rfl rfl rfl rfl
  (jr_iconst 2 3 (0 : Int32) rfl jc_i_0 rfl
  (jr_istore 3 5 [.ref l0, .ref l1, .int l2, .int (0 : Int32), .int (0 : Int32)] rfl rfl rfl rfl
  ((F_Mod_cameIn_l5_ok hd  jF _ _ _ _ _ _))))))
noncomputable def jM_270 : JMeth := (11, false, 1, jk_270, [], 4)
set_option maxRecDepth 100000 in
theorem jM_270_at : jt_Ms 270 = some jM_270 := rfl
noncomputable def F_Mod_ahead_b92 (s0 : Int32) (h : LH) : Option (Int32 × LH) :=
 some (s0, h)
set_option maxRecDepth 100000 in
theorem F_Mod_ahead_b92_ok {d : Nat} {q : (Int32 × LH)} (hd : 8 ≤ d) {s0 : Int32} {u0 : Value} {u1 : Value} {u2 : Value} {u3 : Value} {h : LH} : F_Mod_ahead_b92 s0 h = some q → JR d jM_270 92 [u0, u1, u2, u3] [.int s0] h (jo_i q) := by
 unfold F_Mod_ahead_b92
 exact jr_ri 92 rfl rfl
noncomputable def F_Mod_ahead_c46 (k46 : Nat → Int32 → Int32 → Int32 → LH → Option (Int32 × LH)) (l0 : Nat) (l1 : Int32) (l2 : Int32) (l3 : Int32) (h : LH) : Option (Int32 × LH) :=
 if l3 < l1 then
 jf_gr h l0 11 36 fun v7 =>
 jf_kd h l0 11
 ((F_Mod_hourEnds l0 v7 h).bind fun h8 =>
 k46 l0 l1 l2 (l3 + (1 : Int32)) h8)
else
 if l2 = (2 : Int32) then
 jf_gr h l0 11 36 fun v4 =>
 jf_kd h l0 11
 (jf_bi (F_Mod_storedIn l0 v4 h) fun v5 h6 =>
 F_Mod_ahead_b92  v5 h6)
else
 jf_gr h l0 11 36 fun v1 =>
 jf_kd h l0 11
 (jf_bi (F_Mod_cameIn l0 v1 (l2 + (1 : Int32)) h) fun v2 h3 =>
 F_Mod_ahead_b92  v2 h3)
set_option maxRecDepth 100000 in
theorem F_Mod_ahead_c46_ok {d : Nat} {q : (Int32 × LH)} {k46 : Nat → Int32 → Int32 → Int32 → LH → Option (Int32 × LH)} (hd : 8 ≤ d) (hk46 : ∀ (l0 : Nat) (l1 : Int32) (l2 : Int32) (l3 : Int32) (h : LH), k46 l0 l1 l2 l3 h = some q → JR d jM_270 46 [.ref l0, .int l1, .int l2, .int l3] [] h (jo_i q)) {l0 : Nat} {l1 : Int32} {l2 : Int32} {l3 : Int32} {h : LH} : F_Mod_ahead_c46 k46 l0 l1 l2 l3 h = some q → JR d jM_270 46 [.ref l0, .int l1, .int l2, .int l3] [] h (jo_i q) := by
 unfold F_Mod_ahead_c46
 exact jr_iloadn 46 47 rfl rfl rfl
  (jr_iloadn 47 48 rfl rfl rfl
  (jr_icmp_ge 48 65 51 rfl rfl rfl
  (jr_iloadn 65 66 rfl rfl rfl
  (jr_iconst 66 67 (2 : Int32) rfl jc_i_2 rfl
  (jr_icmp_ne 67 81 70 rfl rfl rfl
  (jr_aloadn 81 82 rfl rfl rfl
  (jr_aloadn 82 83 rfl rfl rfl
  (jr_gr 83 86 rfl jg_11_88_2 rfl (fun v1 =>
  jr_iloadn 86 87 rfl rfl rfl
  (jr_iconst 87 88 (1 : Int32) rfl jc_i_1 rfl
  (jr_iadd 88 89 rfl rfl
  (jr_cVi 89 92 [] rfl rfl rfl rfl rfl rfl rfl rfl (as := [.ref v1, .int (l2 + (1 : Int32))]) (F_Mod_cameIn_ok (Nat.le_trans (by decide : 1 ≤ 8) hd)) (fun v2 h3 =>
  (F_Mod_ahead_b92_ok hd )))))))))
  (jr_aloadn 70 71 rfl rfl rfl
  (jr_aloadn 71 72 rfl rfl rfl
  (jr_gr 72 75 rfl jg_11_88_2 rfl (fun v4 =>
  jr_cVi 75 78 [] rfl rfl rfl rfl rfl rfl rfl rfl (as := [.ref v4]) (F_Mod_storedIn_ok (Nat.le_trans (by decide : 1 ≤ 8) hd)) (fun v5 h6 =>
  jr_goto 78 92 rfl rfl
  ((F_Mod_ahead_b92_ok hd ))))))))))
  (jr_aloadn 51 52 rfl rfl rfl
  (jr_aloadn 52 53 rfl rfl rfl
  (jr_gr 53 56 rfl jg_11_88_2 rfl (fun v7 =>
  jr_cVv 56 59 [] rfl rfl rfl rfl rfl rfl rfl rfl (as := [.ref v7]) (F_Mod_hourEnds_ok (Nat.le_trans (by decide : 8 ≤ 8) hd)) (fun h8 =>
  jr_iinc 59 62 [.ref l0, .int l1, .int l2, .int (l3 + (1 : Int32))] rfl jc_i_1 rfl rfl rfl rfl
  (jr_goto 62 46 rfl rfl
  ((hk46 _ _ _ _ _))))))))))
noncomputable def F_Mod_ahead_l46 : Nat → Nat → Int32 → Int32 → Int32 → LH → Option (Int32 × LH)
 | 0, _, _, _, _, _ => none
 | n + 1, l0, l1, l2, l3, h => F_Mod_ahead_c46 (F_Mod_ahead_l46 n) l0 l1 l2 l3 h
theorem F_Mod_ahead_l46_ok {d : Nat} {q : (Int32 × LH)} (hd : 8 ≤ d) : ∀ (n : Nat) (l0 : Nat) (l1 : Int32) (l2 : Int32) (l3 : Int32) (h : LH), F_Mod_ahead_l46 n l0 l1 l2 l3 h = some q → JR d jM_270 46 [.ref l0, .int l1, .int l2, .int l3] [] h (jo_i q)
 | 0 => fun _ _ _ _ _ hq => nomatch (show (none : Option (Int32 × LH)) = some q from hq)
 | n + 1 => fun _ _ _ _ _ hq => F_Mod_ahead_c46_ok hd (F_Mod_ahead_l46_ok hd n) hq
noncomputable def F_Mod_ahead_b30 (l0 : Nat) (l1 : Int32) (l2 : Int32) (s0 : Nat) (s1 : Int32) (h : LH) : Option (Int32 × LH) :=
 jf_kd h s0 11
 (jf_bi (F_Mod_bad s0 s1 (1 : Int32) (1 : Int32) h) fun v1 h2 =>
 if v1 = 0 then
 jf_kd h2 l0 11
 ((F_Mod_tries l0 h2).bind fun h3 =>
 F_Mod_ahead_l46  jF l0 l1 l2 (0 : Int32) h3)
else
 some ((0 : Int32), h2))
set_option maxRecDepth 100000 in
theorem F_Mod_ahead_b30_ok {d : Nat} {q : (Int32 × LH)} (hd : 8 ≤ d) {l0 : Nat} {l1 : Int32} {l2 : Int32} {s0 : Nat} {s1 : Int32} {u3 : Value} {h : LH} : F_Mod_ahead_b30 l0 l1 l2 s0 s1 h = some q → JR d jM_270 30 [.ref l0, .int l1, .int l2, u3] [.int s1, .ref s0] h (jo_i q) := by
 unfold F_Mod_ahead_b30
 exact jr_iconst 30 31 (1 : Int32) rfl jc_i_1 rfl
  (jr_iconst 31 32 (1 : Int32) rfl jc_i_1 rfl
  (jr_cVi 32 35 [] rfl rfl rfl rfl rfl rfl rfl rfl (as := [.int s1, .int (1 : Int32), .int (1 : Int32)]) (F_Mod_bad_ok (Nat.le_trans (by decide : 1 ≤ 8) hd)) (fun v1 h2 =>
  jr_if_eq 35 40 38 rfl rfl rfl
  (jr_aloadn 40 41 rfl rfl rfl
  (jr_cVv 41 44 [] rfl rfl rfl rfl rfl rfl rfl rfl (as := []) (F_Mod_tries_ok (Nat.le_trans (by decide : 2 ≤ 8) hd)) (fun h3 =>
  jr_iconst 44 45 (0 : Int32) rfl jc_i_0 rfl
  (jr_istoren 45 46 [.ref l0, .int l1, .int l2, .int (0 : Int32)] rfl rfl rfl rfl
  ((F_Mod_ahead_l46_ok hd  jF _ _ _ _ _))))))
  (jr_iconst 38 39 (0 : Int32) rfl jc_i_0 rfl
  (jr_ri 39 rfl rfl)))))
noncomputable def F_Mod_ahead_b25 (l0 : Nat) (l1 : Int32) (l2 : Int32) (s0 : Nat) (h : LH) : Option (Int32 × LH) :=
 F_Mod_ahead_b30  l0 l1 l2 s0 (1 : Int32) h
set_option maxRecDepth 100000 in
theorem F_Mod_ahead_b25_ok {d : Nat} {q : (Int32 × LH)} (hd : 8 ≤ d) {l0 : Nat} {l1 : Int32} {l2 : Int32} {s0 : Nat} {u3 : Value} {h : LH} : F_Mod_ahead_b25 l0 l1 l2 s0 h = some q → JR d jM_270 25 [.ref l0, .int l1, .int l2, u3] [.ref s0] h (jo_i q) := by
 unfold F_Mod_ahead_b25
 exact jr_iconst 25 26 (1 : Int32) rfl jc_i_1 rfl
  (jr_goto 26 30 rfl rfl
  ((F_Mod_ahead_b30_ok hd )))
noncomputable def F_Mod_ahead (l0 : Nat) (l1 : Int32) (l2 : Int32) (h : LH) : Option (Int32 × LH) :=
 jf_pi h l0 11 0 (0 : Int32) fun h1 =>
 jf_bi (F_Mod_in l1 (0 : Int32) (96 : Int32) h1) fun v2 h3 =>
 if v2 = 0 then
 F_Mod_ahead_b25  l0 l1 l2 l0 h3
else
 jf_bi (F_Mod_in l2 (0 : Int32) (2 : Int32) h3) fun v4 h5 =>
 if v4 = 0 then
 F_Mod_ahead_b25  l0 l1 l2 l0 h5
else
 F_Mod_ahead_b30  l0 l1 l2 l0 (0 : Int32) h5
set_option maxRecDepth 100000 in
theorem F_Mod_ahead_ok {d : Nat} (hd : 9 ≤ d) {l0 : Nat} {l1 : Int32} {l2 : Int32} {h : LH} {q : (Int32 × LH)} : F_Mod_ahead l0 l1 l2 h = some q → jl_Sem jt_T jt_Ms d 270 [.ref l0, .int l1, .int l2] h (jo_i q) := by
 unfold F_Mod_ahead
 exact jr_enter (D := 8) hd jM_270_at rfl rfl rfl (fun d hd =>
  jr_aloadn 0 1 rfl rfl rfl
  (jr_iconst 1 2 (0 : Int32) rfl jc_i_0 rfl
  (jr_pi 2 5 rfl jg_11_109_3 rfl (fun h1 =>
  jr_aloadn 5 6 rfl rfl rfl
  (jr_iloadn 6 7 rfl rfl rfl
  (jr_iconst 7 8 (0 : Int32) rfl jc_i_0 rfl
  (jr_bipush 8 10 (96 : Int32) rfl jc_b_96 rfl
  (jr_cSi 10 13 [.ref l0] rfl rfl rfl rfl rfl rfl rfl (as := [.int l1, .int (0 : Int32), .int (96 : Int32)]) (F_Mod_in_ok (Nat.le_trans (by decide : 1 ≤ 8) hd)) (fun v2 h3 =>
  jr_if_eq 13 25 16 rfl rfl rfl
  ((F_Mod_ahead_b25_ok hd ))
  (jr_iloadn 16 17 rfl rfl rfl
  (jr_iconst 17 18 (0 : Int32) rfl jc_i_0 rfl
  (jr_iconst 18 19 (2 : Int32) rfl jc_i_2 rfl
  (jr_cSi 19 22 [.ref l0] rfl rfl rfl rfl rfl rfl rfl (as := [.int l2, .int (0 : Int32), .int (2 : Int32)]) (F_Mod_in_ok (Nat.le_trans (by decide : 1 ≤ 8) hd)) (fun v4 h5 =>
  jr_if_ne 22 29 25 rfl rfl rfl
  (jr_iconst 29 30 (0 : Int32) rfl jc_i_0 rfl
  ((F_Mod_ahead_b30_ok hd )))
  ((F_Mod_ahead_b25_ok hd ))))))))))))))))
noncomputable def jM_273 : JMeth := (11, false, 2, jk_273, [], 2)
set_option maxRecDepth 100000 in
theorem jM_273_at : jt_Ms 273 = some jM_273 := rfl
noncomputable def F_Mod_areDays_b25 (s0 : Int32) (h : LH) : Option (Int32 × LH) :=
 jf_rz s0 (some (s0, h))
set_option maxRecDepth 100000 in
theorem F_Mod_areDays_b25_ok {d : Nat} {q : (Int32 × LH)} (hd : 1 ≤ d) {s0 : Int32} {u0 : Value} {u1 : Value} {h : LH} : F_Mod_areDays_b25 s0 h = some q → JR d jM_273 25 [u0, u1] [.int s0] h (jo_i q) := by
 unfold F_Mod_areDays_b25
 exact jr_rz 25 rfl rfl
noncomputable def F_Mod_areDays_b24 (h : LH) : Option (Int32 × LH) :=
 F_Mod_areDays_b25  (0 : Int32) h
set_option maxRecDepth 100000 in
theorem F_Mod_areDays_b24_ok {d : Nat} {q : (Int32 × LH)} (hd : 1 ≤ d) {u0 : Value} {u1 : Value} {h : LH} : F_Mod_areDays_b24 h = some q → JR d jM_273 24 [u0, u1] [] h (jo_i q) := by
 unfold F_Mod_areDays_b24
 exact jr_iconst 24 25 (0 : Int32) rfl jc_i_0 rfl
  ((F_Mod_areDays_b25_ok hd ))
noncomputable def F_Mod_areDays (l0 : Int32) (l1 : Int32) (h : LH) : Option (Int32 × LH) :=
 jf_bi (F_Mod_in l0 (0 : Int32) (16 : Int32) h) fun v1 h2 =>
 if v1 = 0 then
 F_Mod_areDays_b24  h2
else
 jf_bi (F_Mod_in l1 (1 : Int32) (96 : Int32) h2) fun v3 h4 =>
 if v3 = 0 then
 F_Mod_areDays_b24  h4
else
 F_Mod_areDays_b25  (1 : Int32) h4
set_option maxRecDepth 100000 in
theorem F_Mod_areDays_ok {d : Nat} (hd : 2 ≤ d) {l0 : Int32} {l1 : Int32} {h : LH} {q : (Int32 × LH)} : F_Mod_areDays l0 l1 h = some q → jl_Sem jt_T jt_Ms d 273 [.int l0, .int l1] h (jo_i q) := by
 unfold F_Mod_areDays
 exact jr_enter (D := 1) hd jM_273_at rfl rfl rfl (fun d hd =>
  jr_iloadn 0 1 rfl rfl rfl
  (jr_iconst 1 2 (0 : Int32) rfl jc_i_0 rfl
  (jr_bipush 2 4 (16 : Int32) rfl jc_b_16 rfl
  (jr_cSi 4 7 [] rfl rfl rfl rfl rfl rfl rfl (as := [.int l0, .int (0 : Int32), .int (16 : Int32)]) (F_Mod_in_ok (Nat.le_trans (by decide : 1 ≤ 1) hd)) (fun v1 h2 =>
  jr_if_eq 7 24 10 rfl rfl rfl
  ((F_Mod_areDays_b24_ok hd ))
  (jr_iloadn 10 11 rfl rfl rfl
  (jr_iconst 11 12 (1 : Int32) rfl jc_i_1 rfl
  (jr_bipush 12 14 (96 : Int32) rfl jc_b_96 rfl
  (jr_cSi 14 17 [] rfl rfl rfl rfl rfl rfl rfl (as := [.int l1, .int (1 : Int32), .int (96 : Int32)]) (F_Mod_in_ok (Nat.le_trans (by decide : 1 ≤ 1) hd)) (fun v3 h4 =>
  jr_if_eq 17 24 20 rfl rfl rfl
  ((F_Mod_areDays_b24_ok hd ))
  (jr_iconst 20 21 (1 : Int32) rfl jc_i_1 rfl
  (jr_goto 21 25 rfl rfl
  ((F_Mod_areDays_b25_ok hd ))))))))))))))
noncomputable def jM_275 : JMeth := (11, false, 1, jk_275, [], 4)
set_option maxRecDepth 100000 in
theorem jM_275_at : jt_Ms 275 = some jM_275 := rfl
noncomputable def F_Mod_fullest_b40 (k4 : Nat → Nat → Int32 → Int32 → LH → Option (Int32 × LH)) (l0 : Nat) (l1 : Nat) (l2 : Int32) (l3 : Int32) (h : LH) : Option (Int32 × LH) :=
 k4 l0 l1 l2 (l3 + (1 : Int32)) h
set_option maxRecDepth 100000 in
theorem F_Mod_fullest_b40_ok {d : Nat} {q : (Int32 × LH)} {k4 : Nat → Nat → Int32 → Int32 → LH → Option (Int32 × LH)} (hd : 0 ≤ d) (hk4 : ∀ (l0 : Nat) (l1 : Nat) (l2 : Int32) (l3 : Int32) (h : LH), k4 l0 l1 l2 l3 h = some q → JR d jM_275 4 [.ref l0, .ref l1, .int l2, .int l3] [] h (jo_i q)) {l0 : Nat} {l1 : Nat} {l2 : Int32} {l3 : Int32} {h : LH} : F_Mod_fullest_b40 k4 l0 l1 l2 l3 h = some q → JR d jM_275 40 [.ref l0, .ref l1, .int l2, .int l3] [] h (jo_i q) := by
 unfold F_Mod_fullest_b40
 exact jr_iinc 40 43 [.ref l0, .ref l1, .int l2, .int (l3 + (1 : Int32))] rfl jc_i_1 rfl rfl rfl rfl
  (jr_goto 43 4 rfl rfl
  ((hk4 _ _ _ _ _)))
noncomputable def F_Mod_fullest_b35 (k4 : Nat → Nat → Int32 → Int32 → LH → Option (Int32 × LH)) (l0 : Nat) (l1 : Nat) (l2 : Int32) (l3 : Int32) (s0 : Int32) (s1 : Int32) (h : LH) : Option (Int32 × LH) :=
 if s1 < s0 then
 F_Mod_fullest_b40 k4 l0 l1 l3 l3 h
else
 F_Mod_fullest_b40 k4 l0 l1 l2 l3 h
set_option maxRecDepth 100000 in
theorem F_Mod_fullest_b35_ok {d : Nat} {q : (Int32 × LH)} {k4 : Nat → Nat → Int32 → Int32 → LH → Option (Int32 × LH)} (hd : 0 ≤ d) (hk4 : ∀ (l0 : Nat) (l1 : Nat) (l2 : Int32) (l3 : Int32) (h : LH), k4 l0 l1 l2 l3 h = some q → JR d jM_275 4 [.ref l0, .ref l1, .int l2, .int l3] [] h (jo_i q)) {l0 : Nat} {l1 : Nat} {l2 : Int32} {l3 : Int32} {s0 : Int32} {s1 : Int32} {h : LH} : F_Mod_fullest_b35 k4 l0 l1 l2 l3 s0 s1 h = some q → JR d jM_275 35 [.ref l0, .ref l1, .int l2, .int l3] [.int s1, .int s0] h (jo_i q) := by
 unfold F_Mod_fullest_b35
 exact jr_icmp_le 35 40 38 rfl rfl rfl
  ((F_Mod_fullest_b40_ok hd hk4))
  (jr_iloadn 38 39 rfl rfl rfl
  (jr_istoren 39 40 [.ref l0, .ref l1, .int l3, .int l3] rfl rfl rfl rfl
  ((F_Mod_fullest_b40_ok hd hk4))))
noncomputable def F_Mod_fullest_c4 (k4 : Nat → Nat → Int32 → Int32 → LH → Option (Int32 × LH)) (l0 : Nat) (l1 : Nat) (l2 : Int32) (l3 : Int32) (h : LH) : Option (Int32 × LH) :=
 jf_gr h l0 11 12 fun v1 =>
 jf_ia h v1 (1 : Int32) fun v2 =>
 if l3 < v2 then
 jf_ia h l1 ((117 : Int32) + l3) fun v3 =>
 if l2 = (-1 : Int32) then
 F_Mod_fullest_b35 k4 l0 l1 l2 l3 v3 (0 : Int32) h
else
 jf_ia h l1 ((117 : Int32) + l2) fun v4 =>
 F_Mod_fullest_b35 k4 l0 l1 l2 l3 v3 v4 h
else
 some (l2, h)
set_option maxRecDepth 100000 in
theorem F_Mod_fullest_c4_ok {d : Nat} {q : (Int32 × LH)} {k4 : Nat → Nat → Int32 → Int32 → LH → Option (Int32 × LH)} (hd : 0 ≤ d) (hk4 : ∀ (l0 : Nat) (l1 : Nat) (l2 : Int32) (l3 : Int32) (h : LH), k4 l0 l1 l2 l3 h = some q → JR d jM_275 4 [.ref l0, .ref l1, .int l2, .int l3] [] h (jo_i q)) {l0 : Nat} {l1 : Nat} {l2 : Int32} {l3 : Int32} {h : LH} : F_Mod_fullest_c4 k4 l0 l1 l2 l3 h = some q → JR d jM_275 4 [.ref l0, .ref l1, .int l2, .int l3] [] h (jo_i q) := by
 unfold F_Mod_fullest_c4
 exact jr_iloadn 4 5 rfl rfl rfl
  (jr_aloadn 5 6 rfl rfl rfl
  (jr_gr 6 9 rfl jg_11_23_2 rfl (fun v1 =>
  jr_iconst 9 10 (1 : Int32) rfl jc_i_1 rfl
  (jr_ia 10 11 rfl rfl (fun v2 =>
  jr_icmp_ge 11 46 14 rfl rfl rfl
  (jr_iloadn 46 47 rfl rfl rfl
  (jr_ri 47 rfl rfl))
  (jr_aloadn 14 15 rfl rfl rfl
  (jr_bipush 15 17 (117 : Int32) rfl jc_b_117 rfl
  (jr_iloadn 17 18 rfl rfl rfl
  (jr_iadd 18 19 rfl rfl
  (jr_ia 19 20 rfl rfl (fun v3 =>
  jr_iloadn 20 21 rfl rfl rfl
  (jr_iconst 21 22 (-1 : Int32) rfl jc_i_m1 rfl
  (jr_icmp_ne 22 29 25 rfl rfl rfl
  (jr_aloadn 29 30 rfl rfl rfl
  (jr_bipush 30 32 (117 : Int32) rfl jc_b_117 rfl
  (jr_iloadn 32 33 rfl rfl rfl
  (jr_iadd 33 34 rfl rfl
  (jr_ia 34 35 rfl rfl (fun v4 =>
  (F_Mod_fullest_b35_ok hd hk4)))))))
  (jr_iconst 25 26 (0 : Int32) rfl jc_i_0 rfl
  (jr_goto 26 35 rfl rfl
  ((F_Mod_fullest_b35_ok hd hk4)))))))))))))))))
noncomputable def F_Mod_fullest_l4 : Nat → Nat → Nat → Int32 → Int32 → LH → Option (Int32 × LH)
 | 0, _, _, _, _, _ => none
 | n + 1, l0, l1, l2, l3, h => F_Mod_fullest_c4 (F_Mod_fullest_l4 n) l0 l1 l2 l3 h
theorem F_Mod_fullest_l4_ok {d : Nat} {q : (Int32 × LH)} (hd : 0 ≤ d) : ∀ (n : Nat) (l0 : Nat) (l1 : Nat) (l2 : Int32) (l3 : Int32) (h : LH), F_Mod_fullest_l4 n l0 l1 l2 l3 h = some q → JR d jM_275 4 [.ref l0, .ref l1, .int l2, .int l3] [] h (jo_i q)
 | 0 => fun _ _ _ _ _ hq => nomatch (show (none : Option (Int32 × LH)) = some q from hq)
 | n + 1 => fun _ _ _ _ _ hq => F_Mod_fullest_c4_ok hd (F_Mod_fullest_l4_ok hd n) hq
noncomputable def F_Mod_fullest (l0 : Nat) (l1 : Nat) (h : LH) : Option (Int32 × LH) :=
 F_Mod_fullest_l4  jF l0 l1 (-1 : Int32) (0 : Int32) h
set_option maxRecDepth 100000 in
theorem F_Mod_fullest_ok {d : Nat} (hd : 1 ≤ d) {l0 : Nat} {l1 : Nat} {h : LH} {q : (Int32 × LH)} : F_Mod_fullest l0 l1 h = some q → jl_Sem jt_T jt_Ms d 275 [.ref l0, .ref l1] h (jo_i q) := by
 unfold F_Mod_fullest
 exact jr_enter (D := 0) hd jM_275_at rfl rfl rfl (fun d hd =>
  jr_iconst 0 1 (-1 : Int32) rfl jc_i_m1 rfl
  (jr_istoren 1 2 [.ref l0, .ref l1, .int (-1 : Int32), .retAddr 0] rfl rfl rfl rfl
  (jr_iconst 2 3 (0 : Int32) rfl jc_i_0 rfl
  (jr_istoren 3 4 [.ref l0, .ref l1, .int (-1 : Int32), .int (0 : Int32)] rfl rfl rfl rfl
  ((F_Mod_fullest_l4_ok hd  jF _ _ _ _ _))))))
noncomputable def jM_274 : JMeth := (11, false, 0, jk_274, [], 7)
set_option maxRecDepth 100000 in
theorem jM_274_at : jt_Ms 274 = some jM_274 := rfl
noncomputable def F_Mod_daysBy_b165 (k22 : Nat → Int32 → Int32 → Int32 → LH → Option LH) (k99 : Nat → Int32 → Int32 → Int32 → Int32 → LH → Option LH) (l0 : Nat) (l2 : Int32) (l3 : Int32) (l4 : Int32) (l5 : Int32) (h : LH) : Option LH :=
 k99 l0 l2 l3 l4 (l5 + (1 : Int32)) h
set_option maxRecDepth 100000 in
theorem F_Mod_daysBy_b165_ok {d : Nat} {q : LH} {k22 : Nat → Int32 → Int32 → Int32 → LH → Option LH} {k99 : Nat → Int32 → Int32 → Int32 → Int32 → LH → Option LH} (hd : 8 ≤ d) (hk22 : ∀ (l0 : Nat) (l2 : Int32) (l3 : Int32) (l4 : Int32) (u1 : Value) (u5 : Value) (u6 : Value) (h : LH), k22 l0 l2 l3 l4 h = some q → JR d jM_274 22 [.ref l0, u1, .int l2, .int l3, .int l4, u5, u6] [] h (jo_v q)) (hk99 : ∀ (l0 : Nat) (l2 : Int32) (l3 : Int32) (l4 : Int32) (l5 : Int32) (u1 : Value) (u6 : Value) (h : LH), k99 l0 l2 l3 l4 l5 h = some q → JR d jM_274 99 [.ref l0, u1, .int l2, .int l3, .int l4, .int l5, u6] [] h (jo_v q)) {l0 : Nat} {l2 : Int32} {l3 : Int32} {l4 : Int32} {l5 : Int32} {u1 : Value} {u6 : Value} {h : LH} : F_Mod_daysBy_b165 k22 k99 l0 l2 l3 l4 l5 h = some q → JR d jM_274 165 [.ref l0, u1, .int l2, .int l3, .int l4, .int l5, u6] [] h (jo_v q) := by
 unfold F_Mod_daysBy_b165
 exact jr_iinc 165 168 [.ref l0, u1, .int l2, .int l3, .int l4, .int (l5 + (1 : Int32)), u6] rfl jc_i_1 rfl rfl rfl rfl
  (jr_goto 168 99 rfl rfl
  ((hk99 _ _ _ _ _ _ _ _)))
noncomputable def F_Mod_daysBy_c99 (k22 : Nat → Int32 → Int32 → Int32 → LH → Option LH) (k99 : Nat → Int32 → Int32 → Int32 → Int32 → LH → Option LH) (l0 : Nat) (l2 : Int32) (l3 : Int32) (l4 : Int32) (l5 : Int32) (h : LH) : Option LH :=
 jf_gr h l0 11 12 fun v1 =>
 jf_ia h v1 (0 : Int32) fun v2 =>
 if l5 < v2 then
 jf_gr h l0 11 36 fun v5 =>
 jf_kd h l0 11
 (jf_bi (F_Mod_fullest l0 v5 h) fun v6 h7 =>
 jf_gr h7 l0 11 36 fun v8 =>
 jf_ia h7 v8 ((108 : Int32) + l5) fun v9 =>
 if 0 < v9 then
 F_Mod_daysBy_b165 k22 k99 l0 l2 l3 l4 l5 h7
else
 if v6 = (-1 : Int32) then
 F_Mod_daysBy_b165 k22 k99 l0 l2 l3 l4 l5 h7
else
 jf_gr h7 l0 11 36 fun v10 =>
 jf_kd h7 l0 11
 (jf_bi (F_Mod_laysOn l0 v10 l5 v6 h7) fun v11 h12 =>
 jf_gi h12 l0 11 51 fun v13 =>
 jf_pi h12 l0 11 51 (v13 + (1 : Int32)) fun h14 =>
 F_Mod_daysBy_b165 k22 k99 l0 l2 l3 l4 l5 h14))
else
 jf_gr h l0 11 36 fun v3 =>
 jf_kd h l0 11
 ((F_Mod_hourEnds l0 v3 h).bind fun h4 =>
 k22 l0 l2 l3 (l4 + (1 : Int32)) h4)
set_option maxRecDepth 100000 in
theorem F_Mod_daysBy_c99_ok {d : Nat} {q : LH} {k22 : Nat → Int32 → Int32 → Int32 → LH → Option LH} {k99 : Nat → Int32 → Int32 → Int32 → Int32 → LH → Option LH} (hd : 8 ≤ d) (hk22 : ∀ (l0 : Nat) (l2 : Int32) (l3 : Int32) (l4 : Int32) (u1 : Value) (u5 : Value) (u6 : Value) (h : LH), k22 l0 l2 l3 l4 h = some q → JR d jM_274 22 [.ref l0, u1, .int l2, .int l3, .int l4, u5, u6] [] h (jo_v q)) (hk99 : ∀ (l0 : Nat) (l2 : Int32) (l3 : Int32) (l4 : Int32) (l5 : Int32) (u1 : Value) (u6 : Value) (h : LH), k99 l0 l2 l3 l4 l5 h = some q → JR d jM_274 99 [.ref l0, u1, .int l2, .int l3, .int l4, .int l5, u6] [] h (jo_v q)) {l0 : Nat} {l2 : Int32} {l3 : Int32} {l4 : Int32} {l5 : Int32} {u1 : Value} {u6 : Value} {h : LH} : F_Mod_daysBy_c99 k22 k99 l0 l2 l3 l4 l5 h = some q → JR d jM_274 99 [.ref l0, u1, .int l2, .int l3, .int l4, .int l5, u6] [] h (jo_v q) := by
 unfold F_Mod_daysBy_c99
 exact jr_iload 99 101 rfl rfl rfl
  (jr_aloadn 101 102 rfl rfl rfl
  (jr_gr 102 105 rfl jg_11_23_2 rfl (fun v1 =>
  jr_iconst 105 106 (0 : Int32) rfl jc_i_0 rfl
  (jr_ia 106 107 rfl rfl (fun v2 =>
  jr_icmp_ge 107 171 110 rfl rfl rfl
  (jr_aloadn 171 172 rfl rfl rfl
  (jr_aloadn 172 173 rfl rfl rfl
  (jr_gr 173 176 rfl jg_11_88_2 rfl (fun v3 =>
  jr_cVv 176 179 [] rfl rfl rfl rfl rfl rfl rfl rfl (as := [.ref v3]) (F_Mod_hourEnds_ok (Nat.le_trans (by decide : 8 ≤ 8) hd)) (fun h4 =>
  jr_iinc 179 182 [.ref l0, u1, .int l2, .int l3, .int (l4 + (1 : Int32)), .int l5, u6] rfl jc_i_1 rfl rfl rfl rfl
  (jr_goto 182 22 rfl rfl
  ((hk22 _ _ _ _ _ _ _ _))))))))
  (jr_aloadn 110 111 rfl rfl rfl
  (jr_aloadn 111 112 rfl rfl rfl
  (jr_gr 112 115 rfl jg_11_88_2 rfl (fun v5 =>
  jr_cVi 115 118 [] rfl rfl rfl rfl rfl rfl rfl rfl (as := [.ref v5]) (F_Mod_fullest_ok (Nat.le_trans (by decide : 1 ≤ 8) hd)) (fun v6 h7 =>
  jr_istore 118 120 [.ref l0, u1, .int l2, .int l3, .int l4, .int l5, .int v6] rfl rfl rfl rfl
  (jr_aloadn 120 121 rfl rfl rfl
  (jr_gr 121 124 rfl jg_11_88_2 rfl (fun v8 =>
  jr_bipush 124 126 (108 : Int32) rfl jc_b_108 rfl
  (jr_iload 126 128 rfl rfl rfl
  (jr_iadd 128 129 rfl rfl
  (jr_ia 129 130 rfl rfl (fun v9 =>
  jr_if_gt 130 165 133 rfl rfl rfl
  ((F_Mod_daysBy_b165_ok hd hk22 hk99))
  (jr_iload 133 135 rfl rfl rfl
  (jr_iconst 135 136 (-1 : Int32) rfl jc_i_m1 rfl
  (jr_icmp_ne 136 142 139 rfl rfl rfl
  (jr_aloadn 142 143 rfl rfl rfl
  (jr_aloadn 143 144 rfl rfl rfl
  (jr_gr 144 147 rfl jg_11_88_2 rfl (fun v10 =>
  jr_iload 147 149 rfl rfl rfl
  (jr_iload 149 151 rfl rfl rfl
  (jr_cVi 151 154 [] rfl rfl rfl rfl rfl rfl rfl rfl (as := [.ref v10, .int l5, .int v6]) (F_Mod_laysOn_ok (Nat.le_trans (by decide : 1 ≤ 8) hd)) (fun v11 h12 =>
  jr_pop 154 155 rfl rfl rfl
  (jr_aloadn 155 156 rfl rfl rfl
  (jr_dup 156 157 rfl rfl rfl
  (jr_gi 157 160 rfl jg_11_406_1 rfl (fun v13 =>
  jr_iconst 160 161 (1 : Int32) rfl jc_i_1 rfl
  (jr_iadd 161 162 rfl rfl
  (jr_pi 162 165 rfl jg_11_406_3 rfl (fun h14 =>
  (F_Mod_daysBy_b165_ok hd hk22 hk99)))))))))))))))
  (jr_goto 139 165 rfl rfl
  ((F_Mod_daysBy_b165_ok hd hk22 hk99)))))))))))))))))))))))
noncomputable def F_Mod_daysBy_l99 (k22 : Nat → Int32 → Int32 → Int32 → LH → Option LH) : Nat → Nat → Int32 → Int32 → Int32 → Int32 → LH → Option LH
 | 0, _, _, _, _, _, _ => none
 | n + 1, l0, l2, l3, l4, l5, h => F_Mod_daysBy_c99 k22 (F_Mod_daysBy_l99 k22 n) l0 l2 l3 l4 l5 h
theorem F_Mod_daysBy_l99_ok {d : Nat} {q : LH} {k22 : Nat → Int32 → Int32 → Int32 → LH → Option LH} (hd : 8 ≤ d) (hk22 : ∀ (l0 : Nat) (l2 : Int32) (l3 : Int32) (l4 : Int32) (u1 : Value) (u5 : Value) (u6 : Value) (h : LH), k22 l0 l2 l3 l4 h = some q → JR d jM_274 22 [.ref l0, u1, .int l2, .int l3, .int l4, u5, u6] [] h (jo_v q)) : ∀ (n : Nat) (l0 : Nat) (l2 : Int32) (l3 : Int32) (l4 : Int32) (l5 : Int32) (u1 : Value) (u6 : Value) (h : LH), F_Mod_daysBy_l99 k22 n l0 l2 l3 l4 l5 h = some q → JR d jM_274 99 [.ref l0, u1, .int l2, .int l3, .int l4, .int l5, u6] [] h (jo_v q)
 | 0 => fun _ _ _ _ _ _ _ _ hq => nomatch (show (none : Option LH) = some q from hq)
 | n + 1 => fun _ _ _ _ _ _ _ _ hq => F_Mod_daysBy_c99_ok hd hk22 (F_Mod_daysBy_l99_ok hd hk22 n) hq
noncomputable def F_Mod_daysBy_b92 (k22 : Nat → Int32 → Int32 → Int32 → LH → Option LH) (l0 : Nat) (l2 : Int32) (l3 : Int32) (l4 : Int32) (s0 : Nat) (s1 : Int32) (s2 : Int32) (h : LH) : Option LH :=
 jf_pi h s0 11 52 (s1 + s2) fun h1 =>
 F_Mod_daysBy_l99 k22 jF l0 l2 l3 l4 (0 : Int32) h1
set_option maxRecDepth 100000 in
theorem F_Mod_daysBy_b92_ok {d : Nat} {q : LH} {k22 : Nat → Int32 → Int32 → Int32 → LH → Option LH} (hd : 8 ≤ d) (hk22 : ∀ (l0 : Nat) (l2 : Int32) (l3 : Int32) (l4 : Int32) (u1 : Value) (u5 : Value) (u6 : Value) (h : LH), k22 l0 l2 l3 l4 h = some q → JR d jM_274 22 [.ref l0, u1, .int l2, .int l3, .int l4, u5, u6] [] h (jo_v q)) {l0 : Nat} {l2 : Int32} {l3 : Int32} {l4 : Int32} {s0 : Nat} {s1 : Int32} {s2 : Int32} {u1 : Value} {u5 : Value} {u6 : Value} {h : LH} : F_Mod_daysBy_b92 k22 l0 l2 l3 l4 s0 s1 s2 h = some q → JR d jM_274 92 [.ref l0, u1, .int l2, .int l3, .int l4, u5, u6] [.int s2, .int s1, .ref s0] h (jo_v q) := by
 unfold F_Mod_daysBy_b92
 exact jr_iadd 92 93 rfl rfl
  (jr_pi 93 96 rfl jg_11_409_3 rfl (fun h1 =>
  jr_iconst 96 97 (0 : Int32) rfl jc_i_0 rfl
  (jr_istore 97 99 [.ref l0, u1, .int l2, .int l3, .int l4, .int (0 : Int32), u6] rfl rfl rfl rfl
  ((F_Mod_daysBy_l99_ok hd hk22 jF _ _ _ _ _ _ _ _)))))
noncomputable def F_Mod_daysBy_b64 (k22 : Nat → Int32 → Int32 → Int32 → LH → Option LH) (l0 : Nat) (l2 : Int32) (l3 : Int32) (l4 : Int32) (s0 : Nat) (s1 : Int32) (h : LH) : Option LH :=
 jf_pz h s0 11 44 s1 fun h1 =>
 jf_gi h1 l0 11 52 fun v2 =>
 jf_gr h1 l0 11 36 fun v3 =>
 jf_ia h1 v3 (133 : Int32) fun v4 =>
 jf_kd h1 l0 11
 (jf_bi (F_Mod_isRain l0 v4 h1) fun v5 h6 =>
 if v5 = 0 then
 F_Mod_daysBy_b92 k22 l0 l2 l3 l4 l0 v2 (0 : Int32) h6
else
 F_Mod_daysBy_b92 k22 l0 l2 l3 l4 l0 v2 (1 : Int32) h6)
set_option maxRecDepth 100000 in
theorem F_Mod_daysBy_b64_ok {d : Nat} {q : LH} {k22 : Nat → Int32 → Int32 → Int32 → LH → Option LH} (hd : 8 ≤ d) (hk22 : ∀ (l0 : Nat) (l2 : Int32) (l3 : Int32) (l4 : Int32) (u1 : Value) (u5 : Value) (u6 : Value) (h : LH), k22 l0 l2 l3 l4 h = some q → JR d jM_274 22 [.ref l0, u1, .int l2, .int l3, .int l4, u5, u6] [] h (jo_v q)) {l0 : Nat} {l2 : Int32} {l3 : Int32} {l4 : Int32} {s0 : Nat} {s1 : Int32} {u1 : Value} {u5 : Value} {u6 : Value} {h : LH} : F_Mod_daysBy_b64 k22 l0 l2 l3 l4 s0 s1 h = some q → JR d jM_274 64 [.ref l0, u1, .int l2, .int l3, .int l4, u5, u6] [.int s1, .ref s0] h (jo_v q) := by
 unfold F_Mod_daysBy_b64
 exact jr_pz 64 67 rfl jg_11_268_4 rfl (fun h1 =>
  jr_aloadn 67 68 rfl rfl rfl
  (jr_dup 68 69 rfl rfl rfl
  (jr_gi 69 72 rfl jg_11_409_1 rfl (fun v2 =>
  jr_aloadn 72 73 rfl rfl rfl
  (jr_aloadn 73 74 rfl rfl rfl
  (jr_gr 74 77 rfl jg_11_88_2 rfl (fun v3 =>
  jr_sipush 77 80 (133 : Int32) rfl jc_s_133 rfl
  (jr_ia 80 81 rfl rfl (fun v4 =>
  jr_cVi 81 84 [.int v2, .ref l0] rfl rfl rfl rfl rfl rfl rfl rfl (as := [.int v4]) (F_Mod_isRain_ok (Nat.le_trans (by decide : 2 ≤ 8) hd)) (fun v5 h6 =>
  jr_if_eq 84 91 87 rfl rfl rfl
  (jr_iconst 91 92 (0 : Int32) rfl jc_i_0 rfl
  ((F_Mod_daysBy_b92_ok hd hk22)))
  (jr_iconst 87 88 (1 : Int32) rfl jc_i_1 rfl
  (jr_goto 88 92 rfl rfl
  ((F_Mod_daysBy_b92_ok hd hk22))))))))))))))
noncomputable def F_Mod_daysBy_c22 (k22 : Nat → Int32 → Int32 → Int32 → LH → Option LH) (l0 : Nat) (l2 : Int32) (l3 : Int32) (l4 : Int32) (h : LH) : Option LH :=
 if l4 < l3 then
 jf_gi h l0 11 50 fun v2 =>
 jf_pi h l0 11 50 ((v2 * (1103515245 : Int32)) + (12345 : Int32)) fun h3 =>
 jf_gi h3 l0 11 50 fun v4 =>
 if ((v4 >>> ((16 : Int32) &&& 31)) &&& (15 : Int32)) < l2 then
 F_Mod_daysBy_b64 k22 l0 l2 l3 l4 l0 (1 : Int32) h3
else
 F_Mod_daysBy_b64 k22 l0 l2 l3 l4 l0 (0 : Int32) h3
else
 jf_pz h l0 11 44 (0 : Int32) fun h1 =>
 some h1
set_option maxRecDepth 100000 in
theorem F_Mod_daysBy_c22_ok {d : Nat} {q : LH} {k22 : Nat → Int32 → Int32 → Int32 → LH → Option LH} (hd : 8 ≤ d) (hk22 : ∀ (l0 : Nat) (l2 : Int32) (l3 : Int32) (l4 : Int32) (u1 : Value) (u5 : Value) (u6 : Value) (h : LH), k22 l0 l2 l3 l4 h = some q → JR d jM_274 22 [.ref l0, u1, .int l2, .int l3, .int l4, u5, u6] [] h (jo_v q)) {l0 : Nat} {l2 : Int32} {l3 : Int32} {l4 : Int32} {u1 : Value} {u5 : Value} {u6 : Value} {h : LH} : F_Mod_daysBy_c22 k22 l0 l2 l3 l4 h = some q → JR d jM_274 22 [.ref l0, u1, .int l2, .int l3, .int l4, u5, u6] [] h (jo_v q) := by
 unfold F_Mod_daysBy_c22
 exact jr_iload 22 24 rfl rfl rfl
  (jr_iloadn 24 25 rfl rfl rfl
  (jr_icmp_ge 25 185 28 rfl rfl rfl
  (jr_aloadn 185 186 rfl rfl rfl
  (jr_iconst 186 187 (0 : Int32) rfl jc_i_0 rfl
  (jr_pz 187 190 rfl jg_11_268_4 rfl (fun h1 =>
  jr_rv 190 rfl rfl))))
  (jr_aloadn 28 29 rfl rfl rfl
  (jr_aloadn 29 30 rfl rfl rfl
  (jr_gi 30 33 rfl jg_11_403_1 rfl (fun v2 =>
  jr_ldcwi 33 36 rfl rfl rfl rfl
  (jr_imul 36 37 rfl rfl
  (jr_sipush 37 40 (12345 : Int32) rfl jc_s_12345 rfl
  (jr_iadd 40 41 rfl rfl
  (jr_pi 41 44 rfl jg_11_403_3 rfl (fun h3 =>
  jr_aloadn 44 45 rfl rfl rfl
  (jr_aloadn 45 46 rfl rfl rfl
  (jr_gi 46 49 rfl jg_11_403_1 rfl (fun v4 =>
  jr_bipush 49 51 (16 : Int32) rfl jc_b_16 rfl
  (jr_ishr 51 52 rfl rfl
  (jr_bipush 52 54 (15 : Int32) rfl jc_b_15 rfl
  (jr_iand 54 55 rfl rfl
  (jr_iloadn 55 56 rfl rfl rfl
  (jr_icmp_ge 56 63 59 rfl rfl rfl
  (jr_iconst 63 64 (0 : Int32) rfl jc_i_0 rfl
  ((F_Mod_daysBy_b64_ok hd hk22)))
  (jr_iconst 59 60 (1 : Int32) rfl jc_i_1 rfl
  (jr_goto 60 64 rfl rfl
  ((F_Mod_daysBy_b64_ok hd hk22)))))))))))))))))))))))
noncomputable def F_Mod_daysBy_l22 : Nat → Nat → Int32 → Int32 → Int32 → LH → Option LH
 | 0, _, _, _, _, _ => none
 | n + 1, l0, l2, l3, l4, h => F_Mod_daysBy_c22 (F_Mod_daysBy_l22 n) l0 l2 l3 l4 h
theorem F_Mod_daysBy_l22_ok {d : Nat} {q : LH} (hd : 8 ≤ d) : ∀ (n : Nat) (l0 : Nat) (l2 : Int32) (l3 : Int32) (l4 : Int32) (u1 : Value) (u5 : Value) (u6 : Value) (h : LH), F_Mod_daysBy_l22 n l0 l2 l3 l4 h = some q → JR d jM_274 22 [.ref l0, u1, .int l2, .int l3, .int l4, u5, u6] [] h (jo_v q)
 | 0 => fun _ _ _ _ _ _ _ _ hq => nomatch (show (none : Option LH) = some q from hq)
 | n + 1 => fun _ _ _ _ _ _ _ _ hq => F_Mod_daysBy_c22_ok hd (F_Mod_daysBy_l22_ok hd n) hq
noncomputable def F_Mod_daysBy (l0 : Nat) (l1 : Int32) (l2 : Int32) (l3 : Int32) (h : LH) : Option LH :=
 jf_kd h l0 11
 ((F_Mod_tries l0 h).bind fun h1 =>
 jf_pi h1 l0 11 50 l1 fun h2 =>
 jf_pi h2 l0 11 51 (0 : Int32) fun h3 =>
 jf_pi h3 l0 11 52 (0 : Int32) fun h4 =>
 F_Mod_daysBy_l22  jF l0 l2 l3 (0 : Int32) h4)
set_option maxRecDepth 100000 in
theorem F_Mod_daysBy_ok {d : Nat} (hd : 9 ≤ d) {l0 : Nat} {l1 : Int32} {l2 : Int32} {l3 : Int32} {h : LH} {q : LH} : F_Mod_daysBy l0 l1 l2 l3 h = some q → jl_Sem jt_T jt_Ms d 274 [.ref l0, .int l1, .int l2, .int l3] h (jo_v q) := by
 unfold F_Mod_daysBy
 exact jr_enter (D := 8) hd jM_274_at rfl rfl rfl (fun d hd =>
  jr_aloadn 0 1 rfl rfl rfl
  (jr_cVv 1 4 [] rfl rfl rfl rfl rfl rfl rfl rfl (as := []) (F_Mod_tries_ok (Nat.le_trans (by decide : 2 ≤ 8) hd)) (fun h1 =>
  jr_aloadn 4 5 rfl rfl rfl
  (jr_iloadn 5 6 rfl rfl rfl
  (jr_pi 6 9 rfl jg_11_403_3 rfl (fun h2 =>
  jr_aloadn 9 10 rfl rfl rfl
  (jr_iconst 10 11 (0 : Int32) rfl jc_i_0 rfl
  (jr_pi 11 14 rfl jg_11_406_3 rfl (fun h3 =>
  jr_aloadn 14 15 rfl rfl rfl
  (jr_iconst 15 16 (0 : Int32) rfl jc_i_0 rfl
  (jr_pi 16 19 rfl jg_11_409_3 rfl (fun h4 =>
  jr_iconst 19 20 (0 : Int32) rfl jc_i_0 rfl
  (jr_istore 20 22 [.ref l0, .int l1, .int l2, .int l3, .int (0 : Int32), .retAddr 0, .retAddr 0] rfl rfl rfl rfl
  ((F_Mod_daysBy_l22_ok hd  jF _ _ _ _ _ _ _ _)))))))))))))))
noncomputable def jM_272 : JMeth := (11, false, 1, jk_272, [], 5)
set_option maxRecDepth 100000 in
theorem jM_272_at : jt_Ms 272 = some jM_272 := rfl
noncomputable def F_Mod_days_b84 (s0 : Int32) (h : LH) : Option (Int32 × LH) :=
 some (s0, h)
set_option maxRecDepth 100000 in
theorem F_Mod_days_b84_ok {d : Nat} {q : (Int32 × LH)} (hd : 9 ≤ d) {s0 : Int32} {u0 : Value} {u1 : Value} {u2 : Value} {u3 : Value} {u4 : Value} {h : LH} : F_Mod_days_b84 s0 h = some q → JR d jM_272 84 [u0, u1, u2, u3, u4] [.int s0] h (jo_i q) := by
 unfold F_Mod_days_b84
 exact jr_ri 84 rfl rfl
noncomputable def F_Mod_days_b29 (l0 : Nat) (l1 : Int32) (l2 : Int32) (l3 : Int32) (l4 : Int32) (s0 : Nat) (s1 : Int32) (h : LH) : Option (Int32 × LH) :=
 jf_kd h s0 11
 (jf_bi (F_Mod_bad s0 s1 (1 : Int32) (1 : Int32) h) fun v1 h2 =>
 if v1 = 0 then
 jf_kd h2 l0 11
 ((F_Mod_daysBy l0 l1 l2 l3 h2).bind fun h3 =>
 if l4 < (2 : Int32) then
 jf_gr h3 l0 11 36 fun v6 =>
 jf_kd h3 l0 11
 (jf_bi (F_Mod_cameIn l0 v6 (l4 + (1 : Int32)) h3) fun v7 h8 =>
 F_Mod_days_b84  v7 h8)
else
 if l4 = (2 : Int32) then
 jf_gi h3 l0 11 51 fun v5 =>
 F_Mod_days_b84  v5 h3
else
 jf_gi h3 l0 11 52 fun v4 =>
 F_Mod_days_b84  v4 h3)
else
 some ((0 : Int32), h2))
set_option maxRecDepth 100000 in
theorem F_Mod_days_b29_ok {d : Nat} {q : (Int32 × LH)} (hd : 9 ≤ d) {l0 : Nat} {l1 : Int32} {l2 : Int32} {l3 : Int32} {l4 : Int32} {s0 : Nat} {s1 : Int32} {h : LH} : F_Mod_days_b29 l0 l1 l2 l3 l4 s0 s1 h = some q → JR d jM_272 29 [.ref l0, .int l1, .int l2, .int l3, .int l4] [.int s1, .ref s0] h (jo_i q) := by
 unfold F_Mod_days_b29
 exact jr_iconst 29 30 (1 : Int32) rfl jc_i_1 rfl
  (jr_iconst 30 31 (1 : Int32) rfl jc_i_1 rfl
  (jr_cVi 31 34 [] rfl rfl rfl rfl rfl rfl rfl rfl (as := [.int s1, .int (1 : Int32), .int (1 : Int32)]) (F_Mod_bad_ok (Nat.le_trans (by decide : 1 ≤ 9) hd)) (fun v1 h2 =>
  jr_if_eq 34 39 37 rfl rfl rfl
  (jr_aloadn 39 40 rfl rfl rfl
  (jr_iloadn 40 41 rfl rfl rfl
  (jr_iloadn 41 42 rfl rfl rfl
  (jr_iloadn 42 43 rfl rfl rfl
  (jr_cVv 43 46 [] rfl rfl rfl rfl rfl rfl rfl rfl (as := [.int l1, .int l2, .int l3]) (F_Mod_daysBy_ok (Nat.le_trans (by decide : 9 ≤ 9) hd)) (fun h3 =>
  jr_iload 46 48 rfl rfl rfl
  (jr_iconst 48 49 (2 : Int32) rfl jc_i_2 rfl
  (jr_icmp_ge 49 67 52 rfl rfl rfl
  (jr_iload 67 69 rfl rfl rfl
  (jr_iconst 69 70 (2 : Int32) rfl jc_i_2 rfl
  (jr_icmp_ne 70 80 73 rfl rfl rfl
  (jr_aloadn 80 81 rfl rfl rfl
  (jr_gi 81 84 rfl jg_11_409_1 rfl (fun v4 =>
  (F_Mod_days_b84_ok hd ))))
  (jr_aloadn 73 74 rfl rfl rfl
  (jr_gi 74 77 rfl jg_11_406_1 rfl (fun v5 =>
  jr_goto 77 84 rfl rfl
  ((F_Mod_days_b84_ok hd ))))))))
  (jr_aloadn 52 53 rfl rfl rfl
  (jr_aloadn 53 54 rfl rfl rfl
  (jr_gr 54 57 rfl jg_11_88_2 rfl (fun v6 =>
  jr_iload 57 59 rfl rfl rfl
  (jr_iconst 59 60 (1 : Int32) rfl jc_i_1 rfl
  (jr_iadd 60 61 rfl rfl
  (jr_cVi 61 64 [] rfl rfl rfl rfl rfl rfl rfl rfl (as := [.ref v6, .int (l4 + (1 : Int32))]) (F_Mod_cameIn_ok (Nat.le_trans (by decide : 1 ≤ 9) hd)) (fun v7 h8 =>
  jr_goto 64 84 rfl rfl
  ((F_Mod_days_b84_ok hd ))))))))))))))))))
  (jr_iconst 37 38 (0 : Int32) rfl jc_i_0 rfl
  (jr_ri 38 rfl rfl)))))
noncomputable def F_Mod_days_b24 (l0 : Nat) (l1 : Int32) (l2 : Int32) (l3 : Int32) (l4 : Int32) (s0 : Nat) (h : LH) : Option (Int32 × LH) :=
 F_Mod_days_b29  l0 l1 l2 l3 l4 s0 (1 : Int32) h
set_option maxRecDepth 100000 in
theorem F_Mod_days_b24_ok {d : Nat} {q : (Int32 × LH)} (hd : 9 ≤ d) {l0 : Nat} {l1 : Int32} {l2 : Int32} {l3 : Int32} {l4 : Int32} {s0 : Nat} {h : LH} : F_Mod_days_b24 l0 l1 l2 l3 l4 s0 h = some q → JR d jM_272 24 [.ref l0, .int l1, .int l2, .int l3, .int l4] [.ref s0] h (jo_i q) := by
 unfold F_Mod_days_b24
 exact jr_iconst 24 25 (1 : Int32) rfl jc_i_1 rfl
  (jr_goto 25 29 rfl rfl
  ((F_Mod_days_b29_ok hd )))
noncomputable def F_Mod_days (l0 : Nat) (l1 : Int32) (l2 : Int32) (l3 : Int32) (l4 : Int32) (h : LH) : Option (Int32 × LH) :=
 jf_pi h l0 11 0 (0 : Int32) fun h1 =>
 jf_bi (F_Mod_areDays l2 l3 h1) fun v2 h3 =>
 if v2 = 0 then
 F_Mod_days_b24  l0 l1 l2 l3 l4 l0 h3
else
 jf_bi (F_Mod_in l4 (0 : Int32) (3 : Int32) h3) fun v4 h5 =>
 if v4 = 0 then
 F_Mod_days_b24  l0 l1 l2 l3 l4 l0 h5
else
 F_Mod_days_b29  l0 l1 l2 l3 l4 l0 (0 : Int32) h5
set_option maxRecDepth 100000 in
theorem F_Mod_days_ok {d : Nat} (hd : 10 ≤ d) {l0 : Nat} {l1 : Int32} {l2 : Int32} {l3 : Int32} {l4 : Int32} {h : LH} {q : (Int32 × LH)} : F_Mod_days l0 l1 l2 l3 l4 h = some q → jl_Sem jt_T jt_Ms d 272 [.ref l0, .int l1, .int l2, .int l3, .int l4] h (jo_i q) := by
 unfold F_Mod_days
 exact jr_enter (D := 9) hd jM_272_at rfl rfl rfl (fun d hd =>
  jr_aloadn 0 1 rfl rfl rfl
  (jr_iconst 1 2 (0 : Int32) rfl jc_i_0 rfl
  (jr_pi 2 5 rfl jg_11_109_3 rfl (fun h1 =>
  jr_aloadn 5 6 rfl rfl rfl
  (jr_iloadn 6 7 rfl rfl rfl
  (jr_iloadn 7 8 rfl rfl rfl
  (jr_cSi 8 11 [.ref l0] rfl rfl rfl rfl rfl rfl rfl (as := [.int l2, .int l3]) (F_Mod_areDays_ok (Nat.le_trans (by decide : 2 ≤ 9) hd)) (fun v2 h3 =>
  jr_if_eq 11 24 14 rfl rfl rfl
  ((F_Mod_days_b24_ok hd ))
  (jr_iload 14 16 rfl rfl rfl
  (jr_iconst 16 17 (0 : Int32) rfl jc_i_0 rfl
  (jr_iconst 17 18 (3 : Int32) rfl jc_i_3 rfl
  (jr_cSi 18 21 [.ref l0] rfl rfl rfl rfl rfl rfl rfl (as := [.int l4, .int (0 : Int32), .int (3 : Int32)]) (F_Mod_in_ok (Nat.le_trans (by decide : 1 ≤ 9) hd)) (fun v4 h5 =>
  jr_if_ne 21 28 24 rfl rfl rfl
  (jr_iconst 28 29 (0 : Int32) rfl jc_i_0 rfl
  ((F_Mod_days_b29_ok hd )))
  ((F_Mod_days_b24_ok hd )))))))))))))))
noncomputable def jM_276 : JMeth := (11, false, 1, jk_276, [], 11)
set_option maxRecDepth 100000 in
theorem jM_276_at : jt_Ms 276 = some jM_276 := rfl
noncomputable def F_Mod_span_b179 (s0 : Int32) (h : LH) : Option (Int32 × LH) :=
 some (s0, h)
set_option maxRecDepth 100000 in
theorem F_Mod_span_b179_ok {d : Nat} {q : (Int32 × LH)} (hd : 9 ≤ d) {s0 : Int32} {u0 : Value} {u1 : Value} {u2 : Value} {u3 : Value} {u4 : Value} {u5 : Value} {u6 : Value} {u7 : Value} {u8 : Value} {u9 : Value} {u10 : Value} {h : LH} : F_Mod_span_b179 s0 h = some q → JR d jM_276 179 [u0, u1, u2, u3, u4, u5, u6, u7, u8, u9, u10] [.int s0] h (jo_i q) := by
 unfold F_Mod_span_b179
 exact jr_ri 179 rfl rfl
noncomputable def F_Mod_span_b147 (k62 : Nat → Int32 → Int32 → Int32 → Int32 → Int32 → Int32 → Int32 → Int32 → Int32 → LH → Option (Int32 × LH)) (l0 : Nat) (l1 : Int32) (l2 : Int32) (l3 : Int32) (l4 : Int32) (l5 : Int32) (l6 : Int32) (l7 : Int32) (l9 : Int32) (s0 : Int32) (s1 : Int32) (h : LH) : Option (Int32 × LH) :=
 jf_let (s0 + s1) fun v1 =>
 k62 l0 l1 l2 l3 l4 l5 l6 l7 v1 (l9 + (1 : Int32)) h
set_option maxRecDepth 100000 in
theorem F_Mod_span_b147_ok {d : Nat} {q : (Int32 × LH)} {k62 : Nat → Int32 → Int32 → Int32 → Int32 → Int32 → Int32 → Int32 → Int32 → Int32 → LH → Option (Int32 × LH)} (hd : 9 ≤ d) (hk62 : ∀ (l0 : Nat) (l1 : Int32) (l2 : Int32) (l3 : Int32) (l4 : Int32) (l5 : Int32) (l6 : Int32) (l7 : Int32) (l8 : Int32) (l9 : Int32) (u10 : Value) (h : LH), k62 l0 l1 l2 l3 l4 l5 l6 l7 l8 l9 h = some q → JR d jM_276 62 [.ref l0, .int l1, .int l2, .int l3, .int l4, .int l5, .int l6, .int l7, .int l8, .int l9, u10] [] h (jo_i q)) {l0 : Nat} {l1 : Int32} {l2 : Int32} {l3 : Int32} {l4 : Int32} {l5 : Int32} {l6 : Int32} {l7 : Int32} {l9 : Int32} {s0 : Int32} {s1 : Int32} {u8 : Value} {u10 : Value} {h : LH} : F_Mod_span_b147 k62 l0 l1 l2 l3 l4 l5 l6 l7 l9 s0 s1 h = some q → JR d jM_276 147 [.ref l0, .int l1, .int l2, .int l3, .int l4, .int l5, .int l6, .int l7, u8, .int l9, u10] [.int s1, .int s0] h (jo_i q) := by
 unfold F_Mod_span_b147
 exact jr_iadd 147 148 rfl rfl
  (jr_istoreL 148 150 (fun v1 => [.ref l0, .int l1, .int l2, .int l3, .int l4, .int l5, .int l6, .int l7, .int v1, .int l9, u10]) rfl rfl (fun _ => rfl) rfl (fun v1 =>
  jr_iinc 150 153 [.ref l0, .int l1, .int l2, .int l3, .int l4, .int l5, .int l6, .int l7, .int v1, .int (l9 + (1 : Int32)), u10] rfl jc_i_1 rfl rfl rfl rfl
  (jr_goto 153 62 rfl rfl
  ((hk62 _ _ _ _ _ _ _ _ _ _ _ _)))))
noncomputable def F_Mod_span_b108 (k62 : Nat → Int32 → Int32 → Int32 → Int32 → Int32 → Int32 → Int32 → Int32 → Int32 → LH → Option (Int32 × LH)) (l0 : Nat) (l1 : Int32) (l2 : Int32) (l3 : Int32) (l4 : Int32) (l5 : Int32) (l7 : Int32) (l8 : Int32) (l9 : Int32) (l10 : Int32) (s0 : Int32) (h : LH) : Option (Int32 × LH) :=
 jf_bi (F_Mod_more l7 l10 h) fun v1 h2 =>
 jf_gr h2 l0 11 36 fun v3 =>
 jf_kd h2 l0 11
 (jf_bi (F_Mod_cameIn l0 v3 (2 : Int32) h2) fun v4 h5 =>
 jf_gr h5 l0 11 35 fun v6 =>
 jf_kd h5 l0 11
 (jf_bi (F_Mod_cameIn l0 v6 (2 : Int32) h5) fun v7 h8 =>
 if v4 = v7 then
 F_Mod_span_b147 k62 l0 l1 l2 l3 l4 l5 s0 v1 l9 l8 (1 : Int32) h8
else
 F_Mod_span_b147 k62 l0 l1 l2 l3 l4 l5 s0 v1 l9 l8 (0 : Int32) h8))
set_option maxRecDepth 100000 in
theorem F_Mod_span_b108_ok {d : Nat} {q : (Int32 × LH)} {k62 : Nat → Int32 → Int32 → Int32 → Int32 → Int32 → Int32 → Int32 → Int32 → Int32 → LH → Option (Int32 × LH)} (hd : 9 ≤ d) (hk62 : ∀ (l0 : Nat) (l1 : Int32) (l2 : Int32) (l3 : Int32) (l4 : Int32) (l5 : Int32) (l6 : Int32) (l7 : Int32) (l8 : Int32) (l9 : Int32) (u10 : Value) (h : LH), k62 l0 l1 l2 l3 l4 l5 l6 l7 l8 l9 h = some q → JR d jM_276 62 [.ref l0, .int l1, .int l2, .int l3, .int l4, .int l5, .int l6, .int l7, .int l8, .int l9, u10] [] h (jo_i q)) {l0 : Nat} {l1 : Int32} {l2 : Int32} {l3 : Int32} {l4 : Int32} {l5 : Int32} {l7 : Int32} {l8 : Int32} {l9 : Int32} {l10 : Int32} {s0 : Int32} {u6 : Value} {h : LH} : F_Mod_span_b108 k62 l0 l1 l2 l3 l4 l5 l7 l8 l9 l10 s0 h = some q → JR d jM_276 108 [.ref l0, .int l1, .int l2, .int l3, .int l4, .int l5, u6, .int l7, .int l8, .int l9, .int l10] [.int s0] h (jo_i q) := by
 unfold F_Mod_span_b108
 exact jr_istore 108 110 [.ref l0, .int l1, .int l2, .int l3, .int l4, .int l5, .int s0, .int l7, .int l8, .int l9, .int l10] rfl rfl rfl rfl
  (jr_iload 110 112 rfl rfl rfl
  (jr_iload 112 114 rfl rfl rfl
  (jr_cSi 114 117 [] rfl rfl rfl rfl rfl rfl rfl (as := [.int l7, .int l10]) (F_Mod_more_ok (Nat.le_trans (by decide : 1 ≤ 9) hd)) (fun v1 h2 =>
  jr_istore 117 119 [.ref l0, .int l1, .int l2, .int l3, .int l4, .int l5, .int s0, .int v1, .int l8, .int l9, .int l10] rfl rfl rfl rfl
  (jr_iload 119 121 rfl rfl rfl
  (jr_aloadn 121 122 rfl rfl rfl
  (jr_aloadn 122 123 rfl rfl rfl
  (jr_gr 123 126 rfl jg_11_88_2 rfl (fun v3 =>
  jr_iconst 126 127 (2 : Int32) rfl jc_i_2 rfl
  (jr_cVi 127 130 [.int l8] rfl rfl rfl rfl rfl rfl rfl rfl (as := [.ref v3, .int (2 : Int32)]) (F_Mod_cameIn_ok (Nat.le_trans (by decide : 1 ≤ 9) hd)) (fun v4 h5 =>
  jr_aloadn 130 131 rfl rfl rfl
  (jr_aloadn 131 132 rfl rfl rfl
  (jr_gr 132 135 rfl jg_11_85_2 rfl (fun v6 =>
  jr_iconst 135 136 (2 : Int32) rfl jc_i_2 rfl
  (jr_cVi 136 139 [.int v4, .int l8] rfl rfl rfl rfl rfl rfl rfl rfl (as := [.ref v6, .int (2 : Int32)]) (F_Mod_cameIn_ok (Nat.le_trans (by decide : 1 ≤ 9) hd)) (fun v7 h8 =>
  jr_icmp_ne 139 146 142 rfl rfl rfl
  (jr_iconst 146 147 (0 : Int32) rfl jc_i_0 rfl
  ((F_Mod_span_b147_ok hd hk62)))
  (jr_iconst 142 143 (1 : Int32) rfl jc_i_1 rfl
  (jr_goto 143 147 rfl rfl
  ((F_Mod_span_b147_ok hd hk62))))))))))))))))))))
noncomputable def F_Mod_span_c62 (k62 : Nat → Int32 → Int32 → Int32 → Int32 → Int32 → Int32 → Int32 → Int32 → Int32 → LH → Option (Int32 × LH)) (l0 : Nat) (l1 : Int32) (l2 : Int32) (l3 : Int32) (l4 : Int32) (l5 : Int32) (l6 : Int32) (l7 : Int32) (l8 : Int32) (l9 : Int32) (h : LH) : Option (Int32 × LH) :=
 if l9 < l2 then
 jf_kd h l0 11
 ((F_Mod_daysBy l0 (l1 + l9) l3 l4 h).bind fun h1 =>
 jf_gr h1 l0 11 36 fun v2 =>
 jf_kd h1 l0 11
 (jf_bi (F_Mod_cameIn l0 v2 (1 : Int32) h1) fun v3 h4 =>
 if l6 = (-1 : Int32) then
 F_Mod_span_b108 k62 l0 l1 l2 l3 l4 l5 l7 l8 l9 v3 v3 h4
else
 jf_bi (F_Mod_less l6 v3 h4) fun v5 h6 =>
 F_Mod_span_b108 k62 l0 l1 l2 l3 l4 l5 l7 l8 l9 v3 v5 h6))
else
 if l5 = 0 then
 F_Mod_span_b179  l6 h
else
 if l5 = (1 : Int32) then
 F_Mod_span_b179  l7 h
else
 F_Mod_span_b179  l8 h
set_option maxRecDepth 100000 in
theorem F_Mod_span_c62_ok {d : Nat} {q : (Int32 × LH)} {k62 : Nat → Int32 → Int32 → Int32 → Int32 → Int32 → Int32 → Int32 → Int32 → Int32 → LH → Option (Int32 × LH)} (hd : 9 ≤ d) (hk62 : ∀ (l0 : Nat) (l1 : Int32) (l2 : Int32) (l3 : Int32) (l4 : Int32) (l5 : Int32) (l6 : Int32) (l7 : Int32) (l8 : Int32) (l9 : Int32) (u10 : Value) (h : LH), k62 l0 l1 l2 l3 l4 l5 l6 l7 l8 l9 h = some q → JR d jM_276 62 [.ref l0, .int l1, .int l2, .int l3, .int l4, .int l5, .int l6, .int l7, .int l8, .int l9, u10] [] h (jo_i q)) {l0 : Nat} {l1 : Int32} {l2 : Int32} {l3 : Int32} {l4 : Int32} {l5 : Int32} {l6 : Int32} {l7 : Int32} {l8 : Int32} {l9 : Int32} {u10 : Value} {h : LH} : F_Mod_span_c62 k62 l0 l1 l2 l3 l4 l5 l6 l7 l8 l9 h = some q → JR d jM_276 62 [.ref l0, .int l1, .int l2, .int l3, .int l4, .int l5, .int l6, .int l7, .int l8, .int l9, u10] [] h (jo_i q) := by
 unfold F_Mod_span_c62
 exact jr_iload 62 64 rfl rfl rfl
  (jr_iloadn 64 65 rfl rfl rfl
  (jr_icmp_ge 65 156 68 rfl rfl rfl
  (jr_iload 156 158 rfl rfl rfl
  (jr_if_ne 158 166 161 rfl rfl rfl
  (jr_iload 166 168 rfl rfl rfl
  (jr_iconst 168 169 (1 : Int32) rfl jc_i_1 rfl
  (jr_icmp_ne 169 177 172 rfl rfl rfl
  (jr_iload 177 179 rfl rfl rfl
  ((F_Mod_span_b179_ok hd )))
  (jr_iload 172 174 rfl rfl rfl
  (jr_goto 174 179 rfl rfl
  ((F_Mod_span_b179_ok hd )))))))
  (jr_iload 161 163 rfl rfl rfl
  (jr_goto 163 179 rfl rfl
  ((F_Mod_span_b179_ok hd ))))))
  (jr_aloadn 68 69 rfl rfl rfl
  (jr_iloadn 69 70 rfl rfl rfl
  (jr_iload 70 72 rfl rfl rfl
  (jr_iadd 72 73 rfl rfl
  (jr_iloadn 73 74 rfl rfl rfl
  (jr_iload 74 76 rfl rfl rfl
  (jr_cVv 76 79 [] rfl rfl rfl rfl rfl rfl rfl rfl (as := [.int (l1 + l9), .int l3, .int l4]) (F_Mod_daysBy_ok (Nat.le_trans (by decide : 9 ≤ 9) hd)) (fun h1 =>
  jr_aloadn 79 80 rfl rfl rfl
  (jr_aloadn 80 81 rfl rfl rfl
  (jr_gr 81 84 rfl jg_11_88_2 rfl (fun v2 =>
  jr_iconst 84 85 (1 : Int32) rfl jc_i_1 rfl
  (jr_cVi 85 88 [] rfl rfl rfl rfl rfl rfl rfl rfl (as := [.ref v2, .int (1 : Int32)]) (F_Mod_cameIn_ok (Nat.le_trans (by decide : 1 ≤ 9) hd)) (fun v3 h4 =>
  jr_istore 88 90 [.ref l0, .int l1, .int l2, .int l3, .int l4, .int l5, .int l6, .int l7, .int l8, .int l9, .int v3] rfl rfl rfl rfl
  (jr_iload 90 92 rfl rfl rfl
  (jr_iconst 92 93 (-1 : Int32) rfl jc_i_m1 rfl
  (jr_icmp_ne 93 101 96 rfl rfl rfl
  (jr_iload 101 103 rfl rfl rfl
  (jr_iload 103 105 rfl rfl rfl
  (jr_cSi 105 108 [] rfl rfl rfl rfl rfl rfl rfl (as := [.int l6, .int v3]) (F_Mod_less_ok (Nat.le_trans (by decide : 1 ≤ 9) hd)) (fun v5 h6 =>
  (F_Mod_span_b108_ok hd hk62)))))
  (jr_iload 96 98 rfl rfl rfl
  (jr_goto 98 108 rfl rfl
  ((F_Mod_span_b108_ok hd hk62))))))))))))))))))))))
noncomputable def F_Mod_span_l62 : Nat → Nat → Int32 → Int32 → Int32 → Int32 → Int32 → Int32 → Int32 → Int32 → Int32 → LH → Option (Int32 × LH)
 | 0, _, _, _, _, _, _, _, _, _, _, _ => none
 | n + 1, l0, l1, l2, l3, l4, l5, l6, l7, l8, l9, h => F_Mod_span_c62 (F_Mod_span_l62 n) l0 l1 l2 l3 l4 l5 l6 l7 l8 l9 h
theorem F_Mod_span_l62_ok {d : Nat} {q : (Int32 × LH)} (hd : 9 ≤ d) : ∀ (n : Nat) (l0 : Nat) (l1 : Int32) (l2 : Int32) (l3 : Int32) (l4 : Int32) (l5 : Int32) (l6 : Int32) (l7 : Int32) (l8 : Int32) (l9 : Int32) (u10 : Value) (h : LH), F_Mod_span_l62 n l0 l1 l2 l3 l4 l5 l6 l7 l8 l9 h = some q → JR d jM_276 62 [.ref l0, .int l1, .int l2, .int l3, .int l4, .int l5, .int l6, .int l7, .int l8, .int l9, u10] [] h (jo_i q)
 | 0 => fun _ _ _ _ _ _ _ _ _ _ _ _ hq => nomatch (show (none : Option (Int32 × LH)) = some q from hq)
 | n + 1 => fun _ _ _ _ _ _ _ _ _ _ _ _ hq => F_Mod_span_c62_ok hd (F_Mod_span_l62_ok hd n) hq
noncomputable def F_Mod_span_b40 (l0 : Nat) (l1 : Int32) (l2 : Int32) (l3 : Int32) (l4 : Int32) (l5 : Int32) (s0 : Nat) (s1 : Int32) (h : LH) : Option (Int32 × LH) :=
 jf_kd h s0 11
 (jf_bi (F_Mod_bad s0 s1 (1 : Int32) (1 : Int32) h) fun v1 h2 =>
 if v1 = 0 then
 F_Mod_span_l62  jF l0 l1 l2 l3 l4 l5 (-1 : Int32) (0 : Int32) (0 : Int32) (0 : Int32) h2
else
 some ((0 : Int32), h2))
set_option maxRecDepth 100000 in
theorem F_Mod_span_b40_ok {d : Nat} {q : (Int32 × LH)} (hd : 9 ≤ d) {l0 : Nat} {l1 : Int32} {l2 : Int32} {l3 : Int32} {l4 : Int32} {l5 : Int32} {s0 : Nat} {s1 : Int32} {u6 : Value} {u7 : Value} {u8 : Value} {u9 : Value} {u10 : Value} {h : LH} : F_Mod_span_b40 l0 l1 l2 l3 l4 l5 s0 s1 h = some q → JR d jM_276 40 [.ref l0, .int l1, .int l2, .int l3, .int l4, .int l5, u6, u7, u8, u9, u10] [.int s1, .ref s0] h (jo_i q) := by
 unfold F_Mod_span_b40
 exact jr_iconst 40 41 (1 : Int32) rfl jc_i_1 rfl
  (jr_iconst 41 42 (1 : Int32) rfl jc_i_1 rfl
  (jr_cVi 42 45 [] rfl rfl rfl rfl rfl rfl rfl rfl (as := [.int s1, .int (1 : Int32), .int (1 : Int32)]) (F_Mod_bad_ok (Nat.le_trans (by decide : 1 ≤ 9) hd)) (fun v1 h2 =>
  jr_if_eq 45 50 48 rfl rfl rfl
  (jr_iconst 50 51 (-1 : Int32) rfl jc_i_m1 rfl
  (jr_istore 51 53 [.ref l0, .int l1, .int l2, .int l3, .int l4, .int l5, .int (-1 : Int32), u7, u8, u9, u10] rfl rfl rfl rfl
  (jr_iconst 53 54 (0 : Int32) rfl jc_i_0 rfl
  (jr_istore 54 56 [.ref l0, .int l1, .int l2, .int l3, .int l4, .int l5, .int (-1 : Int32), .int (0 : Int32), u8, u9, u10] rfl rfl rfl rfl
  (jr_iconst 56 57 (0 : Int32) rfl jc_i_0 rfl
  (jr_istore 57 59 [.ref l0, .int l1, .int l2, .int l3, .int l4, .int l5, .int (-1 : Int32), .int (0 : Int32), .int (0 : Int32), u9, u10] rfl rfl rfl rfl
  (jr_iconst 59 60 (0 : Int32) rfl jc_i_0 rfl
  (jr_istore 60 62 [.ref l0, .int l1, .int l2, .int l3, .int l4, .int l5, .int (-1 : Int32), .int (0 : Int32), .int (0 : Int32), .int (0 : Int32), u10] rfl rfl rfl rfl
  ((F_Mod_span_l62_ok hd  jF _ _ _ _ _ _ _ _ _ _ _ _))))))))))
  (jr_iconst 48 49 (0 : Int32) rfl jc_i_0 rfl
  (jr_ri 49 rfl rfl)))))
noncomputable def F_Mod_span_b35 (l0 : Nat) (l1 : Int32) (l2 : Int32) (l3 : Int32) (l4 : Int32) (l5 : Int32) (s0 : Nat) (h : LH) : Option (Int32 × LH) :=
 F_Mod_span_b40  l0 l1 l2 l3 l4 l5 s0 (1 : Int32) h
set_option maxRecDepth 100000 in
theorem F_Mod_span_b35_ok {d : Nat} {q : (Int32 × LH)} (hd : 9 ≤ d) {l0 : Nat} {l1 : Int32} {l2 : Int32} {l3 : Int32} {l4 : Int32} {l5 : Int32} {s0 : Nat} {u6 : Value} {u7 : Value} {u8 : Value} {u9 : Value} {u10 : Value} {h : LH} : F_Mod_span_b35 l0 l1 l2 l3 l4 l5 s0 h = some q → JR d jM_276 35 [.ref l0, .int l1, .int l2, .int l3, .int l4, .int l5, u6, u7, u8, u9, u10] [.ref s0] h (jo_i q) := by
 unfold F_Mod_span_b35
 exact jr_iconst 35 36 (1 : Int32) rfl jc_i_1 rfl
  (jr_goto 36 40 rfl rfl
  ((F_Mod_span_b40_ok hd )))
noncomputable def F_Mod_span (l0 : Nat) (l1 : Int32) (l2 : Int32) (l3 : Int32) (l4 : Int32) (l5 : Int32) (h : LH) : Option (Int32 × LH) :=
 jf_pi h l0 11 0 (0 : Int32) fun h1 =>
 jf_bi (F_Mod_in l2 (1 : Int32) (20 : Int32) h1) fun v2 h3 =>
 if v2 = 0 then
 F_Mod_span_b35  l0 l1 l2 l3 l4 l5 l0 h3
else
 jf_bi (F_Mod_areDays l3 l4 h3) fun v4 h5 =>
 if v4 = 0 then
 F_Mod_span_b35  l0 l1 l2 l3 l4 l5 l0 h5
else
 jf_bi (F_Mod_in l5 (0 : Int32) (2 : Int32) h5) fun v6 h7 =>
 if v6 = 0 then
 F_Mod_span_b35  l0 l1 l2 l3 l4 l5 l0 h7
else
 F_Mod_span_b40  l0 l1 l2 l3 l4 l5 l0 (0 : Int32) h7
set_option maxRecDepth 100000 in
theorem F_Mod_span_ok {d : Nat} (hd : 10 ≤ d) {l0 : Nat} {l1 : Int32} {l2 : Int32} {l3 : Int32} {l4 : Int32} {l5 : Int32} {h : LH} {q : (Int32 × LH)} : F_Mod_span l0 l1 l2 l3 l4 l5 h = some q → jl_Sem jt_T jt_Ms d 276 [.ref l0, .int l1, .int l2, .int l3, .int l4, .int l5] h (jo_i q) := by
 unfold F_Mod_span
 exact jr_enter (D := 9) hd jM_276_at rfl rfl rfl (fun d hd =>
  jr_aloadn 0 1 rfl rfl rfl
  (jr_iconst 1 2 (0 : Int32) rfl jc_i_0 rfl
  (jr_pi 2 5 rfl jg_11_109_3 rfl (fun h1 =>
  jr_aloadn 5 6 rfl rfl rfl
  (jr_iloadn 6 7 rfl rfl rfl
  (jr_iconst 7 8 (1 : Int32) rfl jc_i_1 rfl
  (jr_bipush 8 10 (20 : Int32) rfl jc_b_20 rfl
  (jr_cSi 10 13 [.ref l0] rfl rfl rfl rfl rfl rfl rfl (as := [.int l2, .int (1 : Int32), .int (20 : Int32)]) (F_Mod_in_ok (Nat.le_trans (by decide : 1 ≤ 9) hd)) (fun v2 h3 =>
  jr_if_eq 13 35 16 rfl rfl rfl
  ((F_Mod_span_b35_ok hd ))
  (jr_iloadn 16 17 rfl rfl rfl
  (jr_iload 17 19 rfl rfl rfl
  (jr_cSi 19 22 [.ref l0] rfl rfl rfl rfl rfl rfl rfl (as := [.int l3, .int l4]) (F_Mod_areDays_ok (Nat.le_trans (by decide : 2 ≤ 9) hd)) (fun v4 h5 =>
  jr_if_eq 22 35 25 rfl rfl rfl
  ((F_Mod_span_b35_ok hd ))
  (jr_iload 25 27 rfl rfl rfl
  (jr_iconst 27 28 (0 : Int32) rfl jc_i_0 rfl
  (jr_iconst 28 29 (2 : Int32) rfl jc_i_2 rfl
  (jr_cSi 29 32 [.ref l0] rfl rfl rfl rfl rfl rfl rfl (as := [.int l5, .int (0 : Int32), .int (2 : Int32)]) (F_Mod_in_ok (Nat.le_trans (by decide : 1 ≤ 9) hd)) (fun v6 h7 =>
  jr_if_ne 32 39 35 rfl rfl rfl
  (jr_iconst 39 40 (0 : Int32) rfl jc_i_0 rfl
  ((F_Mod_span_b40_ok hd )))
  ((F_Mod_span_b35_ok hd ))))))))))))))))))))
noncomputable def jM_279 : JMeth := (11, false, 1, jk_279, [], 4)
set_option maxRecDepth 100000 in
theorem jM_279_at : jt_Ms 279 = some jM_279 := rfl
noncomputable def F_Mod_puts_b11 (l0 : Nat) (l1 : Nat) (h : LH) : Option (Int32 × LH) :=
 jf_gi h l0 11 43 fun v1 =>
 jf_pi h l0 11 43 (v1 + (1 : Int32)) fun h2 =>
 jf_gi h2 l0 11 43 fun v3 =>
 jf_ia h2 l1 (v3 - (1 : Int32)) fun v4 =>
 some (v4, h2)
set_option maxRecDepth 100000 in
theorem F_Mod_puts_b11_ok {d : Nat} {q : (Int32 × LH)} (hd : 0 ≤ d) {l0 : Nat} {l1 : Nat} {u2 : Value} {u3 : Value} {h : LH} : F_Mod_puts_b11 l0 l1 h = some q → JR d jM_279 11 [.ref l0, .ref l1, u2, u3] [] h (jo_i q) := by
 unfold F_Mod_puts_b11
 exact jr_aloadn 11 12 rfl rfl rfl
  (jr_dup 12 13 rfl rfl rfl
  (jr_gi 13 16 rfl jg_11_423_1 rfl (fun v1 =>
  jr_iconst 16 17 (1 : Int32) rfl jc_i_1 rfl
  (jr_iadd 17 18 rfl rfl
  (jr_pi 18 21 rfl jg_11_423_3 rfl (fun h2 =>
  jr_aloadn 21 22 rfl rfl rfl
  (jr_aloadn 22 23 rfl rfl rfl
  (jr_gi 23 26 rfl jg_11_423_1 rfl (fun v3 =>
  jr_iconst 26 27 (1 : Int32) rfl jc_i_1 rfl
  (jr_isub 27 28 rfl rfl
  (jr_ia 28 29 rfl rfl (fun v4 =>
  jr_ri 29 rfl rfl))))))))))))
noncomputable def F_Mod_puts (l0 : Nat) (l1 : Nat) (l2 : Int32) (l3 : Int32) (h : LH) : Option (Int32 × LH) :=
 if l3 = 0 then
 jf_gi h l0 11 43 fun v1 =>
 jf_is h l1 v1 l2 fun h2 =>
 F_Mod_puts_b11  l0 l1 h2
else
 F_Mod_puts_b11  l0 l1 h
set_option maxRecDepth 100000 in
theorem F_Mod_puts_ok {d : Nat} (hd : 1 ≤ d) {l0 : Nat} {l1 : Nat} {l2 : Int32} {l3 : Int32} {h : LH} {q : (Int32 × LH)} : F_Mod_puts l0 l1 l2 l3 h = some q → jl_Sem jt_T jt_Ms d 279 [.ref l0, .ref l1, .int l2, .int l3] h (jo_i q) := by
 unfold F_Mod_puts
 exact jr_enter (D := 0) hd jM_279_at rfl rfl rfl (fun d hd =>
  jr_iloadn 0 1 rfl rfl rfl
  (jr_if_ne 1 11 4 rfl rfl rfl
  ((F_Mod_puts_b11_ok hd ))
  (jr_aloadn 4 5 rfl rfl rfl
  (jr_aloadn 5 6 rfl rfl rfl
  (jr_gi 6 9 rfl jg_11_423_1 rfl (fun v1 =>
  jr_iloadn 9 10 rfl rfl rfl
  (jr_is 10 11 rfl rfl (fun h2 =>
  (F_Mod_puts_b11_ok hd )))))))))
noncomputable def jM_278 : JMeth := (11, false, 0, jk_278, [], 5)
set_option maxRecDepth 100000 in
theorem jM_278_at : jt_Ms 278 = some jM_278 := rfl
noncomputable def F_Mod_putsAll_c63 (k54 : Nat → Nat → Int32 → Int32 → LH → Option LH) (k63 : Nat → Nat → Int32 → Int32 → Int32 → LH → Option LH) (l0 : Nat) (l1 : Nat) (l2 : Int32) (l3 : Int32) (l4 : Int32) (h : LH) : Option LH :=
 if l4 < (134 : Int32) then
 jf_gr h l0 11 37 fun v1 =>
 jf_aa h v1 l3 fun v2 =>
 jf_gr h l0 11 37 fun v3 =>
 jf_aa h v3 l3 fun v4 =>
 jf_ia h v4 l4 fun v5 =>
 jf_kd h l0 11
 (jf_bi (F_Mod_puts l0 l1 v5 l2 h) fun v6 h7 =>
 jf_is h7 v2 l4 v6 fun h8 =>
 k63 l0 l1 l2 l3 (l4 + (1 : Int32)) h8)
else
 k54 l0 l1 l2 (l3 + (1 : Int32)) h
set_option maxRecDepth 100000 in
theorem F_Mod_putsAll_c63_ok {d : Nat} {q : LH} {k54 : Nat → Nat → Int32 → Int32 → LH → Option LH} {k63 : Nat → Nat → Int32 → Int32 → Int32 → LH → Option LH} (hd : 1 ≤ d) (hk54 : ∀ (l0 : Nat) (l1 : Nat) (l2 : Int32) (l3 : Int32) (u4 : Value) (h : LH), k54 l0 l1 l2 l3 h = some q → JR d jM_278 54 [.ref l0, .ref l1, .int l2, .int l3, u4] [] h (jo_v q)) (hk63 : ∀ (l0 : Nat) (l1 : Nat) (l2 : Int32) (l3 : Int32) (l4 : Int32) (h : LH), k63 l0 l1 l2 l3 l4 h = some q → JR d jM_278 63 [.ref l0, .ref l1, .int l2, .int l3, .int l4] [] h (jo_v q)) {l0 : Nat} {l1 : Nat} {l2 : Int32} {l3 : Int32} {l4 : Int32} {h : LH} : F_Mod_putsAll_c63 k54 k63 l0 l1 l2 l3 l4 h = some q → JR d jM_278 63 [.ref l0, .ref l1, .int l2, .int l3, .int l4] [] h (jo_v q) := by
 unfold F_Mod_putsAll_c63
 exact jr_iload 63 65 rfl rfl rfl
  (jr_sipush 65 68 (134 : Int32) rfl jc_s_134 rfl
  (jr_icmp_ge 68 101 71 rfl rfl rfl
  (jr_iinc 101 104 [.ref l0, .ref l1, .int l2, .int (l3 + (1 : Int32)), .int l4] rfl jc_i_1 rfl rfl rfl rfl
  (jr_goto 104 54 rfl rfl
  ((hk54 _ _ _ _ _ _))))
  (jr_aloadn 71 72 rfl rfl rfl
  (jr_gr 72 75 rfl jg_11_91_2 rfl (fun v1 =>
  jr_iloadn 75 76 rfl rfl rfl
  (jr_aa 76 77 rfl rfl (fun v2 =>
  jr_iload 77 79 rfl rfl rfl
  (jr_aloadn 79 80 rfl rfl rfl
  (jr_aloadn 80 81 rfl rfl rfl
  (jr_aloadn 81 82 rfl rfl rfl
  (jr_gr 82 85 rfl jg_11_91_2 rfl (fun v3 =>
  jr_iloadn 85 86 rfl rfl rfl
  (jr_aa 86 87 rfl rfl (fun v4 =>
  jr_iload 87 89 rfl rfl rfl
  (jr_ia 89 90 rfl rfl (fun v5 =>
  jr_iloadn 90 91 rfl rfl rfl
  (jr_cVi 91 94 [.int l4, .ref v2] rfl rfl rfl rfl rfl rfl rfl rfl (as := [.ref l1, .int v5, .int l2]) (F_Mod_puts_ok (Nat.le_trans (by decide : 1 ≤ 1) hd)) (fun v6 h7 =>
  jr_is 94 95 rfl rfl (fun h8 =>
  jr_iinc 95 98 [.ref l0, .ref l1, .int l2, .int l3, .int (l4 + (1 : Int32))] rfl jc_i_1 rfl rfl rfl rfl
  (jr_goto 98 63 rfl rfl
  ((hk63 _ _ _ _ _ _))))))))))))))))))))))
noncomputable def F_Mod_putsAll_l63 (k54 : Nat → Nat → Int32 → Int32 → LH → Option LH) : Nat → Nat → Nat → Int32 → Int32 → Int32 → LH → Option LH
 | 0, _, _, _, _, _, _ => none
 | n + 1, l0, l1, l2, l3, l4, h => F_Mod_putsAll_c63 k54 (F_Mod_putsAll_l63 k54 n) l0 l1 l2 l3 l4 h
theorem F_Mod_putsAll_l63_ok {d : Nat} {q : LH} {k54 : Nat → Nat → Int32 → Int32 → LH → Option LH} (hd : 1 ≤ d) (hk54 : ∀ (l0 : Nat) (l1 : Nat) (l2 : Int32) (l3 : Int32) (u4 : Value) (h : LH), k54 l0 l1 l2 l3 h = some q → JR d jM_278 54 [.ref l0, .ref l1, .int l2, .int l3, u4] [] h (jo_v q)) : ∀ (n : Nat) (l0 : Nat) (l1 : Nat) (l2 : Int32) (l3 : Int32) (l4 : Int32) (h : LH), F_Mod_putsAll_l63 k54 n l0 l1 l2 l3 l4 h = some q → JR d jM_278 63 [.ref l0, .ref l1, .int l2, .int l3, .int l4] [] h (jo_v q)
 | 0 => fun _ _ _ _ _ _ hq => nomatch (show (none : Option LH) = some q from hq)
 | n + 1 => fun _ _ _ _ _ _ hq => F_Mod_putsAll_c63_ok hd hk54 (F_Mod_putsAll_l63_ok hd hk54 n) hq
noncomputable def F_Mod_putsAll_c54 (k54 : Nat → Nat → Int32 → Int32 → LH → Option LH) (l0 : Nat) (l1 : Nat) (l2 : Int32) (l3 : Int32) (h : LH) : Option LH :=
 if l3 < (16 : Int32) then
 F_Mod_putsAll_l63 k54 jF l0 l1 l2 l3 (0 : Int32) h
else
 some h
set_option maxRecDepth 100000 in
theorem F_Mod_putsAll_c54_ok {d : Nat} {q : LH} {k54 : Nat → Nat → Int32 → Int32 → LH → Option LH} (hd : 1 ≤ d) (hk54 : ∀ (l0 : Nat) (l1 : Nat) (l2 : Int32) (l3 : Int32) (u4 : Value) (h : LH), k54 l0 l1 l2 l3 h = some q → JR d jM_278 54 [.ref l0, .ref l1, .int l2, .int l3, u4] [] h (jo_v q)) {l0 : Nat} {l1 : Nat} {l2 : Int32} {l3 : Int32} {u4 : Value} {h : LH} : F_Mod_putsAll_c54 k54 l0 l1 l2 l3 h = some q → JR d jM_278 54 [.ref l0, .ref l1, .int l2, .int l3, u4] [] h (jo_v q) := by
 unfold F_Mod_putsAll_c54
 exact jr_iloadn 54 55 rfl rfl rfl
  (jr_bipush 55 57 (16 : Int32) rfl jc_b_16 rfl
  (jr_icmp_ge 57 107 60 rfl rfl rfl
  (jr_rv 107 rfl rfl)
  (jr_iconst 60 61 (0 : Int32) rfl jc_i_0 rfl
  (jr_istore 61 63 [.ref l0, .ref l1, .int l2, .int l3, .int (0 : Int32)] rfl rfl rfl rfl
  ((F_Mod_putsAll_l63_ok hd hk54 jF _ _ _ _ _ _))))))
noncomputable def F_Mod_putsAll_l54 : Nat → Nat → Nat → Int32 → Int32 → LH → Option LH
 | 0, _, _, _, _, _ => none
 | n + 1, l0, l1, l2, l3, h => F_Mod_putsAll_c54 (F_Mod_putsAll_l54 n) l0 l1 l2 l3 h
theorem F_Mod_putsAll_l54_ok {d : Nat} {q : LH} (hd : 1 ≤ d) : ∀ (n : Nat) (l0 : Nat) (l1 : Nat) (l2 : Int32) (l3 : Int32) (u4 : Value) (h : LH), F_Mod_putsAll_l54 n l0 l1 l2 l3 h = some q → JR d jM_278 54 [.ref l0, .ref l1, .int l2, .int l3, u4] [] h (jo_v q)
 | 0 => fun _ _ _ _ _ _ hq => nomatch (show (none : Option LH) = some q from hq)
 | n + 1 => fun _ _ _ _ _ _ hq => F_Mod_putsAll_c54_ok hd (F_Mod_putsAll_l54_ok hd n) hq
noncomputable def F_Mod_putsAll_c21 (k21 : Nat → Nat → Int32 → Int32 → LH → Option LH) (l0 : Nat) (l1 : Nat) (l2 : Int32) (l3 : Int32) (h : LH) : Option LH :=
 if l3 < (134 : Int32) then
 jf_gr h l0 11 35 fun v1 =>
 jf_gr h l0 11 35 fun v2 =>
 jf_ia h v2 l3 fun v3 =>
 jf_kd h l0 11
 (jf_bi (F_Mod_puts l0 l1 v3 l2 h) fun v4 h5 =>
 jf_is h5 v1 l3 v4 fun h6 =>
 k21 l0 l1 l2 (l3 + (1 : Int32)) h6)
else
 F_Mod_putsAll_l54  jF l0 l1 l2 (0 : Int32) h
set_option maxRecDepth 100000 in
theorem F_Mod_putsAll_c21_ok {d : Nat} {q : LH} {k21 : Nat → Nat → Int32 → Int32 → LH → Option LH} (hd : 1 ≤ d) (hk21 : ∀ (l0 : Nat) (l1 : Nat) (l2 : Int32) (l3 : Int32) (u4 : Value) (h : LH), k21 l0 l1 l2 l3 h = some q → JR d jM_278 21 [.ref l0, .ref l1, .int l2, .int l3, u4] [] h (jo_v q)) {l0 : Nat} {l1 : Nat} {l2 : Int32} {l3 : Int32} {u4 : Value} {h : LH} : F_Mod_putsAll_c21 k21 l0 l1 l2 l3 h = some q → JR d jM_278 21 [.ref l0, .ref l1, .int l2, .int l3, u4] [] h (jo_v q) := by
 unfold F_Mod_putsAll_c21
 exact jr_iloadn 21 22 rfl rfl rfl
  (jr_sipush 22 25 (134 : Int32) rfl jc_s_134 rfl
  (jr_icmp_ge 25 52 28 rfl rfl rfl
  (jr_iconst 52 53 (0 : Int32) rfl jc_i_0 rfl
  (jr_istoren 53 54 [.ref l0, .ref l1, .int l2, .int (0 : Int32), u4] rfl rfl rfl rfl
  ((F_Mod_putsAll_l54_ok hd  jF _ _ _ _ _ _))))
  (jr_aloadn 28 29 rfl rfl rfl
  (jr_gr 29 32 rfl jg_11_85_2 rfl (fun v1 =>
  jr_iloadn 32 33 rfl rfl rfl
  (jr_aloadn 33 34 rfl rfl rfl
  (jr_aloadn 34 35 rfl rfl rfl
  (jr_aloadn 35 36 rfl rfl rfl
  (jr_gr 36 39 rfl jg_11_85_2 rfl (fun v2 =>
  jr_iloadn 39 40 rfl rfl rfl
  (jr_ia 40 41 rfl rfl (fun v3 =>
  jr_iloadn 41 42 rfl rfl rfl
  (jr_cVi 42 45 [.int l3, .ref v1] rfl rfl rfl rfl rfl rfl rfl rfl (as := [.ref l1, .int v3, .int l2]) (F_Mod_puts_ok (Nat.le_trans (by decide : 1 ≤ 1) hd)) (fun v4 h5 =>
  jr_is 45 46 rfl rfl (fun h6 =>
  jr_iinc 46 49 [.ref l0, .ref l1, .int l2, .int (l3 + (1 : Int32)), u4] rfl jc_i_1 rfl rfl rfl rfl
  (jr_goto 49 21 rfl rfl
  ((hk21 _ _ _ _ _ _))))))))))))))))))
noncomputable def F_Mod_putsAll_l21 : Nat → Nat → Nat → Int32 → Int32 → LH → Option LH
 | 0, _, _, _, _, _ => none
 | n + 1, l0, l1, l2, l3, h => F_Mod_putsAll_c21 (F_Mod_putsAll_l21 n) l0 l1 l2 l3 h
theorem F_Mod_putsAll_l21_ok {d : Nat} {q : LH} (hd : 1 ≤ d) : ∀ (n : Nat) (l0 : Nat) (l1 : Nat) (l2 : Int32) (l3 : Int32) (u4 : Value) (h : LH), F_Mod_putsAll_l21 n l0 l1 l2 l3 h = some q → JR d jM_278 21 [.ref l0, .ref l1, .int l2, .int l3, u4] [] h (jo_v q)
 | 0 => fun _ _ _ _ _ _ hq => nomatch (show (none : Option LH) = some q from hq)
 | n + 1 => fun _ _ _ _ _ _ hq => F_Mod_putsAll_c21_ok hd (F_Mod_putsAll_l21_ok hd n) hq
noncomputable def F_Mod_putsAll (l0 : Nat) (l1 : Nat) (l2 : Int32) (h : LH) : Option LH :=
 jf_pi h l0 11 43 (0 : Int32) fun h1 =>
 jf_gi h1 l0 11 40 fun v2 =>
 jf_kd h1 l0 11
 (jf_bi (F_Mod_puts l0 l1 v2 l2 h1) fun v3 h4 =>
 jf_pi h4 l0 11 40 v3 fun h5 =>
 F_Mod_putsAll_l21  jF l0 l1 l2 (0 : Int32) h5)
set_option maxRecDepth 100000 in
theorem F_Mod_putsAll_ok {d : Nat} (hd : 2 ≤ d) {l0 : Nat} {l1 : Nat} {l2 : Int32} {h : LH} {q : LH} : F_Mod_putsAll l0 l1 l2 h = some q → jl_Sem jt_T jt_Ms d 278 [.ref l0, .ref l1, .int l2] h (jo_v q) := by
 unfold F_Mod_putsAll
 exact jr_enter (D := 1) hd jM_278_at rfl rfl rfl (fun d hd =>
  jr_aloadn 0 1 rfl rfl rfl
  (jr_iconst 1 2 (0 : Int32) rfl jc_i_0 rfl
  (jr_pi 2 5 rfl jg_11_423_3 rfl (fun h1 =>
  jr_aloadn 5 6 rfl rfl rfl
  (jr_aloadn 6 7 rfl rfl rfl
  (jr_aloadn 7 8 rfl rfl rfl
  (jr_aloadn 8 9 rfl rfl rfl
  (jr_gi 9 12 rfl jg_11_208_1 rfl (fun v2 =>
  jr_iloadn 12 13 rfl rfl rfl
  (jr_cVi 13 16 [.ref l0] rfl rfl rfl rfl rfl rfl rfl rfl (as := [.ref l1, .int v2, .int l2]) (F_Mod_puts_ok (Nat.le_trans (by decide : 1 ≤ 1) hd)) (fun v3 h4 =>
  jr_pi 16 19 rfl jg_11_208_3 rfl (fun h5 =>
  jr_iconst 19 20 (0 : Int32) rfl jc_i_0 rfl
  (jr_istoren 20 21 [.ref l0, .ref l1, .int l2, .int (0 : Int32), .retAddr 0] rfl rfl rfl rfl
  ((F_Mod_putsAll_l21_ok hd  jF _ _ _ _ _ _)))))))))))))))
noncomputable def jM_277 : JMeth := (11, false, 1, jk_277, [], 1)
set_option maxRecDepth 100000 in
theorem jM_277_at : jt_Ms 277 = some jM_277 := rfl
noncomputable def F_Mod_image (l0 : Nat) (h : LH) : Option (Int32 × LH) :=
 jf_pi h l0 11 0 (0 : Int32) fun h1 =>
 jf_gi h1 l0 11 42 fun v2 =>
 if v2 = (3 : Int32) then
 some ((-1 : Int32), h1)
else
 jf_gr h1 l0 11 38 fun v3 =>
 jf_gi h1 l0 11 42 fun v4 =>
 jf_aa h1 v3 v4 fun v5 =>
 jf_kd h1 l0 11
 ((F_Mod_putsAll l0 v5 (0 : Int32) h1).bind fun h6 =>
 jf_gi h6 l0 11 42 fun v7 =>
 jf_pi h6 l0 11 42 (v7 + (1 : Int32)) fun h8 =>
 jf_gi h8 l0 11 42 fun v9 =>
 some (v9, h8))
set_option maxRecDepth 100000 in
theorem F_Mod_image_ok {d : Nat} (hd : 3 ≤ d) {l0 : Nat} {h : LH} {q : (Int32 × LH)} : F_Mod_image l0 h = some q → jl_Sem jt_T jt_Ms d 277 [.ref l0] h (jo_i q) := by
 unfold F_Mod_image
 exact jr_enter (D := 2) hd jM_277_at rfl rfl rfl (fun d hd =>
  jr_aloadn 0 1 rfl rfl rfl
  (jr_iconst 1 2 (0 : Int32) rfl jc_i_0 rfl
  (jr_pi 2 5 rfl jg_11_109_3 rfl (fun h1 =>
  jr_aloadn 5 6 rfl rfl rfl
  (jr_gi 6 9 rfl jg_11_214_1 rfl (fun v2 =>
  jr_iconst 9 10 (3 : Int32) rfl jc_i_3 rfl
  (jr_icmp_ne 10 15 13 rfl rfl rfl
  (jr_aloadn 15 16 rfl rfl rfl
  (jr_aloadn 16 17 rfl rfl rfl
  (jr_gr 17 20 rfl jg_11_94_2 rfl (fun v3 =>
  jr_aloadn 20 21 rfl rfl rfl
  (jr_gi 21 24 rfl jg_11_214_1 rfl (fun v4 =>
  jr_aa 24 25 rfl rfl (fun v5 =>
  jr_iconst 25 26 (0 : Int32) rfl jc_i_0 rfl
  (jr_cVv 26 29 [] rfl rfl rfl rfl rfl rfl rfl rfl (as := [.ref v5, .int (0 : Int32)]) (F_Mod_putsAll_ok (Nat.le_trans (by decide : 2 ≤ 2) hd)) (fun h6 =>
  jr_aloadn 29 30 rfl rfl rfl
  (jr_dup 30 31 rfl rfl rfl
  (jr_gi 31 34 rfl jg_11_214_1 rfl (fun v7 =>
  jr_iconst 34 35 (1 : Int32) rfl jc_i_1 rfl
  (jr_iadd 35 36 rfl rfl
  (jr_pi 36 39 rfl jg_11_214_3 rfl (fun h8 =>
  jr_aloadn 39 40 rfl rfl rfl
  (jr_gi 40 43 rfl jg_11_214_1 rfl (fun v9 =>
  jr_ri 43 rfl rfl)))))))))))))))))
  (jr_iconst 13 14 (-1 : Int32) rfl jc_i_m1 rfl
  (jr_ri 14 rfl rfl)))))))))
noncomputable def jM_280 : JMeth := (11, false, 1, jk_280, [], 1)
set_option maxRecDepth 100000 in
theorem jM_280_at : jt_Ms 280 = some jM_280 := rfl
noncomputable def F_Mod_restore (l0 : Nat) (h : LH) : Option (Int32 × LH) :=
 jf_pi h l0 11 0 (0 : Int32) fun h1 =>
 jf_gi h1 l0 11 42 fun v2 =>
 if v2 = 0 then
 some ((-1 : Int32), h1)
else
 jf_gi h1 l0 11 42 fun v3 =>
 jf_pi h1 l0 11 42 (v3 - (1 : Int32)) fun h4 =>
 jf_gr h4 l0 11 38 fun v5 =>
 jf_gi h4 l0 11 42 fun v6 =>
 jf_aa h4 v5 v6 fun v7 =>
 jf_kd h4 l0 11
 ((F_Mod_putsAll l0 v7 (1 : Int32) h4).bind fun h8 =>
 jf_pi h8 l0 11 41 (0 : Int32) fun h9 =>
 jf_gi h9 l0 11 42 fun v10 =>
 some (v10, h9))
set_option maxRecDepth 100000 in
theorem F_Mod_restore_ok {d : Nat} (hd : 3 ≤ d) {l0 : Nat} {h : LH} {q : (Int32 × LH)} : F_Mod_restore l0 h = some q → jl_Sem jt_T jt_Ms d 280 [.ref l0] h (jo_i q) := by
 unfold F_Mod_restore
 exact jr_enter (D := 2) hd jM_280_at rfl rfl rfl (fun d hd =>
  jr_aloadn 0 1 rfl rfl rfl
  (jr_iconst 1 2 (0 : Int32) rfl jc_i_0 rfl
  (jr_pi 2 5 rfl jg_11_109_3 rfl (fun h1 =>
  jr_aloadn 5 6 rfl rfl rfl
  (jr_gi 6 9 rfl jg_11_214_1 rfl (fun v2 =>
  jr_if_ne 9 14 12 rfl rfl rfl
  (jr_aloadn 14 15 rfl rfl rfl
  (jr_dup 15 16 rfl rfl rfl
  (jr_gi 16 19 rfl jg_11_214_1 rfl (fun v3 =>
  jr_iconst 19 20 (1 : Int32) rfl jc_i_1 rfl
  (jr_isub 20 21 rfl rfl
  (jr_pi 21 24 rfl jg_11_214_3 rfl (fun h4 =>
  jr_aloadn 24 25 rfl rfl rfl
  (jr_aloadn 25 26 rfl rfl rfl
  (jr_gr 26 29 rfl jg_11_94_2 rfl (fun v5 =>
  jr_aloadn 29 30 rfl rfl rfl
  (jr_gi 30 33 rfl jg_11_214_1 rfl (fun v6 =>
  jr_aa 33 34 rfl rfl (fun v7 =>
  jr_iconst 34 35 (1 : Int32) rfl jc_i_1 rfl
  (jr_cVv 35 38 [] rfl rfl rfl rfl rfl rfl rfl rfl (as := [.ref v7, .int (1 : Int32)]) (F_Mod_putsAll_ok (Nat.le_trans (by decide : 2 ≤ 2) hd)) (fun h8 =>
  jr_aloadn 38 39 rfl rfl rfl
  (jr_iconst 39 40 (0 : Int32) rfl jc_i_0 rfl
  (jr_pi 40 43 rfl jg_11_211_3 rfl (fun h9 =>
  jr_aloadn 43 44 rfl rfl rfl
  (jr_gi 44 47 rfl jg_11_214_1 rfl (fun v10 =>
  jr_ri 47 rfl rfl))))))))))))))))))))
  (jr_iconst 12 13 (-1 : Int32) rfl jc_i_m1 rfl
  (jr_ri 13 rfl rfl))))))))
noncomputable def jM_281 : JMeth := (11, false, 1, jk_281, [], 2)
set_option maxRecDepth 100000 in
theorem jM_281_at : jt_Ms 281 = some jM_281 := rfl
noncomputable def F_Mod_status_b24 (s0 : Int32) (h : LH) : Option (Int32 × LH) :=
 some (s0, h)
set_option maxRecDepth 100000 in
theorem F_Mod_status_b24_ok {d : Nat} {q : (Int32 × LH)} (hd : 1 ≤ d) {s0 : Int32} {u0 : Value} {u1 : Value} {h : LH} : F_Mod_status_b24 s0 h = some q → JR d jM_281 24 [u0, u1] [.int s0] h (jo_i q) := by
 unfold F_Mod_status_b24
 exact jr_ri 24 rfl rfl
noncomputable def F_Mod_status (l0 : Nat) (l1 : Int32) (h : LH) : Option (Int32 × LH) :=
 jf_pi h l0 11 0 (0 : Int32) fun h1 =>
 jf_bi (F_Mod_in l1 (0 : Int32) (1 : Int32) h1) fun v2 h3 =>
 if v2 = 0 then
 F_Mod_status_b24  (-1 : Int32) h3
else
 jf_gr h3 l0 11 10 fun v4 =>
 jf_ia h3 v4 l1 fun v5 =>
 F_Mod_status_b24  v5 h3
set_option maxRecDepth 100000 in
theorem F_Mod_status_ok {d : Nat} (hd : 2 ≤ d) {l0 : Nat} {l1 : Int32} {h : LH} {q : (Int32 × LH)} : F_Mod_status l0 l1 h = some q → jl_Sem jt_T jt_Ms d 281 [.ref l0, .int l1] h (jo_i q) := by
 unfold F_Mod_status
 exact jr_enter (D := 1) hd jM_281_at rfl rfl rfl (fun d hd =>
  jr_aloadn 0 1 rfl rfl rfl
  (jr_iconst 1 2 (0 : Int32) rfl jc_i_0 rfl
  (jr_pi 2 5 rfl jg_11_109_3 rfl (fun h1 =>
  jr_iloadn 5 6 rfl rfl rfl
  (jr_iconst 6 7 (0 : Int32) rfl jc_i_0 rfl
  (jr_iconst 7 8 (1 : Int32) rfl jc_i_1 rfl
  (jr_cSi 8 11 [] rfl rfl rfl rfl rfl rfl rfl (as := [.int l1, .int (0 : Int32), .int (1 : Int32)]) (F_Mod_in_ok (Nat.le_trans (by decide : 1 ≤ 1) hd)) (fun v2 h3 =>
  jr_if_eq 11 23 14 rfl rfl rfl
  (jr_iconst 23 24 (-1 : Int32) rfl jc_i_m1 rfl
  ((F_Mod_status_b24_ok hd )))
  (jr_aloadn 14 15 rfl rfl rfl
  (jr_gr 15 18 rfl jg_11_17_2 rfl (fun v4 =>
  jr_iloadn 18 19 rfl rfl rfl
  (jr_ia 19 20 rfl rfl (fun v5 =>
  jr_goto 20 24 rfl rfl
  ((F_Mod_status_b24_ok hd )))))))))))))))
noncomputable def jM_282 : JMeth := (11, false, 1, jk_282, [], 2)
set_option maxRecDepth 100000 in
theorem jM_282_at : jt_Ms 282 = some jM_282 := rfl
noncomputable def F_Mod_count_b41 (s0 : Int32) (h : LH) : Option (Int32 × LH) :=
 some (s0, h)
set_option maxRecDepth 100000 in
theorem F_Mod_count_b41_ok {d : Nat} {q : (Int32 × LH)} (hd : 0 ≤ d) {s0 : Int32} {u0 : Value} {u1 : Value} {h : LH} : F_Mod_count_b41 s0 h = some q → JR d jM_282 41 [u0, u1] [.int s0] h (jo_i q) := by
 unfold F_Mod_count_b41
 exact jr_ri 41 rfl rfl
noncomputable def F_Mod_count (l0 : Nat) (l1 : Int32) (h : LH) : Option (Int32 × LH) :=
 jf_pi h l0 11 0 (0 : Int32) fun h1 =>
 if l1 = 0 then
 jf_gi h1 l0 11 42 fun v4 =>
 F_Mod_count_b41  v4 h1
else
 if l1 = (1 : Int32) then
 jf_gi h1 l0 11 1 fun v3 =>
 F_Mod_count_b41  v3 h1
else
 if l1 = (2 : Int32) then
 jf_gi h1 l0 11 40 fun v2 =>
 F_Mod_count_b41  v2 h1
else
 F_Mod_count_b41  (-1 : Int32) h1
set_option maxRecDepth 100000 in
theorem F_Mod_count_ok {d : Nat} (hd : 1 ≤ d) {l0 : Nat} {l1 : Int32} {h : LH} {q : (Int32 × LH)} : F_Mod_count l0 l1 h = some q → jl_Sem jt_T jt_Ms d 282 [.ref l0, .int l1] h (jo_i q) := by
 unfold F_Mod_count
 exact jr_enter (D := 0) hd jM_282_at rfl rfl rfl (fun d hd =>
  jr_aloadn 0 1 rfl rfl rfl
  (jr_iconst 1 2 (0 : Int32) rfl jc_i_0 rfl
  (jr_pi 2 5 rfl jg_11_109_3 rfl (fun h1 =>
  jr_iloadn 5 6 rfl rfl rfl
  (jr_if_ne 6 16 9 rfl rfl rfl
  (jr_iloadn 16 17 rfl rfl rfl
  (jr_iconst 17 18 (1 : Int32) rfl jc_i_1 rfl
  (jr_icmp_ne 18 28 21 rfl rfl rfl
  (jr_iloadn 28 29 rfl rfl rfl
  (jr_iconst 29 30 (2 : Int32) rfl jc_i_2 rfl
  (jr_icmp_ne 30 40 33 rfl rfl rfl
  (jr_iconst 40 41 (-1 : Int32) rfl jc_i_m1 rfl
  ((F_Mod_count_b41_ok hd )))
  (jr_aloadn 33 34 rfl rfl rfl
  (jr_gi 34 37 rfl jg_11_208_1 rfl (fun v2 =>
  jr_goto 37 41 rfl rfl
  ((F_Mod_count_b41_ok hd ))))))))
  (jr_aloadn 21 22 rfl rfl rfl
  (jr_gi 22 25 rfl jg_11_112_1 rfl (fun v3 =>
  jr_goto 25 41 rfl rfl
  ((F_Mod_count_b41_ok hd ))))))))
  (jr_aloadn 9 10 rfl rfl rfl
  (jr_gi 10 13 rfl jg_11_214_1 rfl (fun v4 =>
  jr_goto 13 41 rfl rfl
  ((F_Mod_count_b41_ok hd ))))))))))
noncomputable def jM_283 : JMeth := (12, false, 1, jk_283, [(1, 12)], 4)
set_option maxRecDepth 100000 in
theorem jM_283_at : jt_Ms 283 = some jM_283 := rfl
noncomputable def F_Chk_town (l0 : Nat) (l1 : Int32) (l2 : Nat) (h : LH) : Option (Int32 × LH) :=
 jf_kd h l0 10
 (jf_ct (F_SG_town l0 l1 h) (fun v1 h2 =>
 jf_ls h2 l2 (0 : Int32) (v1).toInt64 fun h3 =>
 some ((0 : Int32), h3))
 (fun _ => none) (fun h4 =>
 some ((1 : Int32), h4)))
set_option maxRecDepth 100000 in
theorem F_Chk_town_ok {d : Nat} (hd : 9 ≤ d) {l0 : Nat} {l1 : Int32} {l2 : Nat} {h : LH} {q : (Int32 × LH)} : F_Chk_town l0 l1 l2 h = some q → jl_Sem jt_T jt_Ms d 283 [.ref l0, .int l1, .ref l2] h (jo_i q) := by
 unfold F_Chk_town
 exact jr_enter (D := 8) hd jM_283_at rfl rfl rfl (fun d hd =>
  jr_aloadn 0 1 rfl rfl rfl
  (jr_iconst 1 2 (0 : Int32) rfl jc_i_0 rfl
  (jr_aloadn 2 3 rfl rfl rfl
  (jr_iloadn 3 4 rfl rfl rfl
  (jr_cVc 4 7 [.int (0 : Int32), .ref l2] rfl rfl rfl rfl rfl rfl rfl rfl (as := [.int l1]) (n0 := 0) (l0 := []) (n1 := 13) (l1 := [.ref l0, .int l1, .ref l2, .retAddr 0]) (F_SG_town_ok (Nat.le_trans (by decide : 8 ≤ 8) hd)) (fun v1 h2 =>
  jr_i2l 7 8 rfl rfl
  (jr_ls 8 9 rfl rfl (fun h3 =>
  jr_goto 9 15 rfl rfl
  (jr_iconst 15 16 (0 : Int32) rfl jc_i_0 rfl
  (jr_ri 16 rfl rfl)))))
  (Or.inl fun _ => rfl) (Or.inr ⟨rfl, fun h4 =>
  jr_iconst 13 14 (1 : Int32) rfl jc_i_1 rfl
  (jr_ri 14 rfl rfl)⟩))))))
noncomputable def jM_284 : JMeth := (12, false, 1, jk_284, [(1, 12)], 4)
set_option maxRecDepth 100000 in
theorem jM_284_at : jt_Ms 284 = some jM_284 := rfl
noncomputable def F_Chk_law (l0 : Nat) (l1 : Int32) (l2 : Nat) (h : LH) : Option (Int32 × LH) :=
 jf_kd h l0 10
 (jf_ct (F_SG_law l0 l1 h) (fun v1 h2 =>
 jf_ls h2 l2 (0 : Int32) (v1).toInt64 fun h3 =>
 some ((0 : Int32), h3))
 (fun _ => none) (fun h4 =>
 some ((1 : Int32), h4)))
set_option maxRecDepth 100000 in
theorem F_Chk_law_ok {d : Nat} (hd : 183 ≤ d) {l0 : Nat} {l1 : Int32} {l2 : Nat} {h : LH} {q : (Int32 × LH)} : F_Chk_law l0 l1 l2 h = some q → jl_Sem jt_T jt_Ms d 284 [.ref l0, .int l1, .ref l2] h (jo_i q) := by
 unfold F_Chk_law
 exact jr_enter (D := 182) hd jM_284_at rfl rfl rfl (fun d hd =>
  jr_aloadn 0 1 rfl rfl rfl
  (jr_iconst 1 2 (0 : Int32) rfl jc_i_0 rfl
  (jr_aloadn 2 3 rfl rfl rfl
  (jr_iloadn 3 4 rfl rfl rfl
  (jr_cVc 4 7 [.int (0 : Int32), .ref l2] rfl rfl rfl rfl rfl rfl rfl rfl (as := [.int l1]) (n0 := 0) (l0 := []) (n1 := 13) (l1 := [.ref l0, .int l1, .ref l2, .retAddr 0]) (F_SG_law_ok (Nat.le_trans (by decide : 182 ≤ 182) hd)) (fun v1 h2 =>
  jr_i2l 7 8 rfl rfl
  (jr_ls 8 9 rfl rfl (fun h3 =>
  jr_goto 9 15 rfl rfl
  (jr_iconst 15 16 (0 : Int32) rfl jc_i_0 rfl
  (jr_ri 16 rfl rfl)))))
  (Or.inl fun _ => rfl) (Or.inr ⟨rfl, fun h4 =>
  jr_iconst 13 14 (1 : Int32) rfl jc_i_1 rfl
  (jr_ri 14 rfl rfl)⟩))))))
noncomputable def jM_285 : JMeth := (12, false, 1, jk_285, [(1, 12)], 4)
set_option maxRecDepth 100000 in
theorem jM_285_at : jt_Ms 285 = some jM_285 := rfl
noncomputable def F_Chk_work (l0 : Nat) (l1 : Int32) (l2 : Nat) (h : LH) : Option (Int32 × LH) :=
 jf_kd h l0 10
 (jf_ct (F_SG_work l0 l1 h) (fun v1 h2 =>
 jf_ls h2 l2 (0 : Int32) (v1).toInt64 fun h3 =>
 some ((0 : Int32), h3))
 (fun _ => none) (fun h4 =>
 some ((1 : Int32), h4)))
set_option maxRecDepth 100000 in
theorem F_Chk_work_ok {d : Nat} (hd : 143 ≤ d) {l0 : Nat} {l1 : Int32} {l2 : Nat} {h : LH} {q : (Int32 × LH)} : F_Chk_work l0 l1 l2 h = some q → jl_Sem jt_T jt_Ms d 285 [.ref l0, .int l1, .ref l2] h (jo_i q) := by
 unfold F_Chk_work
 exact jr_enter (D := 142) hd jM_285_at rfl rfl rfl (fun d hd =>
  jr_aloadn 0 1 rfl rfl rfl
  (jr_iconst 1 2 (0 : Int32) rfl jc_i_0 rfl
  (jr_aloadn 2 3 rfl rfl rfl
  (jr_iloadn 3 4 rfl rfl rfl
  (jr_cVc 4 7 [.int (0 : Int32), .ref l2] rfl rfl rfl rfl rfl rfl rfl rfl (as := [.int l1]) (n0 := 0) (l0 := []) (n1 := 13) (l1 := [.ref l0, .int l1, .ref l2, .retAddr 0]) (F_SG_work_ok (Nat.le_trans (by decide : 142 ≤ 142) hd)) (fun v1 h2 =>
  jr_i2l 7 8 rfl rfl
  (jr_ls 8 9 rfl rfl (fun h3 =>
  jr_goto 9 15 rfl rfl
  (jr_iconst 15 16 (0 : Int32) rfl jc_i_0 rfl
  (jr_ri 16 rfl rfl)))))
  (Or.inl fun _ => rfl) (Or.inr ⟨rfl, fun h4 =>
  jr_iconst 13 14 (1 : Int32) rfl jc_i_1 rfl
  (jr_ri 14 rfl rfl)⟩))))))
noncomputable def jM_286 : JMeth := (12, false, 1, jk_286, [(1, 12)], 4)
set_option maxRecDepth 100000 in
theorem jM_286_at : jt_Ms 286 = some jM_286 := rfl
noncomputable def F_Chk_book (l0 : Nat) (l1 : Int32) (l2 : Nat) (h : LH) : Option (Int32 × LH) :=
 jf_kd h l0 10
 (jf_ct (F_SG_book l0 l1 h) (fun v1 h2 =>
 jf_ls h2 l2 (0 : Int32) (v1).toInt64 fun h3 =>
 some ((0 : Int32), h3))
 (fun _ => none) (fun h4 =>
 some ((1 : Int32), h4)))
set_option maxRecDepth 100000 in
theorem F_Chk_book_ok {d : Nat} (hd : 7 ≤ d) {l0 : Nat} {l1 : Int32} {l2 : Nat} {h : LH} {q : (Int32 × LH)} : F_Chk_book l0 l1 l2 h = some q → jl_Sem jt_T jt_Ms d 286 [.ref l0, .int l1, .ref l2] h (jo_i q) := by
 unfold F_Chk_book
 exact jr_enter (D := 6) hd jM_286_at rfl rfl rfl (fun d hd =>
  jr_aloadn 0 1 rfl rfl rfl
  (jr_iconst 1 2 (0 : Int32) rfl jc_i_0 rfl
  (jr_aloadn 2 3 rfl rfl rfl
  (jr_iloadn 3 4 rfl rfl rfl
  (jr_cVc 4 7 [.int (0 : Int32), .ref l2] rfl rfl rfl rfl rfl rfl rfl rfl (as := [.int l1]) (n0 := 0) (l0 := []) (n1 := 13) (l1 := [.ref l0, .int l1, .ref l2, .retAddr 0]) (F_SG_book_ok (Nat.le_trans (by decide : 6 ≤ 6) hd)) (fun v1 h2 =>
  jr_i2l 7 8 rfl rfl
  (jr_ls 8 9 rfl rfl (fun h3 =>
  jr_goto 9 15 rfl rfl
  (jr_iconst 15 16 (0 : Int32) rfl jc_i_0 rfl
  (jr_ri 16 rfl rfl)))))
  (Or.inl fun _ => rfl) (Or.inr ⟨rfl, fun h4 =>
  jr_iconst 13 14 (1 : Int32) rfl jc_i_1 rfl
  (jr_ri 14 rfl rfl)⟩))))))
noncomputable def jM_287 : JMeth := (12, false, 1, jk_287, [(1, 12)], 4)
set_option maxRecDepth 100000 in
theorem jM_287_at : jt_Ms 287 = some jM_287 := rfl
noncomputable def F_Chk_told (l0 : Nat) (l1 : Int32) (l2 : Nat) (h : LH) : Option (Int32 × LH) :=
 jf_kd h l0 10
 (jf_ct (F_SG_told l0 l1 h) (fun v1 h2 =>
 jf_ls h2 l2 (0 : Int32) (v1).toInt64 fun h3 =>
 some ((0 : Int32), h3))
 (fun _ => none) (fun h4 =>
 some ((1 : Int32), h4)))
set_option maxRecDepth 100000 in
theorem F_Chk_told_ok {d : Nat} (hd : 6 ≤ d) {l0 : Nat} {l1 : Int32} {l2 : Nat} {h : LH} {q : (Int32 × LH)} : F_Chk_told l0 l1 l2 h = some q → jl_Sem jt_T jt_Ms d 287 [.ref l0, .int l1, .ref l2] h (jo_i q) := by
 unfold F_Chk_told
 exact jr_enter (D := 5) hd jM_287_at rfl rfl rfl (fun d hd =>
  jr_aloadn 0 1 rfl rfl rfl
  (jr_iconst 1 2 (0 : Int32) rfl jc_i_0 rfl
  (jr_aloadn 2 3 rfl rfl rfl
  (jr_iloadn 3 4 rfl rfl rfl
  (jr_cVc 4 7 [.int (0 : Int32), .ref l2] rfl rfl rfl rfl rfl rfl rfl rfl (as := [.int l1]) (n0 := 0) (l0 := []) (n1 := 13) (l1 := [.ref l0, .int l1, .ref l2, .retAddr 0]) (F_SG_told_ok (Nat.le_trans (by decide : 5 ≤ 5) hd)) (fun v1 h2 =>
  jr_i2l 7 8 rfl rfl
  (jr_ls 8 9 rfl rfl (fun h3 =>
  jr_goto 9 15 rfl rfl
  (jr_iconst 15 16 (0 : Int32) rfl jc_i_0 rfl
  (jr_ri 16 rfl rfl)))))
  (Or.inl fun _ => rfl) (Or.inr ⟨rfl, fun h4 =>
  jr_iconst 13 14 (1 : Int32) rfl jc_i_1 rfl
  (jr_ri 14 rfl rfl)⟩))))))
noncomputable def jM_288 : JMeth := (12, false, 1, jk_288, [(0, 13), (1, 17)], 5)
set_option maxRecDepth 100000 in
theorem jM_288_at : jt_Ms 288 = some jM_288 := rfl
noncomputable def F_Chk_gate (l0 : Nat) (l1 : Int32) (l2 : Int32) (l3 : Nat) (h : LH) : Option (Int32 × LH) :=
 jf_kd h l0 10
 (jf_ct (F_SG_gate l0 l1 l2 h) (fun v1 h2 =>
 jf_ls h2 l3 (0 : Int32) (v1).toInt64 fun h3 =>
 some ((0 : Int32), h3))
 (fun h4 =>
 some ((1 : Int32), h4)) (fun h5 =>
 some ((2 : Int32), h5)))
set_option maxRecDepth 100000 in
theorem F_Chk_gate_ok {d : Nat} (hd : 5 ≤ d) {l0 : Nat} {l1 : Int32} {l2 : Int32} {l3 : Nat} {h : LH} {q : (Int32 × LH)} : F_Chk_gate l0 l1 l2 l3 h = some q → jl_Sem jt_T jt_Ms d 288 [.ref l0, .int l1, .int l2, .ref l3] h (jo_i q) := by
 unfold F_Chk_gate
 exact jr_enter (D := 4) hd jM_288_at rfl rfl rfl (fun d hd =>
  jr_aloadn 0 1 rfl rfl rfl
  (jr_iconst 1 2 (0 : Int32) rfl jc_i_0 rfl
  (jr_aloadn 2 3 rfl rfl rfl
  (jr_iloadn 3 4 rfl rfl rfl
  (jr_iloadn 4 5 rfl rfl rfl
  (jr_cVc 5 8 [.int (0 : Int32), .ref l3] rfl rfl rfl rfl rfl rfl rfl rfl (as := [.int l1, .int l2]) (n0 := 15) (l0 := [.ref l0, .int l1, .int l2, .ref l3, .retAddr 0]) (n1 := 19) (l1 := [.ref l0, .int l1, .int l2, .ref l3, .retAddr 0]) (F_SG_gate_ok (Nat.le_trans (by decide : 4 ≤ 4) hd)) (fun v1 h2 =>
  jr_i2l 8 9 rfl rfl
  (jr_ls 9 10 rfl rfl (fun h3 =>
  jr_goto 10 21 rfl rfl
  (jr_iconst 21 22 (0 : Int32) rfl jc_i_0 rfl
  (jr_ri 22 rfl rfl)))))
  (Or.inr ⟨rfl, fun h4 =>
  jr_iconst 15 16 (1 : Int32) rfl jc_i_1 rfl
  (jr_ri 16 rfl rfl)⟩) (Or.inr ⟨rfl, fun h5 =>
  jr_iconst 19 20 (2 : Int32) rfl jc_i_2 rfl
  (jr_ri 20 rfl rfl)⟩)))))))

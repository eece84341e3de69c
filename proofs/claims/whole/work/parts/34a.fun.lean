/-! FUNCTIONS FOR METHODS, by wip/whole/funs.py: F_Book_clear, F_Book_init, F_Book_has, F_Text_failAt, F_Text_fail, F_Text_next, F_Text_number, F_Book_readLine, F_Text_need, F_Book_readFrom, F_Book_isFit, F_Scene_burning, F_Scene_hourNow, F_Scene_standsByLean, F_Scene_woodOf, F_Scene_thickNow, F_Town_windIn, F_Town_rainsIn, F_Scene_look, F_Scene_standsAt, F_Town_scentOfSet, F_Book_fitsOf, F_Book_firstFit, F_Book_tallyFit, F_Book_tallySmells, F_Book_worstSmell, F_Days_init, F_Days_draw, F_Scene_stored, F_Scene_lay, F_Scene_mostStored, F_Days_layOnEmptyFires, F_Law_joined, F_Law_shuts, F_Scene_sense, F_Scene_isShut, F_Scene_came, F_Scene_takeToll, F_Scene_leftOf, F_Scene_burnDown, F_Scene_pass, F_Scene_rainNow, F_Scene_setRainDrawn, F_Days_run, F_Hist_init, F_Scene_loadFrom, F_Hist_pop, F_Hist_copyFrom, F_Scene_saveTo, F_Hist_push, F_Keep_init, F_Keep_tryFrom, F_Keep_search, F_Law_senseCode, F_Law_put, F_Law_setPlain, F_Law_init, F_Text_failNext, F_Law_readBrackets, F_Law_readPair, F_Str_coder, F_Str_length, F_Str_isLatin1, F_Pre_checkIndex, F_Str_checkIndex, F_SL_charAt, F_Str_charAt, F_Text_isWord, F_Law_readSense, F_Text_word, F_Text_isNumberNext, F_Law_readUnit, F_Text_take, F_Law_readProduct, F_Law_readSum, F_Law_readFrom, F_Prog_init, F_Prog_put, F_Prog_readAgain, F_Prog_readStep, F_Prog_readSteps, F_Prog_readFrom, F_Scene_quench, F_Prog_canDo, F_Prog_runSteps, F_Prog_run, F_Scene_init, F_Scene_smokingGates, F_Scene_begin, F_Scene_windNow, F_Scene_allBurning, F_Scene_shutGates, F_Scene_smokeAt, F_Scene_scentAt, F_Scene_burningOf, F_Scene_isShutBy, F_Scene_smokeOfFire, F_Scene_smokeByLean, F_Scene_allStored, F_Scene_firesThatStandAt, F_Scene_comersThat -/
noncomputable def jM_1 : JMeth := (0, false, 0, jk_1, [], 2)
set_option maxRecDepth 100000 in
theorem jM_1_at : jt_Ms 1 = some jM_1 := rfl
noncomputable def F_Book_clear_c7 (k7 : Nat → Int32 → LH → Option LH) (l0 : Nat) (l1 : Int32) (h : LH) : Option LH :=
 if l1 < (9 : Int32) then
 jf_gr h l0 0 0 fun v1 =>
 jf_is h v1 l1 (-1 : Int32) fun h2 =>
 k7 l0 (l1 + (1 : Int32)) h2
else
 some h
set_option maxRecDepth 100000 in
theorem F_Book_clear_c7_ok {d : Nat} {q : LH} {k7 : Nat → Int32 → LH → Option LH} (hd : 0 ≤ d) (hk7 : ∀ (l0 : Nat) (l1 : Int32) (h : LH), k7 l0 l1 h = some q → JR d jM_1 7 [.ref l0, .int l1] [] h (jo_v q)) {l0 : Nat} {l1 : Int32} {h : LH} : F_Book_clear_c7 k7 l0 l1 h = some q → JR d jM_1 7 [.ref l0, .int l1] [] h (jo_v q) := by
 unfold F_Book_clear_c7
 exact jr_iloadn 7 8 rfl rfl rfl
  (jr_bipush 8 10 (9 : Int32) rfl jc_b_9 rfl
  (jr_icmp_ge 10 26 13 rfl rfl rfl
  (jr_rv 26 rfl rfl)
  (jr_aloadn 13 14 rfl rfl rfl
  (jr_gr 14 17 rfl jg_0_9_2 rfl (fun v1 =>
  jr_iloadn 17 18 rfl rfl rfl
  (jr_iconst 18 19 (-1 : Int32) rfl jc_i_m1 rfl
  (jr_is 19 20 rfl rfl (fun h2 =>
  jr_iinc 20 23 [.ref l0, .int (l1 + (1 : Int32))] rfl jc_i_1 rfl rfl rfl rfl
  (jr_goto 23 7 rfl rfl
  ((hk7 _ _ _)))))))))))
noncomputable def F_Book_clear_l7 : Nat → Nat → Int32 → LH → Option LH
 | 0, _, _, _ => none
 | n + 1, l0, l1, h => F_Book_clear_c7 (F_Book_clear_l7 n) l0 l1 h
theorem F_Book_clear_l7_ok {d : Nat} {q : LH} (hd : 0 ≤ d) : ∀ (n : Nat) (l0 : Nat) (l1 : Int32) (h : LH), F_Book_clear_l7 n l0 l1 h = some q → JR d jM_1 7 [.ref l0, .int l1] [] h (jo_v q)
 | 0 => fun _ _ _ hq => nomatch (show (none : Option LH) = some q from hq)
 | n + 1 => fun _ _ _ hq => F_Book_clear_c7_ok hd (F_Book_clear_l7_ok hd n) hq
noncomputable def F_Book_clear (l0 : Nat) (h : LH) : Option LH :=
 jf_pi h l0 0 2 (0 : Int32) fun h1 =>
 F_Book_clear_l7  jF l0 (0 : Int32) h1
set_option maxRecDepth 100000 in
theorem F_Book_clear_ok {d : Nat} (hd : 1 ≤ d) {l0 : Nat} {h : LH} {q : LH} : F_Book_clear l0 h = some q → jl_Sem jt_T jt_Ms d 1 [.ref l0] h (jo_v q) := by
 unfold F_Book_clear
 exact jr_enter (D := 0) hd jM_1_at rfl rfl rfl (fun d hd =>
  jr_aloadn 0 1 rfl rfl rfl
  (jr_iconst 1 2 (0 : Int32) rfl jc_i_0 rfl
  (jr_pi 2 5 rfl jg_0_21_3 rfl (fun h1 =>
  jr_iconst 5 6 (0 : Int32) rfl jc_i_0 rfl
  (jr_istoren 6 7 [.ref l0, .int (0 : Int32)] rfl rfl rfl rfl
  ((F_Book_clear_l7_ok hd  jF _ _ _)))))))
noncomputable def jM_0 : JMeth := (0, true, 0, jk_0, [], 1)
set_option maxRecDepth 100000 in
theorem jM_0_at : jt_Ms 0 = some jM_0 := rfl
noncomputable def F_Book_init (l0 : Nat) (h : LH) : Option LH :=
 jf_na h 20 (9 : Int32) fun v1 h2 =>
 jf_pr h2 l0 0 0 v1 fun h3 =>
 jf_na h3 20 (288 : Int32) fun v4 h5 =>
 jf_pr h5 l0 0 1 v4 fun h6 =>
 jf_kd h6 l0 0
 ((F_Book_clear l0 h6).bind fun h7 =>
 some h7)
set_option maxRecDepth 100000 in
theorem F_Book_init_ok {d : Nat} (hd : 2 ≤ d) {l0 : Nat} {h : LH} {q : LH} : F_Book_init l0 h = some q → jl_Sem jt_T jt_Ms d 0 [.ref l0] h (jo_v q) := by
 unfold F_Book_init
 exact jr_enter (D := 1) hd jM_0_at rfl rfl rfl (fun d hd =>
  jr_aloadn 0 1 rfl rfl rfl
  (jr_oi 1 4 rfl rfl rfl rfl
  (jr_aloadn 4 5 rfl rfl rfl
  (jr_bipush 5 7 (9 : Int32) rfl jc_b_9 rfl
  (jr_na 7 9 rfl rfl rfl rfl (fun v1 h2 =>
  jr_prF 9 12 rfl rfl jg_0_9_6 rfl (fun h3 =>
  jr_aloadn 12 13 rfl rfl rfl
  (jr_sipush 13 16 (288 : Int32) rfl jc_s_288 rfl
  (jr_na 16 18 rfl rfl rfl rfl (fun v4 h5 =>
  jr_prF 18 21 rfl rfl jg_0_15_6 rfl (fun h6 =>
  jr_aloadn 21 22 rfl rfl rfl
  (jr_cVv 22 25 [] rfl rfl rfl rfl rfl rfl rfl rfl (as := []) (F_Book_clear_ok (Nat.le_trans (by decide : 1 ≤ 1) hd)) (fun h7 =>
  jr_rv 25 rfl rfl)))))))))))))
noncomputable def jM_4 : JMeth := (0, false, 2, jk_4, [], 2)
set_option maxRecDepth 100000 in
theorem jM_4_at : jt_Ms 4 = some jM_4 := rfl
noncomputable def F_Book_has_b15 (s0 : Int32) (h : LH) : Option (Int32 × LH) :=
 jf_rz s0 (some (s0, h))
set_option maxRecDepth 100000 in
theorem F_Book_has_b15_ok {d : Nat} {q : (Int32 × LH)} (hd : 0 ≤ d) {s0 : Int32} {u0 : Value} {u1 : Value} {h : LH} : F_Book_has_b15 s0 h = some q → JR d jM_4 15 [u0, u1] [.int s0] h (jo_i q) := by
 unfold F_Book_has_b15
 exact jr_rz 15 rfl rfl
noncomputable def F_Book_has (l0 : Nat) (l1 : Int32) (h : LH) : Option (Int32 × LH) :=
 jf_gr h l0 0 0 fun v1 =>
 jf_ia h v1 l1 fun v2 =>
 if v2 = (-1 : Int32) then
 F_Book_has_b15  (0 : Int32) h
else
 F_Book_has_b15  (1 : Int32) h
set_option maxRecDepth 100000 in
theorem F_Book_has_ok {d : Nat} (hd : 1 ≤ d) {l0 : Nat} {l1 : Int32} {h : LH} {q : (Int32 × LH)} : F_Book_has l0 l1 h = some q → jl_Sem jt_T jt_Ms d 4 [.ref l0, .int l1] h (jo_i q) := by
 unfold F_Book_has
 exact jr_enter (D := 0) hd jM_4_at rfl rfl rfl (fun d hd =>
  jr_aloadn 0 1 rfl rfl rfl
  (jr_gr 1 4 rfl jg_0_9_2 rfl (fun v1 =>
  jr_iloadn 4 5 rfl rfl rfl
  (jr_ia 5 6 rfl rfl (fun v2 =>
  jr_iconst 6 7 (-1 : Int32) rfl jc_i_m1 rfl
  (jr_icmp_eq 7 14 10 rfl rfl rfl
  (jr_iconst 14 15 (0 : Int32) rfl jc_i_0 rfl
  ((F_Book_has_b15_ok hd )))
  (jr_iconst 10 11 (1 : Int32) rfl jc_i_1 rfl
  (jr_goto 11 15 rfl rfl
  ((F_Book_has_b15_ok hd ))))))))))
noncomputable def jM_88 : JMeth := (7, false, 0, jk_88, [], 3)
set_option maxRecDepth 100000 in
theorem jM_88_at : jt_Ms 88 = some jM_88 := rfl
noncomputable def F_Text_failAt_b17 (h : LH) : Option LH :=
 some h
set_option maxRecDepth 100000 in
theorem F_Text_failAt_b17_ok {d : Nat} {q : LH} (hd : 0 ≤ d) {u0 : Value} {u1 : Value} {u2 : Value} {h : LH} : F_Text_failAt_b17 h = some q → JR d jM_88 17 [u0, u1, u2] [] h (jo_v q) := by
 unfold F_Text_failAt_b17
 exact jr_rv 17 rfl rfl
noncomputable def F_Text_failAt (l0 : Nat) (l1 : Int32) (l2 : Int32) (h : LH) : Option LH :=
 jf_gi h l0 7 2 fun v1 =>
 if v1 = 0 then
 jf_pi h l0 7 2 l1 fun h2 =>
 jf_pi h2 l0 7 3 l2 fun h3 =>
 F_Text_failAt_b17  h3
else
 F_Text_failAt_b17  h
set_option maxRecDepth 100000 in
theorem F_Text_failAt_ok {d : Nat} (hd : 1 ≤ d) {l0 : Nat} {l1 : Int32} {l2 : Int32} {h : LH} {q : LH} : F_Text_failAt l0 l1 l2 h = some q → jl_Sem jt_T jt_Ms d 88 [.ref l0, .int l1, .int l2] h (jo_v q) := by
 unfold F_Text_failAt
 exact jr_enter (D := 0) hd jM_88_at rfl rfl rfl (fun d hd =>
  jr_aloadn 0 1 rfl rfl rfl
  (jr_gi 1 4 rfl jg_7_37_1 rfl (fun v1 =>
  jr_if_ne 4 17 7 rfl rfl rfl
  ((F_Text_failAt_b17_ok hd ))
  (jr_aloadn 7 8 rfl rfl rfl
  (jr_iloadn 8 9 rfl rfl rfl
  (jr_pi 9 12 rfl jg_7_37_3 rfl (fun h2 =>
  jr_aloadn 12 13 rfl rfl rfl
  (jr_iloadn 13 14 rfl rfl rfl
  (jr_pi 14 17 rfl jg_7_15_3 rfl (fun h3 =>
  (F_Text_failAt_b17_ok hd )))))))))))
noncomputable def jM_87 : JMeth := (7, false, 0, jk_87, [], 2)
set_option maxRecDepth 100000 in
theorem jM_87_at : jt_Ms 87 = some jM_87 := rfl
noncomputable def F_Text_fail (l0 : Nat) (l1 : Int32) (h : LH) : Option LH :=
 jf_gi h l0 7 6 fun v1 =>
 jf_kd h l0 7
 ((F_Text_failAt l0 l1 v1 h).bind fun h2 =>
 some h2)
set_option maxRecDepth 100000 in
theorem F_Text_fail_ok {d : Nat} (hd : 2 ≤ d) {l0 : Nat} {l1 : Int32} {h : LH} {q : LH} : F_Text_fail l0 l1 h = some q → jl_Sem jt_T jt_Ms d 87 [.ref l0, .int l1] h (jo_v q) := by
 unfold F_Text_fail
 exact jr_enter (D := 1) hd jM_87_at rfl rfl rfl (fun d hd =>
  jr_aloadn 0 1 rfl rfl rfl
  (jr_iloadn 1 2 rfl rfl rfl
  (jr_aloadn 2 3 rfl rfl rfl
  (jr_gi 3 6 rfl jg_7_34_1 rfl (fun v1 =>
  jr_cVv 6 9 [] rfl rfl rfl rfl rfl rfl rfl rfl (as := [.int l1, .int v1]) (F_Text_failAt_ok (Nat.le_trans (by decide : 1 ≤ 1) hd)) (fun h2 =>
  jr_rv 9 rfl rfl))))))
noncomputable def jM_84 : JMeth := (7, false, 1, jk_84, [], 1)
set_option maxRecDepth 100000 in
theorem jM_84_at : jt_Ms 84 = some jM_84 := rfl
noncomputable def F_Text_next_b75 (s0 : Int32) (h : LH) : Option (Int32 × LH) :=
 some (s0, h)
set_option maxRecDepth 100000 in
theorem F_Text_next_b75_ok {d : Nat} {q : (Int32 × LH)} (hd : 0 ≤ d) {s0 : Int32} {u0 : Value} {h : LH} : F_Text_next_b75 s0 h = some q → JR d jM_84 75 [u0] [.int s0] h (jo_i q) := by
 unfold F_Text_next_b75
 exact jr_ri 75 rfl rfl
noncomputable def F_Text_next_b47 (l0 : Nat) (h : LH) : Option (Int32 × LH) :=
 jf_gi h l0 7 5 fun v1 =>
 jf_gi h l0 7 4 fun v2 =>
 if v1 < v2 then
 jf_gr h l0 7 0 fun v3 =>
 jf_gi h l0 7 5 fun v4 =>
 jf_ba h v3 v4 fun v5 =>
 F_Text_next_b75  (v5 &&& (255 : Int32)) h
else
 F_Text_next_b75  (-1 : Int32) h
set_option maxRecDepth 100000 in
theorem F_Text_next_b47_ok {d : Nat} {q : (Int32 × LH)} (hd : 0 ≤ d) {l0 : Nat} {h : LH} : F_Text_next_b47 l0 h = some q → JR d jM_84 47 [.ref l0] [] h (jo_i q) := by
 unfold F_Text_next_b47
 exact jr_aloadn 47 48 rfl rfl rfl
  (jr_gi 48 51 rfl jg_7_31_1 rfl (fun v1 =>
  jr_aloadn 51 52 rfl rfl rfl
  (jr_gi 52 55 rfl jg_7_28_1 rfl (fun v2 =>
  jr_icmp_ge 55 74 58 rfl rfl rfl
  (jr_iconst 74 75 (-1 : Int32) rfl jc_i_m1 rfl
  ((F_Text_next_b75_ok hd )))
  (jr_aloadn 58 59 rfl rfl rfl
  (jr_gr 59 62 rfl jg_7_9_2 rfl (fun v3 =>
  jr_aloadn 62 63 rfl rfl rfl
  (jr_gi 63 66 rfl jg_7_31_1 rfl (fun v4 =>
  jr_ba 66 67 rfl rfl (fun v5 =>
  jr_sipush 67 70 (255 : Int32) rfl jc_s_255 rfl
  (jr_iand 70 71 rfl rfl
  (jr_goto 71 75 rfl rfl
  ((F_Text_next_b75_ok hd ))))))))))))))
noncomputable def F_Text_next_c9 (k9 : Nat → LH → Option (Int32 × LH)) (l0 : Nat) (h : LH) : Option (Int32 × LH) :=
 jf_gi h l0 7 5 fun v1 =>
 jf_gi h l0 7 4 fun v2 =>
 if v1 < v2 then
 jf_gr h l0 7 0 fun v3 =>
 jf_gi h l0 7 5 fun v4 =>
 jf_ba h v3 v4 fun v5 =>
 if v5 = (32 : Int32) then
 jf_gi h l0 7 5 fun v6 =>
 jf_pi h l0 7 5 (v6 + (1 : Int32)) fun h7 =>
 k9 l0 h7
else
 F_Text_next_b47  l0 h
else
 F_Text_next_b47  l0 h
set_option maxRecDepth 100000 in
theorem F_Text_next_c9_ok {d : Nat} {q : (Int32 × LH)} {k9 : Nat → LH → Option (Int32 × LH)} (hd : 0 ≤ d) (hk9 : ∀ (l0 : Nat) (h : LH), k9 l0 h = some q → JR d jM_84 9 [.ref l0] [] h (jo_i q)) {l0 : Nat} {h : LH} : F_Text_next_c9 k9 l0 h = some q → JR d jM_84 9 [.ref l0] [] h (jo_i q) := by
 unfold F_Text_next_c9
 exact jr_aloadn 9 10 rfl rfl rfl
  (jr_gi 10 13 rfl jg_7_31_1 rfl (fun v1 =>
  jr_aloadn 13 14 rfl rfl rfl
  (jr_gi 14 17 rfl jg_7_28_1 rfl (fun v2 =>
  jr_icmp_ge 17 47 20 rfl rfl rfl
  ((F_Text_next_b47_ok hd ))
  (jr_aloadn 20 21 rfl rfl rfl
  (jr_gr 21 24 rfl jg_7_9_2 rfl (fun v3 =>
  jr_aloadn 24 25 rfl rfl rfl
  (jr_gi 25 28 rfl jg_7_31_1 rfl (fun v4 =>
  jr_ba 28 29 rfl rfl (fun v5 =>
  jr_bipush 29 31 (32 : Int32) rfl jc_b_32 rfl
  (jr_icmp_ne 31 47 34 rfl rfl rfl
  ((F_Text_next_b47_ok hd ))
  (jr_aloadn 34 35 rfl rfl rfl
  (jr_dup 35 36 rfl rfl rfl
  (jr_gi 36 39 rfl jg_7_31_1 rfl (fun v6 =>
  jr_iconst 39 40 (1 : Int32) rfl jc_i_1 rfl
  (jr_iadd 40 41 rfl rfl
  (jr_pi 41 44 rfl jg_7_31_3 rfl (fun h7 =>
  jr_goto 44 9 rfl rfl
  ((hk9 _ _))))))))))))))))))))
noncomputable def F_Text_next_l9 : Nat → Nat → LH → Option (Int32 × LH)
 | 0, _, _ => none
 | n + 1, l0, h => F_Text_next_c9 (F_Text_next_l9 n) l0 h
theorem F_Text_next_l9_ok {d : Nat} {q : (Int32 × LH)} (hd : 0 ≤ d) : ∀ (n : Nat) (l0 : Nat) (h : LH), F_Text_next_l9 n l0 h = some q → JR d jM_84 9 [.ref l0] [] h (jo_i q)
 | 0 => fun _ _ hq => nomatch (show (none : Option (Int32 × LH)) = some q from hq)
 | n + 1 => fun _ _ hq => F_Text_next_c9_ok hd (F_Text_next_l9_ok hd n) hq
noncomputable def F_Text_next (l0 : Nat) (h : LH) : Option (Int32 × LH) :=
 jf_gi h l0 7 2 fun v1 =>
 if v1 = 0 then
 F_Text_next_l9  jF l0 h
else
 some ((-1 : Int32), h)
set_option maxRecDepth 100000 in
theorem F_Text_next_ok {d : Nat} (hd : 1 ≤ d) {l0 : Nat} {h : LH} {q : (Int32 × LH)} : F_Text_next l0 h = some q → jl_Sem jt_T jt_Ms d 84 [.ref l0] h (jo_i q) := by
 unfold F_Text_next
 exact jr_enter (D := 0) hd jM_84_at rfl rfl rfl (fun d hd =>
  jr_aloadn 0 1 rfl rfl rfl
  (jr_gi 1 4 rfl jg_7_37_1 rfl (fun v1 =>
  jr_if_eq 4 9 7 rfl rfl rfl
  ((F_Text_next_l9_ok hd  jF _ _))
  (jr_iconst 7 8 (-1 : Int32) rfl jc_i_m1 rfl
  (jr_ri 8 rfl rfl)))))
noncomputable def jM_89 : JMeth := (7, false, 1, jk_89, [], 4)
set_option maxRecDepth 100000 in
theorem jM_89_at : jt_Ms 89 = some jM_89 := rfl
noncomputable def F_Text_number_b131 (l3 : Int32) (h : LH) : Option (Int32 × LH) :=
 some (l3, h)
set_option maxRecDepth 100000 in
theorem F_Text_number_b131_ok {d : Nat} {q : (Int32 × LH)} (hd : 2 ≤ d) {l3 : Int32} {u0 : Value} {u1 : Value} {u2 : Value} {h : LH} : F_Text_number_b131 l3 h = some q → JR d jM_89 131 [u0, u1, u2, .int l3] [] h (jo_i q) := by
 unfold F_Text_number_b131
 exact jr_iloadn 131 132 rfl rfl rfl
  (jr_ri 132 rfl rfl)
noncomputable def F_Text_number_b126 (l0 : Nat) (l3 : Int32) (h : LH) : Option (Int32 × LH) :=
 jf_kd h l0 7
 ((F_Text_fail l0 (2 : Int32) h).bind fun h1 =>
 F_Text_number_b131  l3 h1)
set_option maxRecDepth 100000 in
theorem F_Text_number_b126_ok {d : Nat} {q : (Int32 × LH)} (hd : 2 ≤ d) {l0 : Nat} {l3 : Int32} {u1 : Value} {u2 : Value} {h : LH} : F_Text_number_b126 l0 l3 h = some q → JR d jM_89 126 [.ref l0, u1, u2, .int l3] [] h (jo_i q) := by
 unfold F_Text_number_b126
 exact jr_aloadn 126 127 rfl rfl rfl
  (jr_iconst 127 128 (2 : Int32) rfl jc_i_2 rfl
  (jr_cVv 128 131 [] rfl rfl rfl rfl rfl rfl rfl rfl (as := [.int (2 : Int32)]) (F_Text_fail_ok (Nat.le_trans (by decide : 2 ≤ 2) hd)) (fun h1 =>
  (F_Text_number_b131_ok hd ))))
noncomputable def F_Text_number_b97 (l0 : Nat) (l1 : Int32) (l2 : Int32) (l3 : Int32) (h : LH) : Option (Int32 × LH) :=
 jf_gi h l0 7 5 fun v1 =>
 jf_gi h l0 7 6 fun v2 =>
 if v1 = v2 then
 jf_kd h l0 7
 ((F_Text_fail l0 (1 : Int32) h).bind fun h3 =>
 F_Text_number_b131  l3 h3)
else
 if l3 < l1 then
 F_Text_number_b126  l0 l3 h
else
 if l2 < l3 then
 F_Text_number_b126  l0 l3 h
else
 F_Text_number_b131  l3 h
set_option maxRecDepth 100000 in
theorem F_Text_number_b97_ok {d : Nat} {q : (Int32 × LH)} (hd : 2 ≤ d) {l0 : Nat} {l1 : Int32} {l2 : Int32} {l3 : Int32} {h : LH} : F_Text_number_b97 l0 l1 l2 l3 h = some q → JR d jM_89 97 [.ref l0, .int l1, .int l2, .int l3] [] h (jo_i q) := by
 unfold F_Text_number_b97
 exact jr_aloadn 97 98 rfl rfl rfl
  (jr_gi 98 101 rfl jg_7_31_1 rfl (fun v1 =>
  jr_aloadn 101 102 rfl rfl rfl
  (jr_gi 102 105 rfl jg_7_34_1 rfl (fun v2 =>
  jr_icmp_ne 105 116 108 rfl rfl rfl
  (jr_iloadn 116 117 rfl rfl rfl
  (jr_iloadn 117 118 rfl rfl rfl
  (jr_icmp_lt 118 126 121 rfl rfl rfl
  ((F_Text_number_b126_ok hd ))
  (jr_iloadn 121 122 rfl rfl rfl
  (jr_iloadn 122 123 rfl rfl rfl
  (jr_icmp_le 123 131 126 rfl rfl rfl
  ((F_Text_number_b131_ok hd ))
  ((F_Text_number_b126_ok hd ))))))))
  (jr_aloadn 108 109 rfl rfl rfl
  (jr_iconst 109 110 (1 : Int32) rfl jc_i_1 rfl
  (jr_cVv 110 113 [] rfl rfl rfl rfl rfl rfl rfl rfl (as := [.int (1 : Int32)]) (F_Text_fail_ok (Nat.le_trans (by decide : 2 ≤ 2) hd)) (fun h3 =>
  jr_goto 113 131 rfl rfl
  ((F_Text_number_b131_ok hd ))))))))))
noncomputable def F_Text_number_c15 (k15 : Nat → Int32 → Int32 → Int32 → LH → Option (Int32 × LH)) (l0 : Nat) (l1 : Int32) (l2 : Int32) (l3 : Int32) (h : LH) : Option (Int32 × LH) :=
 jf_gi h l0 7 2 fun v1 =>
 if v1 = 0 then
 jf_gi h l0 7 5 fun v2 =>
 jf_gi h l0 7 4 fun v3 =>
 if v2 < v3 then
 jf_gr h l0 7 0 fun v4 =>
 jf_gi h l0 7 5 fun v5 =>
 jf_ba h v4 v5 fun v6 =>
 if v6 < (48 : Int32) then
 F_Text_number_b97  l0 l1 l2 l3 h
else
 jf_gr h l0 7 0 fun v7 =>
 jf_gi h l0 7 5 fun v8 =>
 jf_ba h v7 v8 fun v9 =>
 if (57 : Int32) < v9 then
 F_Text_number_b97  l0 l1 l2 l3 h
else
 jf_gr h l0 7 0 fun v10 =>
 jf_gi h l0 7 5 fun v11 =>
 jf_ba h v10 v11 fun v12 =>
 jf_let (if (100000 : Int32) < ((((10 : Int32) * l3) + v12) - (48 : Int32)) then (100000 : Int32) else ((((10 : Int32) * l3) + v12) - (48 : Int32))) fun v13 =>
 jf_gi h l0 7 5 fun v14 =>
 jf_pi h l0 7 5 (v14 + (1 : Int32)) fun h15 =>
 k15 l0 l1 l2 v13 h15
else
 F_Text_number_b97  l0 l1 l2 l3 h
else
 F_Text_number_b97  l0 l1 l2 l3 h
set_option maxRecDepth 100000 in
theorem F_Text_number_c15_ok {d : Nat} {q : (Int32 × LH)} {k15 : Nat → Int32 → Int32 → Int32 → LH → Option (Int32 × LH)} (hd : 2 ≤ d) (hk15 : ∀ (l0 : Nat) (l1 : Int32) (l2 : Int32) (l3 : Int32) (h : LH), k15 l0 l1 l2 l3 h = some q → JR d jM_89 15 [.ref l0, .int l1, .int l2, .int l3] [] h (jo_i q)) {l0 : Nat} {l1 : Int32} {l2 : Int32} {l3 : Int32} {h : LH} : F_Text_number_c15 k15 l0 l1 l2 l3 h = some q → JR d jM_89 15 [.ref l0, .int l1, .int l2, .int l3] [] h (jo_i q) := by
 unfold F_Text_number_c15
 exact jr_aloadn 15 16 rfl rfl rfl
  (jr_gi 16 19 rfl jg_7_37_1 rfl (fun v1 =>
  jr_if_ne 19 97 22 rfl rfl rfl
  ((F_Text_number_b97_ok hd ))
  (jr_aloadn 22 23 rfl rfl rfl
  (jr_gi 23 26 rfl jg_7_31_1 rfl (fun v2 =>
  jr_aloadn 26 27 rfl rfl rfl
  (jr_gi 27 30 rfl jg_7_28_1 rfl (fun v3 =>
  jr_icmp_ge 30 97 33 rfl rfl rfl
  ((F_Text_number_b97_ok hd ))
  (jr_aloadn 33 34 rfl rfl rfl
  (jr_gr 34 37 rfl jg_7_9_2 rfl (fun v4 =>
  jr_aloadn 37 38 rfl rfl rfl
  (jr_gi 38 41 rfl jg_7_31_1 rfl (fun v5 =>
  jr_ba 41 42 rfl rfl (fun v6 =>
  jr_bipush 42 44 (48 : Int32) rfl jc_b_48 rfl
  (jr_icmp_lt 44 97 47 rfl rfl rfl
  ((F_Text_number_b97_ok hd ))
  (jr_aloadn 47 48 rfl rfl rfl
  (jr_gr 48 51 rfl jg_7_9_2 rfl (fun v7 =>
  jr_aloadn 51 52 rfl rfl rfl
  (jr_gi 52 55 rfl jg_7_31_1 rfl (fun v8 =>
  jr_ba 55 56 rfl rfl (fun v9 =>
  jr_bipush 56 58 (57 : Int32) rfl jc_b_57 rfl
  (jr_icmp_gt 58 97 61 rfl rfl rfl
  ((F_Text_number_b97_ok hd ))
  (jr_bipush 61 63 (10 : Int32) rfl jc_b_10 rfl
  (jr_iloadn 63 64 rfl rfl rfl
  (jr_imul 64 65 rfl rfl
  (jr_aloadn 65 66 rfl rfl rfl
  (jr_gr 66 69 rfl jg_7_9_2 rfl (fun v10 =>
  jr_aloadn 69 70 rfl rfl rfl
  (jr_gi 70 73 rfl jg_7_31_1 rfl (fun v11 =>
  jr_ba 73 74 rfl rfl (fun v12 =>
  jr_iadd 74 75 rfl rfl
  (jr_bipush 75 77 (48 : Int32) rfl jc_b_48 rfl
  (jr_isub 77 78 rfl rfl
  (jr_ldci 78 80 rfl rfl rfl rfl
  (jr_min 80 83 rfl rfl rfl rfl
  (jr_istorenL 83 84 (fun v13 => [.ref l0, .int l1, .int l2, .int v13]) rfl rfl (fun _ => rfl) rfl (fun v13 =>
  jr_aloadn 84 85 rfl rfl rfl
  (jr_dup 85 86 rfl rfl rfl
  (jr_gi 86 89 rfl jg_7_31_1 rfl (fun v14 =>
  jr_iconst 89 90 (1 : Int32) rfl jc_i_1 rfl
  (jr_iadd 90 91 rfl rfl
  (jr_pi 91 94 rfl jg_7_31_3 rfl (fun h15 =>
  jr_goto 94 15 rfl rfl
  ((hk15 _ _ _ _ _))))))))))))))))))))))))))))))))))))))))))))
noncomputable def F_Text_number_l15 : Nat → Nat → Int32 → Int32 → Int32 → LH → Option (Int32 × LH)
 | 0, _, _, _, _, _ => none
 | n + 1, l0, l1, l2, l3, h => F_Text_number_c15 (F_Text_number_l15 n) l0 l1 l2 l3 h
theorem F_Text_number_l15_ok {d : Nat} {q : (Int32 × LH)} (hd : 2 ≤ d) : ∀ (n : Nat) (l0 : Nat) (l1 : Int32) (l2 : Int32) (l3 : Int32) (h : LH), F_Text_number_l15 n l0 l1 l2 l3 h = some q → JR d jM_89 15 [.ref l0, .int l1, .int l2, .int l3] [] h (jo_i q)
 | 0 => fun _ _ _ _ _ hq => nomatch (show (none : Option (Int32 × LH)) = some q from hq)
 | n + 1 => fun _ _ _ _ _ hq => F_Text_number_c15_ok hd (F_Text_number_l15_ok hd n) hq
noncomputable def F_Text_number (l0 : Nat) (l1 : Int32) (l2 : Int32) (h : LH) : Option (Int32 × LH) :=
 jf_kd h l0 7
 (jf_bi (F_Text_next l0 h) fun v1 h2 =>
 jf_gi h2 l0 7 5 fun v3 =>
 jf_pi h2 l0 7 6 v3 fun h4 =>
 F_Text_number_l15  jF l0 l1 l2 (0 : Int32) h4)
set_option maxRecDepth 100000 in
theorem F_Text_number_ok {d : Nat} (hd : 3 ≤ d) {l0 : Nat} {l1 : Int32} {l2 : Int32} {h : LH} {q : (Int32 × LH)} : F_Text_number l0 l1 l2 h = some q → jl_Sem jt_T jt_Ms d 89 [.ref l0, .int l1, .int l2] h (jo_i q) := by
 unfold F_Text_number
 exact jr_enter (D := 2) hd jM_89_at rfl rfl rfl (fun d hd =>
  jr_aloadn 0 1 rfl rfl rfl
  (jr_cVi 1 4 [] rfl rfl rfl rfl rfl rfl rfl rfl (as := []) (F_Text_next_ok (Nat.le_trans (by decide : 1 ≤ 2) hd)) (fun v1 h2 =>
  jr_pop 4 5 rfl rfl rfl
  (jr_aloadn 5 6 rfl rfl rfl
  (jr_aloadn 6 7 rfl rfl rfl
  (jr_gi 7 10 rfl jg_7_31_1 rfl (fun v3 =>
  jr_pi 10 13 rfl jg_7_34_3 rfl (fun h4 =>
  jr_iconst 13 14 (0 : Int32) rfl jc_i_0 rfl
  (jr_istoren 14 15 [.ref l0, .int l1, .int l2, .int (0 : Int32)] rfl rfl rfl rfl
  ((F_Text_number_l15_ok hd  jF _ _ _ _ _)))))))))))
noncomputable def jM_3 : JMeth := (0, false, 0, jk_3, [], 5)
set_option maxRecDepth 100000 in
theorem jM_3_at : jt_Ms 3 = some jM_3 := rfl
noncomputable def F_Book_readLine_b83 (h : LH) : Option LH :=
 some h
set_option maxRecDepth 100000 in
theorem F_Book_readLine_b83_ok {d : Nat} {q : LH} (hd : 3 ≤ d) {u0 : Value} {u1 : Value} {u2 : Value} {u3 : Value} {u4 : Value} {h : LH} : F_Book_readLine_b83 h = some q → JR d jM_3 83 [u0, u1, u2, u3, u4] [] h (jo_v q) := by
 unfold F_Book_readLine_b83
 exact jr_rv 83 rfl rfl
noncomputable def F_Book_readLine_b49 (l0 : Nat) (l1 : Nat) (l3 : Int32) (h : LH) : Option LH :=
 jf_kd h l1 7
 (jf_bi (F_Text_number l1 (0 : Int32) (31 : Int32) h) fun v1 h2 =>
 jf_gi h2 l1 7 2 fun v3 =>
 if v3 = 0 then
 jf_gr h2 l0 0 0 fun v4 =>
 jf_is h2 v4 l3 v1 fun h5 =>
 jf_gi h5 l0 0 2 fun v6 =>
 jf_pi h5 l0 0 2 (v6 + (1 : Int32)) fun h7 =>
 F_Book_readLine_b83  h7
else
 F_Book_readLine_b83  h2)
set_option maxRecDepth 100000 in
theorem F_Book_readLine_b49_ok {d : Nat} {q : LH} (hd : 3 ≤ d) {l0 : Nat} {l1 : Nat} {l3 : Int32} {u2 : Value} {u4 : Value} {h : LH} : F_Book_readLine_b49 l0 l1 l3 h = some q → JR d jM_3 49 [.ref l0, .ref l1, u2, .int l3, u4] [] h (jo_v q) := by
 unfold F_Book_readLine_b49
 exact jr_aloadn 49 50 rfl rfl rfl
  (jr_iconst 50 51 (0 : Int32) rfl jc_i_0 rfl
  (jr_bipush 51 53 (31 : Int32) rfl jc_b_31 rfl
  (jr_cVi 53 56 [] rfl rfl rfl rfl rfl rfl rfl rfl (as := [.int (0 : Int32), .int (31 : Int32)]) (F_Text_number_ok (Nat.le_trans (by decide : 3 ≤ 3) hd)) (fun v1 h2 =>
  jr_istore 56 58 [.ref l0, .ref l1, u2, .int l3, .int v1] rfl rfl rfl rfl
  (jr_aloadn 58 59 rfl rfl rfl
  (jr_gi 59 62 rfl jg_0_56_1 rfl (fun v3 =>
  jr_if_ne 62 83 65 rfl rfl rfl
  ((F_Book_readLine_b83_ok hd ))
  (jr_aloadn 65 66 rfl rfl rfl
  (jr_gr 66 69 rfl jg_0_9_2 rfl (fun v4 =>
  jr_iloadn 69 70 rfl rfl rfl
  (jr_iload 70 72 rfl rfl rfl
  (jr_is 72 73 rfl rfl (fun h5 =>
  jr_aloadn 73 74 rfl rfl rfl
  (jr_dup 74 75 rfl rfl rfl
  (jr_gi 75 78 rfl jg_0_21_1 rfl (fun v6 =>
  jr_iconst 78 79 (1 : Int32) rfl jc_i_1 rfl
  (jr_iadd 79 80 rfl rfl
  (jr_pi 80 83 rfl jg_0_21_3 rfl (fun h7 =>
  (F_Book_readLine_b83_ok hd ))))))))))))))))))))
noncomputable def F_Book_readLine_b35 (l0 : Nat) (l1 : Nat) (l3 : Int32) (h : LH) : Option LH :=
 jf_gi h l0 0 2 fun v1 =>
 if v1 < (9 : Int32) then
 F_Book_readLine_b49  l0 l1 l3 h
else
 jf_kd h l1 7
 ((F_Text_fail l1 (3 : Int32) h).bind fun h2 =>
 F_Book_readLine_b49  l0 l1 l3 h2)
set_option maxRecDepth 100000 in
theorem F_Book_readLine_b35_ok {d : Nat} {q : LH} (hd : 3 ≤ d) {l0 : Nat} {l1 : Nat} {l3 : Int32} {u2 : Value} {u4 : Value} {h : LH} : F_Book_readLine_b35 l0 l1 l3 h = some q → JR d jM_3 35 [.ref l0, .ref l1, u2, .int l3, u4] [] h (jo_v q) := by
 unfold F_Book_readLine_b35
 exact jr_aloadn 35 36 rfl rfl rfl
  (jr_gi 36 39 rfl jg_0_21_1 rfl (fun v1 =>
  jr_bipush 39 41 (9 : Int32) rfl jc_b_9 rfl
  (jr_icmp_lt 41 49 44 rfl rfl rfl
  ((F_Book_readLine_b49_ok hd ))
  (jr_aloadn 44 45 rfl rfl rfl
  (jr_iconst 45 46 (3 : Int32) rfl jc_i_3 rfl
  (jr_cVv 46 49 [] rfl rfl rfl rfl rfl rfl rfl rfl (as := [.int (3 : Int32)]) (F_Text_fail_ok (Nat.le_trans (by decide : 2 ≤ 3) hd)) (fun h2 =>
  (F_Book_readLine_b49_ok hd ))))))))
noncomputable def F_Book_readLine (l0 : Nat) (l1 : Nat) (l2 : Nat) (h : LH) : Option LH :=
 jf_gi h l2 8 0 fun v1 =>
 jf_kd h l1 7
 (jf_bi (F_Text_number l1 (0 : Int32) (v1 - (1 : Int32)) h) fun v2 h3 =>
 if v2 < 0 then
 F_Book_readLine_b35  l0 l1 v2 h3
else
 if v2 < (9 : Int32) then
 jf_kd h3 l0 0
 (jf_bi (F_Book_has l0 v2 h3) fun v4 h5 =>
 if v4 = 0 then
 F_Book_readLine_b35  l0 l1 v2 h5
else
 jf_kd h5 l1 7
 ((F_Text_fail l1 (2 : Int32) h5).bind fun h6 =>
 F_Book_readLine_b35  l0 l1 v2 h6))
else
 F_Book_readLine_b35  l0 l1 v2 h3)
set_option maxRecDepth 100000 in
theorem F_Book_readLine_ok {d : Nat} (hd : 4 ≤ d) {l0 : Nat} {l1 : Nat} {l2 : Nat} {h : LH} {q : LH} : F_Book_readLine l0 l1 l2 h = some q → jl_Sem jt_T jt_Ms d 3 [.ref l0, .ref l1, .ref l2] h (jo_v q) := by
 unfold F_Book_readLine
 exact jr_enter (D := 3) hd jM_3_at rfl rfl rfl (fun d hd =>
  jr_aloadn 0 1 rfl rfl rfl
  (jr_iconst 1 2 (0 : Int32) rfl jc_i_0 rfl
  (jr_aloadn 2 3 rfl rfl rfl
  (jr_gi 3 6 rfl jg_0_39_1 rfl (fun v1 =>
  jr_iconst 6 7 (1 : Int32) rfl jc_i_1 rfl
  (jr_isub 7 8 rfl rfl
  (jr_cVi 8 11 [] rfl rfl rfl rfl rfl rfl rfl rfl (as := [.int (0 : Int32), .int (v1 - (1 : Int32))]) (F_Text_number_ok (Nat.le_trans (by decide : 3 ≤ 3) hd)) (fun v2 h3 =>
  jr_istoren 11 12 [.ref l0, .ref l1, .ref l2, .int v2, .retAddr 0] rfl rfl rfl rfl
  (jr_iloadn 12 13 rfl rfl rfl
  (jr_if_lt 13 35 16 rfl rfl rfl
  ((F_Book_readLine_b35_ok hd ))
  (jr_iloadn 16 17 rfl rfl rfl
  (jr_bipush 17 19 (9 : Int32) rfl jc_b_9 rfl
  (jr_icmp_ge 19 35 22 rfl rfl rfl
  ((F_Book_readLine_b35_ok hd ))
  (jr_aloadn 22 23 rfl rfl rfl
  (jr_iloadn 23 24 rfl rfl rfl
  (jr_cVi 24 27 [] rfl rfl rfl rfl rfl rfl rfl rfl (as := [.int v2]) (F_Book_has_ok (Nat.le_trans (by decide : 1 ≤ 3) hd)) (fun v4 h5 =>
  jr_if_eq 27 35 30 rfl rfl rfl
  ((F_Book_readLine_b35_ok hd ))
  (jr_aloadn 30 31 rfl rfl rfl
  (jr_iconst 31 32 (2 : Int32) rfl jc_i_2 rfl
  (jr_cVv 32 35 [] rfl rfl rfl rfl rfl rfl rfl rfl (as := [.int (2 : Int32)]) (F_Text_fail_ok (Nat.le_trans (by decide : 2 ≤ 3) hd)) (fun h6 =>
  (F_Book_readLine_b35_ok hd ))))))))))))))))))))))
noncomputable def jM_90 : JMeth := (7, false, 0, jk_90, [], 2)
set_option maxRecDepth 100000 in
theorem jM_90_at : jt_Ms 90 = some jM_90 := rfl
noncomputable def F_Text_need_b30 (h : LH) : Option LH :=
 some h
set_option maxRecDepth 100000 in
theorem F_Text_need_b30_ok {d : Nat} {q : LH} (hd : 1 ≤ d) {u0 : Value} {u1 : Value} {h : LH} : F_Text_need_b30 h = some q → JR d jM_90 30 [u0, u1] [] h (jo_v q) := by
 unfold F_Text_need_b30
 exact jr_rv 30 rfl rfl
noncomputable def F_Text_need (l0 : Nat) (l1 : Int32) (h : LH) : Option LH :=
 jf_kd h l0 7
 (jf_bi (F_Text_next l0 h) fun v1 h2 =>
 if v1 = l1 then
 jf_gi h2 l0 7 5 fun v5 =>
 jf_pi h2 l0 7 5 (v5 + (1 : Int32)) fun h6 =>
 F_Text_need_b30  h6
else
 jf_gi h2 l0 7 5 fun v3 =>
 jf_kd h2 l0 7
 ((F_Text_failAt l0 (1 : Int32) v3 h2).bind fun h4 =>
 F_Text_need_b30  h4))
set_option maxRecDepth 100000 in
theorem F_Text_need_ok {d : Nat} (hd : 2 ≤ d) {l0 : Nat} {l1 : Int32} {h : LH} {q : LH} : F_Text_need l0 l1 h = some q → jl_Sem jt_T jt_Ms d 90 [.ref l0, .int l1] h (jo_v q) := by
 unfold F_Text_need
 exact jr_enter (D := 1) hd jM_90_at rfl rfl rfl (fun d hd =>
  jr_aloadn 0 1 rfl rfl rfl
  (jr_cVi 1 4 [] rfl rfl rfl rfl rfl rfl rfl rfl (as := []) (F_Text_next_ok (Nat.le_trans (by decide : 1 ≤ 1) hd)) (fun v1 h2 =>
  jr_iloadn 4 5 rfl rfl rfl
  (jr_icmp_ne 5 21 8 rfl rfl rfl
  (jr_aloadn 21 22 rfl rfl rfl
  (jr_iconst 22 23 (1 : Int32) rfl jc_i_1 rfl
  (jr_aloadn 23 24 rfl rfl rfl
  (jr_gi 24 27 rfl jg_7_31_1 rfl (fun v3 =>
  jr_cVv 27 30 [] rfl rfl rfl rfl rfl rfl rfl rfl (as := [.int (1 : Int32), .int v3]) (F_Text_failAt_ok (Nat.le_trans (by decide : 1 ≤ 1) hd)) (fun h4 =>
  (F_Text_need_b30_ok hd )))))))
  (jr_aloadn 8 9 rfl rfl rfl
  (jr_dup 9 10 rfl rfl rfl
  (jr_gi 10 13 rfl jg_7_31_1 rfl (fun v5 =>
  jr_iconst 13 14 (1 : Int32) rfl jc_i_1 rfl
  (jr_iadd 14 15 rfl rfl
  (jr_pi 15 18 rfl jg_7_31_3 rfl (fun h6 =>
  jr_goto 18 30 rfl rfl
  ((F_Text_need_b30_ok hd )))))))))))))
noncomputable def jM_2 : JMeth := (0, false, 0, jk_2, [], 4)
set_option maxRecDepth 100000 in
theorem jM_2_at : jt_Ms 2 = some jM_2 := rfl
noncomputable def F_Book_readFrom_b38 (h : LH) : Option LH :=
 some h
set_option maxRecDepth 100000 in
theorem F_Book_readFrom_b38_ok {d : Nat} {q : LH} (hd : 4 ≤ d) {u0 : Value} {u1 : Value} {u2 : Value} {u3 : Value} {h : LH} : F_Book_readFrom_b38 h = some q → JR d jM_2 38 [u0, u1, u2, u3] [] h (jo_v q) := by
 unfold F_Book_readFrom_b38
 exact jr_rv 38 rfl rfl
noncomputable def F_Book_readFrom_c6 (k6 : Nat → Nat → Nat → Int32 → LH → Option LH) (l0 : Nat) (l1 : Nat) (l2 : Nat) (l3 : Int32) (h : LH) : Option LH :=
 if (9 : Int32) < l3 then
 F_Book_readFrom_b38  h
else
 jf_kd h l1 7
 (jf_bi (F_Text_next l1 h) fun v1 h2 =>
 if v1 = (-1 : Int32) then
 F_Book_readFrom_b38  h2
else
 jf_kd h2 l0 0
 ((F_Book_readLine l0 l1 l2 h2).bind fun h3 =>
 jf_kd h3 l1 7
 ((F_Text_need l1 (59 : Int32) h3).bind fun h4 =>
 k6 l0 l1 l2 (l3 + (1 : Int32)) h4)))
set_option maxRecDepth 100000 in
theorem F_Book_readFrom_c6_ok {d : Nat} {q : LH} {k6 : Nat → Nat → Nat → Int32 → LH → Option LH} (hd : 4 ≤ d) (hk6 : ∀ (l0 : Nat) (l1 : Nat) (l2 : Nat) (l3 : Int32) (h : LH), k6 l0 l1 l2 l3 h = some q → JR d jM_2 6 [.ref l0, .ref l1, .ref l2, .int l3] [] h (jo_v q)) {l0 : Nat} {l1 : Nat} {l2 : Nat} {l3 : Int32} {h : LH} : F_Book_readFrom_c6 k6 l0 l1 l2 l3 h = some q → JR d jM_2 6 [.ref l0, .ref l1, .ref l2, .int l3] [] h (jo_v q) := by
 unfold F_Book_readFrom_c6
 exact jr_iloadn 6 7 rfl rfl rfl
  (jr_bipush 7 9 (9 : Int32) rfl jc_b_9 rfl
  (jr_icmp_gt 9 38 12 rfl rfl rfl
  ((F_Book_readFrom_b38_ok hd ))
  (jr_aloadn 12 13 rfl rfl rfl
  (jr_cVi 13 16 [] rfl rfl rfl rfl rfl rfl rfl rfl (as := []) (F_Text_next_ok (Nat.le_trans (by decide : 1 ≤ 4) hd)) (fun v1 h2 =>
  jr_iconst 16 17 (-1 : Int32) rfl jc_i_m1 rfl
  (jr_icmp_eq 17 38 20 rfl rfl rfl
  ((F_Book_readFrom_b38_ok hd ))
  (jr_aloadn 20 21 rfl rfl rfl
  (jr_aloadn 21 22 rfl rfl rfl
  (jr_aloadn 22 23 rfl rfl rfl
  (jr_cVv 23 26 [] rfl rfl rfl rfl rfl rfl rfl rfl (as := [.ref l1, .ref l2]) (F_Book_readLine_ok (Nat.le_trans (by decide : 4 ≤ 4) hd)) (fun h3 =>
  jr_aloadn 26 27 rfl rfl rfl
  (jr_bipush 27 29 (59 : Int32) rfl jc_b_59 rfl
  (jr_cVv 29 32 [] rfl rfl rfl rfl rfl rfl rfl rfl (as := [.int (59 : Int32)]) (F_Text_need_ok (Nat.le_trans (by decide : 2 ≤ 4) hd)) (fun h4 =>
  jr_iinc 32 35 [.ref l0, .ref l1, .ref l2, .int (l3 + (1 : Int32))] rfl jc_i_1 rfl rfl rfl rfl
  (jr_goto 35 6 rfl rfl
  ((hk6 _ _ _ _ _)))))))))))))))))
noncomputable def F_Book_readFrom_l6 : Nat → Nat → Nat → Nat → Int32 → LH → Option LH
 | 0, _, _, _, _, _ => none
 | n + 1, l0, l1, l2, l3, h => F_Book_readFrom_c6 (F_Book_readFrom_l6 n) l0 l1 l2 l3 h
theorem F_Book_readFrom_l6_ok {d : Nat} {q : LH} (hd : 4 ≤ d) : ∀ (n : Nat) (l0 : Nat) (l1 : Nat) (l2 : Nat) (l3 : Int32) (h : LH), F_Book_readFrom_l6 n l0 l1 l2 l3 h = some q → JR d jM_2 6 [.ref l0, .ref l1, .ref l2, .int l3] [] h (jo_v q)
 | 0 => fun _ _ _ _ _ hq => nomatch (show (none : Option LH) = some q from hq)
 | n + 1 => fun _ _ _ _ _ hq => F_Book_readFrom_c6_ok hd (F_Book_readFrom_l6_ok hd n) hq
noncomputable def F_Book_readFrom (l0 : Nat) (l1 : Nat) (l2 : Nat) (h : LH) : Option LH :=
 jf_kd h l0 0
 ((F_Book_clear l0 h).bind fun h1 =>
 F_Book_readFrom_l6  jF l0 l1 l2 (0 : Int32) h1)
set_option maxRecDepth 100000 in
theorem F_Book_readFrom_ok {d : Nat} (hd : 5 ≤ d) {l0 : Nat} {l1 : Nat} {l2 : Nat} {h : LH} {q : LH} : F_Book_readFrom l0 l1 l2 h = some q → jl_Sem jt_T jt_Ms d 2 [.ref l0, .ref l1, .ref l2] h (jo_v q) := by
 unfold F_Book_readFrom
 exact jr_enter (D := 4) hd jM_2_at rfl rfl rfl (fun d hd =>
  jr_aloadn 0 1 rfl rfl rfl
  (jr_cVv 1 4 [] rfl rfl rfl rfl rfl rfl rfl rfl (as := []) (F_Book_clear_ok (Nat.le_trans (by decide : 1 ≤ 4) hd)) (fun h1 =>
  jr_iconst 4 5 (0 : Int32) rfl jc_i_0 rfl
  (jr_istoren 5 6 [.ref l0, .ref l1, .ref l2, .int (0 : Int32)] rfl rfl rfl rfl
  ((F_Book_readFrom_l6_ok hd  jF _ _ _ _ _))))))
noncomputable def jM_6 : JMeth := (0, false, 2, jk_6, [], 5)
set_option maxRecDepth 100000 in
theorem jM_6_at : jt_Ms 6 = some jM_6 := rfl
noncomputable def F_Book_isFit_b44 (k3 : Nat → Nat → Int32 → Int32 → Int32 → LH → Option (Int32 × LH)) (l0 : Nat) (l1 : Nat) (l2 : Int32) (l3 : Int32) (l4 : Int32) (h : LH) : Option (Int32 × LH) :=
 k3 l0 l1 l2 l3 (l4 + (1 : Int32)) h
set_option maxRecDepth 100000 in
theorem F_Book_isFit_b44_ok {d : Nat} {q : (Int32 × LH)} {k3 : Nat → Nat → Int32 → Int32 → Int32 → LH → Option (Int32 × LH)} (hd : 1 ≤ d) (hk3 : ∀ (l0 : Nat) (l1 : Nat) (l2 : Int32) (l3 : Int32) (l4 : Int32) (h : LH), k3 l0 l1 l2 l3 l4 h = some q → JR d jM_6 3 [.ref l0, .ref l1, .int l2, .int l3, .int l4] [] h (jo_i q)) {l0 : Nat} {l1 : Nat} {l2 : Int32} {l3 : Int32} {l4 : Int32} {h : LH} : F_Book_isFit_b44 k3 l0 l1 l2 l3 l4 h = some q → JR d jM_6 44 [.ref l0, .ref l1, .int l2, .int l3, .int l4] [] h (jo_i q) := by
 unfold F_Book_isFit_b44
 exact jr_iinc 44 47 [.ref l0, .ref l1, .int l2, .int l3, .int (l4 + (1 : Int32))] rfl jc_i_1 rfl rfl rfl rfl
  (jr_goto 47 3 rfl rfl
  ((hk3 _ _ _ _ _ _)))
noncomputable def F_Book_isFit_b39 (k3 : Nat → Nat → Int32 → Int32 → Int32 → LH → Option (Int32 × LH)) (l0 : Nat) (l1 : Nat) (l2 : Int32) (l3 : Int32) (l4 : Int32) (s0 : Int32) (s1 : Int32) (h : LH) : Option (Int32 × LH) :=
 if s0 = s1 then
 F_Book_isFit_b44 k3 l0 l1 l2 l3 l4 h
else
 jf_rz (0 : Int32) (some ((0 : Int32), h))
set_option maxRecDepth 100000 in
theorem F_Book_isFit_b39_ok {d : Nat} {q : (Int32 × LH)} {k3 : Nat → Nat → Int32 → Int32 → Int32 → LH → Option (Int32 × LH)} (hd : 1 ≤ d) (hk3 : ∀ (l0 : Nat) (l1 : Nat) (l2 : Int32) (l3 : Int32) (l4 : Int32) (h : LH), k3 l0 l1 l2 l3 l4 h = some q → JR d jM_6 3 [.ref l0, .ref l1, .int l2, .int l3, .int l4] [] h (jo_i q)) {l0 : Nat} {l1 : Nat} {l2 : Int32} {l3 : Int32} {l4 : Int32} {s0 : Int32} {s1 : Int32} {h : LH} : F_Book_isFit_b39 k3 l0 l1 l2 l3 l4 s0 s1 h = some q → JR d jM_6 39 [.ref l0, .ref l1, .int l2, .int l3, .int l4] [.int s1, .int s0] h (jo_i q) := by
 unfold F_Book_isFit_b39
 exact jr_icmp_eq 39 44 42 rfl rfl rfl
  ((F_Book_isFit_b44_ok hd hk3))
  (jr_iconst 42 43 (0 : Int32) rfl jc_i_0 rfl
  (jr_rz 43 rfl rfl))
noncomputable def F_Book_isFit_c3 (k3 : Nat → Nat → Int32 → Int32 → Int32 → LH → Option (Int32 × LH)) (l0 : Nat) (l1 : Nat) (l2 : Int32) (l3 : Int32) (l4 : Int32) (h : LH) : Option (Int32 × LH) :=
 jf_gi h l1 8 0 fun v1 =>
 if l4 < v1 then
 jf_kd h l0 0
 (jf_bi (F_Book_has l0 l4 h) fun v2 h3 =>
 if v2 = 0 then
 F_Book_isFit_b44 k3 l0 l1 l2 l3 l4 h3
else
 jf_gr h3 l0 0 0 fun v4 =>
 jf_ia h3 v4 l4 fun v5 =>
 if l4 = l2 then
 F_Book_isFit_b39 k3 l0 l1 l2 l3 l4 v5 l3 h3
else
 F_Book_isFit_b39 k3 l0 l1 l2 l3 l4 v5 (0 : Int32) h3)
else
 jf_rz (1 : Int32) (some ((1 : Int32), h))
set_option maxRecDepth 100000 in
theorem F_Book_isFit_c3_ok {d : Nat} {q : (Int32 × LH)} {k3 : Nat → Nat → Int32 → Int32 → Int32 → LH → Option (Int32 × LH)} (hd : 1 ≤ d) (hk3 : ∀ (l0 : Nat) (l1 : Nat) (l2 : Int32) (l3 : Int32) (l4 : Int32) (h : LH), k3 l0 l1 l2 l3 l4 h = some q → JR d jM_6 3 [.ref l0, .ref l1, .int l2, .int l3, .int l4] [] h (jo_i q)) {l0 : Nat} {l1 : Nat} {l2 : Int32} {l3 : Int32} {l4 : Int32} {h : LH} : F_Book_isFit_c3 k3 l0 l1 l2 l3 l4 h = some q → JR d jM_6 3 [.ref l0, .ref l1, .int l2, .int l3, .int l4] [] h (jo_i q) := by
 unfold F_Book_isFit_c3
 exact jr_iload 3 5 rfl rfl rfl
  (jr_aloadn 5 6 rfl rfl rfl
  (jr_gi 6 9 rfl jg_0_39_1 rfl (fun v1 =>
  jr_icmp_ge 9 50 12 rfl rfl rfl
  (jr_iconst 50 51 (1 : Int32) rfl jc_i_1 rfl
  (jr_rz 51 rfl rfl))
  (jr_aloadn 12 13 rfl rfl rfl
  (jr_iload 13 15 rfl rfl rfl
  (jr_cVi 15 18 [] rfl rfl rfl rfl rfl rfl rfl rfl (as := [.int l4]) (F_Book_has_ok (Nat.le_trans (by decide : 1 ≤ 1) hd)) (fun v2 h3 =>
  jr_if_eq 18 44 21 rfl rfl rfl
  ((F_Book_isFit_b44_ok hd hk3))
  (jr_aloadn 21 22 rfl rfl rfl
  (jr_gr 22 25 rfl jg_0_9_2 rfl (fun v4 =>
  jr_iload 25 27 rfl rfl rfl
  (jr_ia 27 28 rfl rfl (fun v5 =>
  jr_iload 28 30 rfl rfl rfl
  (jr_iloadn 30 31 rfl rfl rfl
  (jr_icmp_ne 31 38 34 rfl rfl rfl
  (jr_iconst 38 39 (0 : Int32) rfl jc_i_0 rfl
  ((F_Book_isFit_b39_ok hd hk3)))
  (jr_iloadn 34 35 rfl rfl rfl
  (jr_goto 35 39 rfl rfl
  ((F_Book_isFit_b39_ok hd hk3))))))))))))))))))
noncomputable def F_Book_isFit_l3 : Nat → Nat → Nat → Int32 → Int32 → Int32 → LH → Option (Int32 × LH)
 | 0, _, _, _, _, _, _ => none
 | n + 1, l0, l1, l2, l3, l4, h => F_Book_isFit_c3 (F_Book_isFit_l3 n) l0 l1 l2 l3 l4 h
theorem F_Book_isFit_l3_ok {d : Nat} {q : (Int32 × LH)} (hd : 1 ≤ d) : ∀ (n : Nat) (l0 : Nat) (l1 : Nat) (l2 : Int32) (l3 : Int32) (l4 : Int32) (h : LH), F_Book_isFit_l3 n l0 l1 l2 l3 l4 h = some q → JR d jM_6 3 [.ref l0, .ref l1, .int l2, .int l3, .int l4] [] h (jo_i q)
 | 0 => fun _ _ _ _ _ _ hq => nomatch (show (none : Option (Int32 × LH)) = some q from hq)
 | n + 1 => fun _ _ _ _ _ _ hq => F_Book_isFit_c3_ok hd (F_Book_isFit_l3_ok hd n) hq
noncomputable def F_Book_isFit (l0 : Nat) (l1 : Nat) (l2 : Int32) (l3 : Int32) (h : LH) : Option (Int32 × LH) :=
 F_Book_isFit_l3  jF l0 l1 l2 l3 (0 : Int32) h
set_option maxRecDepth 100000 in
theorem F_Book_isFit_ok {d : Nat} (hd : 2 ≤ d) {l0 : Nat} {l1 : Nat} {l2 : Int32} {l3 : Int32} {h : LH} {q : (Int32 × LH)} : F_Book_isFit l0 l1 l2 l3 h = some q → jl_Sem jt_T jt_Ms d 6 [.ref l0, .ref l1, .int l2, .int l3] h (jo_i q) := by
 unfold F_Book_isFit
 exact jr_enter (D := 1) hd jM_6_at rfl rfl rfl (fun d hd =>
  jr_iconst 0 1 (0 : Int32) rfl jc_i_0 rfl
  (jr_istore 1 3 [.ref l0, .ref l1, .int l2, .int l3, .int (0 : Int32)] rfl rfl rfl rfl
  ((F_Book_isFit_l3_ok hd  jF _ _ _ _ _ _))))
noncomputable def jM_47 : JMeth := (6, false, 1, jk_47, [], 2)
set_option maxRecDepth 100000 in
theorem jM_47_at : jt_Ms 47 = some jM_47 := rfl
noncomputable def F_Scene_burning (l0 : Nat) (l1 : Int32) (h : LH) : Option (Int32 × LH) :=
 jf_gr h l0 6 0 fun v1 =>
 jf_ia h v1 ((17 : Int32) + l1) fun v2 =>
 some (v2, h)
set_option maxRecDepth 100000 in
theorem F_Scene_burning_ok {d : Nat} (hd : 1 ≤ d) {l0 : Nat} {l1 : Int32} {h : LH} {q : (Int32 × LH)} : F_Scene_burning l0 l1 h = some q → jl_Sem jt_T jt_Ms d 47 [.ref l0, .int l1] h (jo_i q) := by
 unfold F_Scene_burning
 exact jr_enter (D := 0) hd jM_47_at rfl rfl rfl (fun d hd =>
  jr_aloadn 0 1 rfl rfl rfl
  (jr_gr 1 4 rfl jg_6_11_2 rfl (fun v1 =>
  jr_bipush 4 6 (17 : Int32) rfl jc_b_17 rfl
  (jr_iloadn 6 7 rfl rfl rfl
  (jr_iadd 7 8 rfl rfl
  (jr_ia 8 9 rfl rfl (fun v2 =>
  jr_ri 9 rfl rfl)))))))
noncomputable def jM_54 : JMeth := (6, false, 1, jk_54, [], 1)
set_option maxRecDepth 100000 in
theorem jM_54_at : jt_Ms 54 = some jM_54 := rfl
noncomputable def F_Scene_hourNow (l0 : Nat) (h : LH) : Option (Int32 × LH) :=
 jf_gr h l0 6 0 fun v1 =>
 jf_ia h v1 (0 : Int32) fun v2 =>
 some (v2, h)
set_option maxRecDepth 100000 in
theorem F_Scene_hourNow_ok {d : Nat} (hd : 1 ≤ d) {l0 : Nat} {h : LH} {q : (Int32 × LH)} : F_Scene_hourNow l0 h = some q → jl_Sem jt_T jt_Ms d 54 [.ref l0] h (jo_i q) := by
 unfold F_Scene_hourNow
 exact jr_enter (D := 0) hd jM_54_at rfl rfl rfl (fun d hd =>
  jr_aloadn 0 1 rfl rfl rfl
  (jr_gr 1 4 rfl jg_6_11_2 rfl (fun v1 =>
  jr_iconst 4 5 (0 : Int32) rfl jc_i_0 rfl
  (jr_ia 5 6 rfl rfl (fun v2 =>
  jr_ri 6 rfl rfl)))))
noncomputable def jM_58 : JMeth := (6, false, 1, jk_58, [], 3)
set_option maxRecDepth 100000 in
theorem jM_58_at : jt_Ms 58 = some jM_58 := rfl
noncomputable def F_Scene_standsByLean_b30 (s0 : Int32) (h : LH) : Option (Int32 × LH) :=
 some (s0, h)
set_option maxRecDepth 100000 in
theorem F_Scene_standsByLean_b30_ok {d : Nat} {q : (Int32 × LH)} (hd : 0 ≤ d) {s0 : Int32} {u0 : Value} {u1 : Value} {u2 : Value} {h : LH} : F_Scene_standsByLean_b30 s0 h = some q → JR d jM_58 30 [u0, u1, u2] [.int s0] h (jo_i q) := by
 unfold F_Scene_standsByLean_b30
 exact jr_ri 30 rfl rfl
noncomputable def F_Scene_standsByLean (l0 : Nat) (l1 : Int32) (l2 : Int32) (h : LH) : Option (Int32 × LH) :=
 jf_gr h l0 6 1 fun v1 =>
 jf_gi h v1 8 0 fun v2 =>
 if 0 < v2 then
 jf_gi h l0 6 5 fun v3 =>
 jf_gr h l0 6 1 fun v4 =>
 jf_gi h v4 8 0 fun v5 =>
 jf_dv v5 (((l1 + l2) + v3) - ((l1 + l2) + v3) / v5 * v5) fun v6 =>
 F_Scene_standsByLean_b30  v6 h
else
 F_Scene_standsByLean_b30  (0 : Int32) h
set_option maxRecDepth 100000 in
theorem F_Scene_standsByLean_ok {d : Nat} (hd : 1 ≤ d) {l0 : Nat} {l1 : Int32} {l2 : Int32} {h : LH} {q : (Int32 × LH)} : F_Scene_standsByLean l0 l1 l2 h = some q → jl_Sem jt_T jt_Ms d 58 [.ref l0, .int l1, .int l2] h (jo_i q) := by
 unfold F_Scene_standsByLean
 exact jr_enter (D := 0) hd jM_58_at rfl rfl rfl (fun d hd =>
  jr_aloadn 0 1 rfl rfl rfl
  (jr_gr 1 4 rfl jg_6_26_2 rfl (fun v1 =>
  jr_gi 4 7 rfl jg_6_72_1 rfl (fun v2 =>
  jr_if_le 7 29 10 rfl rfl rfl
  (jr_iconst 29 30 (0 : Int32) rfl jc_i_0 rfl
  ((F_Scene_standsByLean_b30_ok hd )))
  (jr_iloadn 10 11 rfl rfl rfl
  (jr_iloadn 11 12 rfl rfl rfl
  (jr_iadd 12 13 rfl rfl
  (jr_aloadn 13 14 rfl rfl rfl
  (jr_gi 14 17 rfl jg_6_59_1 rfl (fun v3 =>
  jr_iadd 17 18 rfl rfl
  (jr_aloadn 18 19 rfl rfl rfl
  (jr_gr 19 22 rfl jg_6_26_2 rfl (fun v4 =>
  jr_gi 22 25 rfl jg_6_72_1 rfl (fun v5 =>
  jr_irem 25 26 rfl rfl (fun v6 =>
  jr_goto 26 30 rfl rfl
  ((F_Scene_standsByLean_b30_ok hd )))))))))))))))))
noncomputable def jM_59 : JMeth := (6, false, 1, jk_59, [], 3)
set_option maxRecDepth 100000 in
theorem jM_59_at : jt_Ms 59 = some jM_59 := rfl
noncomputable def F_Scene_woodOf (l0 : Nat) (l1 : Int32) (l2 : Int32) (h : LH) : Option (Int32 × LH) :=
 jf_gr h l0 6 0 fun v1 =>
 jf_ia h v1 (((26 : Int32) + (l1 * (6 : Int32))) + l2) fun v2 =>
 some (v2, h)
set_option maxRecDepth 100000 in
theorem F_Scene_woodOf_ok {d : Nat} (hd : 1 ≤ d) {l0 : Nat} {l1 : Int32} {l2 : Int32} {h : LH} {q : (Int32 × LH)} : F_Scene_woodOf l0 l1 l2 h = some q → jl_Sem jt_T jt_Ms d 59 [.ref l0, .int l1, .int l2] h (jo_i q) := by
 unfold F_Scene_woodOf
 exact jr_enter (D := 0) hd jM_59_at rfl rfl rfl (fun d hd =>
  jr_aloadn 0 1 rfl rfl rfl
  (jr_gr 1 4 rfl jg_6_11_2 rfl (fun v1 =>
  jr_bipush 4 6 (26 : Int32) rfl jc_b_26 rfl
  (jr_iloadn 6 7 rfl rfl rfl
  (jr_bipush 7 9 (6 : Int32) rfl jc_b_6 rfl
  (jr_imul 9 10 rfl rfl
  (jr_iadd 10 11 rfl rfl
  (jr_iloadn 11 12 rfl rfl rfl
  (jr_iadd 12 13 rfl rfl
  (jr_ia 13 14 rfl rfl (fun v2 =>
  jr_ri 14 rfl rfl)))))))))))
noncomputable def jM_60 : JMeth := (6, false, 1, jk_60, [], 2)
set_option maxRecDepth 100000 in
theorem jM_60_at : jt_Ms 60 = some jM_60 := rfl
noncomputable def F_Scene_thickNow_b31 (s0 : Int32) (h : LH) : Option (Int32 × LH) :=
 some (s0, h)
set_option maxRecDepth 100000 in
theorem F_Scene_thickNow_b31_ok {d : Nat} {q : (Int32 × LH)} (hd : 0 ≤ d) {s0 : Int32} {u0 : Value} {u1 : Value} {h : LH} : F_Scene_thickNow_b31 s0 h = some q → JR d jM_60 31 [u0, u1] [.int s0] h (jo_i q) := by
 unfold F_Scene_thickNow_b31
 exact jr_ri 31 rfl rfl
noncomputable def F_Scene_thickNow (l0 : Nat) (l1 : Int32) (h : LH) : Option (Int32 × LH) :=
 jf_gi h l0 6 6 fun v1 =>
 if v1 = (1 : Int32) then
 jf_gr h l0 6 1 fun v5 =>
 jf_gr h v5 8 7 fun v6 =>
 jf_ia h v6 l1 fun v7 =>
 jf_dv (2 : Int32) (v7 / (2 : Int32)) fun v8 =>
 F_Scene_thickNow_b31  v8 h
else
 jf_gr h l0 6 1 fun v2 =>
 jf_gr h v2 8 7 fun v3 =>
 jf_ia h v3 l1 fun v4 =>
 F_Scene_thickNow_b31  v4 h
set_option maxRecDepth 100000 in
theorem F_Scene_thickNow_ok {d : Nat} (hd : 1 ≤ d) {l0 : Nat} {l1 : Int32} {h : LH} {q : (Int32 × LH)} : F_Scene_thickNow l0 l1 h = some q → jl_Sem jt_T jt_Ms d 60 [.ref l0, .int l1] h (jo_i q) := by
 unfold F_Scene_thickNow
 exact jr_enter (D := 0) hd jM_60_at rfl rfl rfl (fun d hd =>
  jr_aloadn 0 1 rfl rfl rfl
  (jr_gi 1 4 rfl jg_6_62_1 rfl (fun v1 =>
  jr_iconst 4 5 (1 : Int32) rfl jc_i_1 rfl
  (jr_icmp_ne 5 22 8 rfl rfl rfl
  (jr_aloadn 22 23 rfl rfl rfl
  (jr_gr 23 26 rfl jg_6_26_2 rfl (fun v2 =>
  jr_gr 26 29 rfl jg_6_75_2 rfl (fun v3 =>
  jr_iloadn 29 30 rfl rfl rfl
  (jr_ia 30 31 rfl rfl (fun v4 =>
  (F_Scene_thickNow_b31_ok hd )))))))
  (jr_aloadn 8 9 rfl rfl rfl
  (jr_gr 9 12 rfl jg_6_26_2 rfl (fun v5 =>
  jr_gr 12 15 rfl jg_6_75_2 rfl (fun v6 =>
  jr_iloadn 15 16 rfl rfl rfl
  (jr_ia 16 17 rfl rfl (fun v7 =>
  jr_iconst 17 18 (2 : Int32) rfl jc_i_2 rfl
  (jr_idiv 18 19 rfl rfl (fun v8 =>
  jr_goto 19 31 rfl rfl
  ((F_Scene_thickNow_b31_ok hd ))))))))))))))
noncomputable def jM_105 : JMeth := (8, false, 1, jk_105, [], 2)
set_option maxRecDepth 100000 in
theorem jM_105_at : jt_Ms 105 = some jM_105 := rfl
noncomputable def F_Town_windIn_b26 (s0 : Int32) (h : LH) : Option (Int32 × LH) :=
 some (s0, h)
set_option maxRecDepth 100000 in
theorem F_Town_windIn_b26_ok {d : Nat} {q : (Int32 × LH)} (hd : 0 ≤ d) {s0 : Int32} {u0 : Value} {u1 : Value} {h : LH} : F_Town_windIn_b26 s0 h = some q → JR d jM_105 26 [u0, u1] [.int s0] h (jo_i q) := by
 unfold F_Town_windIn_b26
 exact jr_ri 26 rfl rfl
noncomputable def F_Town_windIn_b25 (h : LH) : Option (Int32 × LH) :=
 F_Town_windIn_b26  (0 : Int32) h
set_option maxRecDepth 100000 in
theorem F_Town_windIn_b25_ok {d : Nat} {q : (Int32 × LH)} (hd : 0 ≤ d) {u0 : Value} {u1 : Value} {h : LH} : F_Town_windIn_b25 h = some q → JR d jM_105 25 [u0, u1] [] h (jo_i q) := by
 unfold F_Town_windIn_b25
 exact jr_iconst 25 26 (0 : Int32) rfl jc_i_0 rfl
  ((F_Town_windIn_b26_ok hd ))
noncomputable def F_Town_windIn (l0 : Nat) (l1 : Int32) (h : LH) : Option (Int32 × LH) :=
 jf_gi h l0 8 2 fun v1 =>
 if 0 < v1 then
 if l1 < 0 then
 F_Town_windIn_b25  h
else
 jf_gr h l0 8 11 fun v2 =>
 jf_gi h l0 8 2 fun v3 =>
 jf_dv v3 (l1 - l1 / v3 * v3) fun v4 =>
 jf_ia h v2 v4 fun v5 =>
 F_Town_windIn_b26  v5 h
else
 F_Town_windIn_b25  h
set_option maxRecDepth 100000 in
theorem F_Town_windIn_ok {d : Nat} (hd : 1 ≤ d) {l0 : Nat} {l1 : Int32} {h : LH} {q : (Int32 × LH)} : F_Town_windIn l0 l1 h = some q → jl_Sem jt_T jt_Ms d 105 [.ref l0, .int l1] h (jo_i q) := by
 unfold F_Town_windIn
 exact jr_enter (D := 0) hd jM_105_at rfl rfl rfl (fun d hd =>
  jr_aloadn 0 1 rfl rfl rfl
  (jr_gi 1 4 rfl jg_8_55_1 rfl (fun v1 =>
  jr_if_le 4 25 7 rfl rfl rfl
  ((F_Town_windIn_b25_ok hd ))
  (jr_iloadn 7 8 rfl rfl rfl
  (jr_if_lt 8 25 11 rfl rfl rfl
  ((F_Town_windIn_b25_ok hd ))
  (jr_aloadn 11 12 rfl rfl rfl
  (jr_gr 12 15 rfl jg_8_27_2 rfl (fun v2 =>
  jr_iloadn 15 16 rfl rfl rfl
  (jr_aloadn 16 17 rfl rfl rfl
  (jr_gi 17 20 rfl jg_8_55_1 rfl (fun v3 =>
  jr_irem 20 21 rfl rfl (fun v4 =>
  jr_ia 21 22 rfl rfl (fun v5 =>
  jr_goto 22 26 rfl rfl
  ((F_Town_windIn_b26_ok hd )))))))))))))))
noncomputable def jM_106 : JMeth := (8, false, 2, jk_106, [], 3)
set_option maxRecDepth 100000 in
theorem jM_106_at : jt_Ms 106 = some jM_106 := rfl
noncomputable def F_Town_rainsIn_b32 (k2 : Nat → Int32 → Int32 → LH → Option (Int32 × LH)) (l0 : Nat) (l1 : Int32) (l2 : Int32) (h : LH) : Option (Int32 × LH) :=
 k2 l0 l1 (l2 + (1 : Int32)) h
set_option maxRecDepth 100000 in
theorem F_Town_rainsIn_b32_ok {d : Nat} {q : (Int32 × LH)} {k2 : Nat → Int32 → Int32 → LH → Option (Int32 × LH)} (hd : 0 ≤ d) (hk2 : ∀ (l0 : Nat) (l1 : Int32) (l2 : Int32) (h : LH), k2 l0 l1 l2 h = some q → JR d jM_106 2 [.ref l0, .int l1, .int l2] [] h (jo_i q)) {l0 : Nat} {l1 : Int32} {l2 : Int32} {h : LH} : F_Town_rainsIn_b32 k2 l0 l1 l2 h = some q → JR d jM_106 32 [.ref l0, .int l1, .int l2] [] h (jo_i q) := by
 unfold F_Town_rainsIn_b32
 exact jr_iinc 32 35 [.ref l0, .int l1, .int (l2 + (1 : Int32))] rfl jc_i_1 rfl rfl rfl rfl
  (jr_goto 35 2 rfl rfl
  ((hk2 _ _ _ _)))
noncomputable def F_Town_rainsIn_c2 (k2 : Nat → Int32 → Int32 → LH → Option (Int32 × LH)) (l0 : Nat) (l1 : Int32) (l2 : Int32) (h : LH) : Option (Int32 × LH) :=
 jf_gi h l0 8 3 fun v1 =>
 if l2 < v1 then
 jf_gr h l0 8 12 fun v2 =>
 jf_ia h v2 l2 fun v3 =>
 if l1 < v3 then
 F_Town_rainsIn_b32 k2 l0 l1 l2 h
else
 jf_gr h l0 8 13 fun v4 =>
 jf_ia h v4 l2 fun v5 =>
 if v5 < l1 then
 F_Town_rainsIn_b32 k2 l0 l1 l2 h
else
 jf_rz (1 : Int32) (some ((1 : Int32), h))
else
 jf_rz (0 : Int32) (some ((0 : Int32), h))
set_option maxRecDepth 100000 in
theorem F_Town_rainsIn_c2_ok {d : Nat} {q : (Int32 × LH)} {k2 : Nat → Int32 → Int32 → LH → Option (Int32 × LH)} (hd : 0 ≤ d) (hk2 : ∀ (l0 : Nat) (l1 : Int32) (l2 : Int32) (h : LH), k2 l0 l1 l2 h = some q → JR d jM_106 2 [.ref l0, .int l1, .int l2] [] h (jo_i q)) {l0 : Nat} {l1 : Int32} {l2 : Int32} {h : LH} : F_Town_rainsIn_c2 k2 l0 l1 l2 h = some q → JR d jM_106 2 [.ref l0, .int l1, .int l2] [] h (jo_i q) := by
 unfold F_Town_rainsIn_c2
 exact jr_iloadn 2 3 rfl rfl rfl
  (jr_aloadn 3 4 rfl rfl rfl
  (jr_gi 4 7 rfl jg_8_58_1 rfl (fun v1 =>
  jr_icmp_ge 7 38 10 rfl rfl rfl
  (jr_iconst 38 39 (0 : Int32) rfl jc_i_0 rfl
  (jr_rz 39 rfl rfl))
  (jr_iloadn 10 11 rfl rfl rfl
  (jr_aloadn 11 12 rfl rfl rfl
  (jr_gr 12 15 rfl jg_8_30_2 rfl (fun v2 =>
  jr_iloadn 15 16 rfl rfl rfl
  (jr_ia 16 17 rfl rfl (fun v3 =>
  jr_icmp_lt 17 32 20 rfl rfl rfl
  ((F_Town_rainsIn_b32_ok hd hk2))
  (jr_iloadn 20 21 rfl rfl rfl
  (jr_aloadn 21 22 rfl rfl rfl
  (jr_gr 22 25 rfl jg_8_33_2 rfl (fun v4 =>
  jr_iloadn 25 26 rfl rfl rfl
  (jr_ia 26 27 rfl rfl (fun v5 =>
  jr_icmp_gt 27 32 30 rfl rfl rfl
  ((F_Town_rainsIn_b32_ok hd hk2))
  (jr_iconst 30 31 (1 : Int32) rfl jc_i_1 rfl
  (jr_rz 31 rfl rfl)))))))))))))))))
noncomputable def F_Town_rainsIn_l2 : Nat → Nat → Int32 → Int32 → LH → Option (Int32 × LH)
 | 0, _, _, _, _ => none
 | n + 1, l0, l1, l2, h => F_Town_rainsIn_c2 (F_Town_rainsIn_l2 n) l0 l1 l2 h
theorem F_Town_rainsIn_l2_ok {d : Nat} {q : (Int32 × LH)} (hd : 0 ≤ d) : ∀ (n : Nat) (l0 : Nat) (l1 : Int32) (l2 : Int32) (h : LH), F_Town_rainsIn_l2 n l0 l1 l2 h = some q → JR d jM_106 2 [.ref l0, .int l1, .int l2] [] h (jo_i q)
 | 0 => fun _ _ _ _ hq => nomatch (show (none : Option (Int32 × LH)) = some q from hq)
 | n + 1 => fun _ _ _ _ hq => F_Town_rainsIn_c2_ok hd (F_Town_rainsIn_l2_ok hd n) hq
noncomputable def F_Town_rainsIn (l0 : Nat) (l1 : Int32) (h : LH) : Option (Int32 × LH) :=
 F_Town_rainsIn_l2  jF l0 l1 (0 : Int32) h
set_option maxRecDepth 100000 in
theorem F_Town_rainsIn_ok {d : Nat} (hd : 1 ≤ d) {l0 : Nat} {l1 : Int32} {h : LH} {q : (Int32 × LH)} : F_Town_rainsIn l0 l1 h = some q → jl_Sem jt_T jt_Ms d 106 [.ref l0, .int l1] h (jo_i q) := by
 unfold F_Town_rainsIn
 exact jr_enter (D := 0) hd jM_106_at rfl rfl rfl (fun d hd =>
  jr_iconst 0 1 (0 : Int32) rfl jc_i_0 rfl
  (jr_istoren 1 2 [.ref l0, .int l1, .int (0 : Int32)] rfl rfl rfl rfl
  ((F_Town_rainsIn_l2_ok hd  jF _ _ _ _))))
noncomputable def jM_57 : JMeth := (6, false, 0, jk_57, [], 5)
set_option maxRecDepth 100000 in
theorem jM_57_at : jt_Ms 57 = some jM_57 := rfl
noncomputable def F_Scene_look_c121 (k93 : Nat → Int32 → LH → Option LH) (k121 : Nat → Int32 → Int32 → Int32 → LH → Option LH) (l0 : Nat) (l1 : Int32) (l2 : Int32) (l3 : Int32) (h : LH) : Option LH :=
 jf_kd h l0 6
 (jf_bi (F_Scene_burning l0 l1 h) fun v1 h2 =>
 if l3 < v1 then
 jf_kd h2 l0 6
 (jf_bi (F_Scene_woodOf l0 l1 l3 h2) fun v3 h4 =>
 jf_gr h4 l0 6 7 fun v5 =>
 jf_ia h4 v5 l2 fun v6 =>
 jf_kd h4 l0 6
 (jf_bi (F_Scene_thickNow l0 v3 h4) fun v7 h8 =>
 jf_is h8 v5 l2 (v6 + v7) fun h9 =>
 jf_gr h9 l0 6 8 fun v10 =>
 jf_ia h9 v10 l2 fun v11 =>
 jf_gr h9 l0 6 1 fun v12 =>
 jf_gr h9 v12 8 9 fun v13 =>
 jf_ia h9 v13 v3 fun v14 =>
 jf_is h9 v10 l2 (v11 ||| v14) fun h15 =>
 k121 l0 l1 l2 (l3 + (1 : Int32)) h15))
else
 k93 l0 (l1 + (1 : Int32)) h2)
set_option maxRecDepth 100000 in
theorem F_Scene_look_c121_ok {d : Nat} {q : LH} {k93 : Nat → Int32 → LH → Option LH} {k121 : Nat → Int32 → Int32 → Int32 → LH → Option LH} (hd : 1 ≤ d) (hk93 : ∀ (l0 : Nat) (l1 : Int32) (u2 : Value) (u3 : Value) (u4 : Value) (h : LH), k93 l0 l1 h = some q → JR d jM_57 93 [.ref l0, .int l1, u2, u3, u4] [] h (jo_v q)) (hk121 : ∀ (l0 : Nat) (l1 : Int32) (l2 : Int32) (l3 : Int32) (u4 : Value) (h : LH), k121 l0 l1 l2 l3 h = some q → JR d jM_57 121 [.ref l0, .int l1, .int l2, .int l3, u4] [] h (jo_v q)) {l0 : Nat} {l1 : Int32} {l2 : Int32} {l3 : Int32} {u4 : Value} {h : LH} : F_Scene_look_c121 k93 k121 l0 l1 l2 l3 h = some q → JR d jM_57 121 [.ref l0, .int l1, .int l2, .int l3, u4] [] h (jo_v q) := by
 unfold F_Scene_look_c121
 exact jr_iloadn 121 122 rfl rfl rfl
  (jr_aloadn 122 123 rfl rfl rfl
  (jr_iloadn 123 124 rfl rfl rfl
  (jr_cVi 124 127 [.int l3] rfl rfl rfl rfl rfl rfl rfl rfl (as := [.int l1]) (F_Scene_burning_ok (Nat.le_trans (by decide : 1 ≤ 1) hd)) (fun v1 h2 =>
  jr_icmp_ge 127 178 130 rfl rfl rfl
  (jr_iinc 178 181 [.ref l0, .int (l1 + (1 : Int32)), .int l2, .int l3, u4] rfl jc_i_1 rfl rfl rfl rfl
  (jr_goto 181 93 rfl rfl
  ((hk93 _ _ _ _ _ _))))
  (jr_aloadn 130 131 rfl rfl rfl
  (jr_iloadn 131 132 rfl rfl rfl
  (jr_iloadn 132 133 rfl rfl rfl
  (jr_cVi 133 136 [] rfl rfl rfl rfl rfl rfl rfl rfl (as := [.int l1, .int l3]) (F_Scene_woodOf_ok (Nat.le_trans (by decide : 1 ≤ 1) hd)) (fun v3 h4 =>
  jr_istore 136 138 [.ref l0, .int l1, .int l2, .int l3, .int v3] rfl rfl rfl rfl
  (jr_aloadn 138 139 rfl rfl rfl
  (jr_gr 139 142 rfl jg_6_15_2 rfl (fun v5 =>
  jr_iloadn 142 143 rfl rfl rfl
  (jr_dup2 143 144 rfl rfl rfl rfl
  (jr_ia 144 145 rfl rfl (fun v6 =>
  jr_aloadn 145 146 rfl rfl rfl
  (jr_iload 146 148 rfl rfl rfl
  (jr_cVi 148 151 [.int v6, .int l2, .ref v5] rfl rfl rfl rfl rfl rfl rfl rfl (as := [.int v3]) (F_Scene_thickNow_ok (Nat.le_trans (by decide : 1 ≤ 1) hd)) (fun v7 h8 =>
  jr_iadd 151 152 rfl rfl
  (jr_is 152 153 rfl rfl (fun h9 =>
  jr_aloadn 153 154 rfl rfl rfl
  (jr_gr 154 157 rfl jg_6_18_2 rfl (fun v10 =>
  jr_iloadn 157 158 rfl rfl rfl
  (jr_dup2 158 159 rfl rfl rfl rfl
  (jr_ia 159 160 rfl rfl (fun v11 =>
  jr_aloadn 160 161 rfl rfl rfl
  (jr_gr 161 164 rfl jg_6_26_2 rfl (fun v12 =>
  jr_gr 164 167 rfl jg_6_99_2 rfl (fun v13 =>
  jr_iload 167 169 rfl rfl rfl
  (jr_ia 169 170 rfl rfl (fun v14 =>
  jr_ior 170 171 rfl rfl
  (jr_is 171 172 rfl rfl (fun h15 =>
  jr_iinc 172 175 [.ref l0, .int l1, .int l2, .int (l3 + (1 : Int32)), .int v3] rfl jc_i_1 rfl rfl rfl rfl
  (jr_goto 175 121 rfl rfl
  ((hk121 _ _ _ _ _ _)))))))))))))))))))))))))))))))))))
noncomputable def F_Scene_look_l121 (k93 : Nat → Int32 → LH → Option LH) : Nat → Nat → Int32 → Int32 → Int32 → LH → Option LH
 | 0, _, _, _, _, _ => none
 | n + 1, l0, l1, l2, l3, h => F_Scene_look_c121 k93 (F_Scene_look_l121 k93 n) l0 l1 l2 l3 h
theorem F_Scene_look_l121_ok {d : Nat} {q : LH} {k93 : Nat → Int32 → LH → Option LH} (hd : 1 ≤ d) (hk93 : ∀ (l0 : Nat) (l1 : Int32) (u2 : Value) (u3 : Value) (u4 : Value) (h : LH), k93 l0 l1 h = some q → JR d jM_57 93 [.ref l0, .int l1, u2, u3, u4] [] h (jo_v q)) : ∀ (n : Nat) (l0 : Nat) (l1 : Int32) (l2 : Int32) (l3 : Int32) (u4 : Value) (h : LH), F_Scene_look_l121 k93 n l0 l1 l2 l3 h = some q → JR d jM_57 121 [.ref l0, .int l1, .int l2, .int l3, u4] [] h (jo_v q)
 | 0 => fun _ _ _ _ _ _ hq => nomatch (show (none : Option LH) = some q from hq)
 | n + 1 => fun _ _ _ _ _ _ hq => F_Scene_look_c121_ok hd hk93 (F_Scene_look_l121_ok hd hk93 n) hq
noncomputable def F_Scene_look_c93 (k93 : Nat → Int32 → LH → Option LH) (l0 : Nat) (l1 : Int32) (h : LH) : Option LH :=
 jf_gr h l0 6 1 fun v1 =>
 jf_gi h v1 8 0 fun v2 =>
 if l1 < v2 then
 jf_gr h l0 6 1 fun v3 =>
 jf_gr h v3 8 6 fun v4 =>
 jf_ia h v4 l1 fun v5 =>
 jf_kd h l0 6
 (jf_bi (F_Scene_standsByLean l0 l1 v5 h) fun v6 h7 =>
 F_Scene_look_l121 k93 jF l0 l1 v6 (0 : Int32) h7)
else
 some h
set_option maxRecDepth 100000 in
theorem F_Scene_look_c93_ok {d : Nat} {q : LH} {k93 : Nat → Int32 → LH → Option LH} (hd : 1 ≤ d) (hk93 : ∀ (l0 : Nat) (l1 : Int32) (u2 : Value) (u3 : Value) (u4 : Value) (h : LH), k93 l0 l1 h = some q → JR d jM_57 93 [.ref l0, .int l1, u2, u3, u4] [] h (jo_v q)) {l0 : Nat} {l1 : Int32} {u2 : Value} {u3 : Value} {u4 : Value} {h : LH} : F_Scene_look_c93 k93 l0 l1 h = some q → JR d jM_57 93 [.ref l0, .int l1, u2, u3, u4] [] h (jo_v q) := by
 unfold F_Scene_look_c93
 exact jr_iloadn 93 94 rfl rfl rfl
  (jr_aloadn 94 95 rfl rfl rfl
  (jr_gr 95 98 rfl jg_6_26_2 rfl (fun v1 =>
  jr_gi 98 101 rfl jg_6_72_1 rfl (fun v2 =>
  jr_icmp_ge 101 184 104 rfl rfl rfl
  (jr_rv 184 rfl rfl)
  (jr_aloadn 104 105 rfl rfl rfl
  (jr_iloadn 105 106 rfl rfl rfl
  (jr_aloadn 106 107 rfl rfl rfl
  (jr_gr 107 110 rfl jg_6_26_2 rfl (fun v3 =>
  jr_gr 110 113 rfl jg_6_65_2 rfl (fun v4 =>
  jr_iloadn 113 114 rfl rfl rfl
  (jr_ia 114 115 rfl rfl (fun v5 =>
  jr_cVi 115 118 [] rfl rfl rfl rfl rfl rfl rfl rfl (as := [.int l1, .int v5]) (F_Scene_standsByLean_ok (Nat.le_trans (by decide : 1 ≤ 1) hd)) (fun v6 h7 =>
  jr_istoren 118 119 [.ref l0, .int l1, .int v6, u3, u4] rfl rfl rfl rfl
  (jr_iconst 119 120 (0 : Int32) rfl jc_i_0 rfl
  (jr_istoren 120 121 [.ref l0, .int l1, .int v6, .int (0 : Int32), u4] rfl rfl rfl rfl
  ((F_Scene_look_l121_ok hd hk93 jF _ _ _ _ _ _)))))))))))))))))
noncomputable def F_Scene_look_l93 : Nat → Nat → Int32 → LH → Option LH
 | 0, _, _, _ => none
 | n + 1, l0, l1, h => F_Scene_look_c93 (F_Scene_look_l93 n) l0 l1 h
theorem F_Scene_look_l93_ok {d : Nat} {q : LH} (hd : 1 ≤ d) : ∀ (n : Nat) (l0 : Nat) (l1 : Int32) (u2 : Value) (u3 : Value) (u4 : Value) (h : LH), F_Scene_look_l93 n l0 l1 h = some q → JR d jM_57 93 [.ref l0, .int l1, u2, u3, u4] [] h (jo_v q)
 | 0 => fun _ _ _ _ _ _ hq => nomatch (show (none : Option LH) = some q from hq)
 | n + 1 => fun _ _ _ _ _ _ hq => F_Scene_look_c93_ok hd (F_Scene_look_l93_ok hd n) hq
noncomputable def F_Scene_look_c60 (k60 : Nat → Int32 → LH → Option LH) (l0 : Nat) (l1 : Int32) (h : LH) : Option LH :=
 jf_gr h l0 6 1 fun v1 =>
 jf_gi h v1 8 0 fun v2 =>
 if l1 < v2 then
 jf_gr h l0 6 7 fun v3 =>
 jf_is h v3 l1 (0 : Int32) fun h4 =>
 jf_gr h4 l0 6 8 fun v5 =>
 jf_is h4 v5 l1 (0 : Int32) fun h6 =>
 k60 l0 (l1 + (1 : Int32)) h6
else
 F_Scene_look_l93  jF l0 (0 : Int32) h
set_option maxRecDepth 100000 in
theorem F_Scene_look_c60_ok {d : Nat} {q : LH} {k60 : Nat → Int32 → LH → Option LH} (hd : 1 ≤ d) (hk60 : ∀ (l0 : Nat) (l1 : Int32) (u2 : Value) (u3 : Value) (u4 : Value) (h : LH), k60 l0 l1 h = some q → JR d jM_57 60 [.ref l0, .int l1, u2, u3, u4] [] h (jo_v q)) {l0 : Nat} {l1 : Int32} {u2 : Value} {u3 : Value} {u4 : Value} {h : LH} : F_Scene_look_c60 k60 l0 l1 h = some q → JR d jM_57 60 [.ref l0, .int l1, u2, u3, u4] [] h (jo_v q) := by
 unfold F_Scene_look_c60
 exact jr_iloadn 60 61 rfl rfl rfl
  (jr_aloadn 61 62 rfl rfl rfl
  (jr_gr 62 65 rfl jg_6_26_2 rfl (fun v1 =>
  jr_gi 65 68 rfl jg_6_72_1 rfl (fun v2 =>
  jr_icmp_ge 68 91 71 rfl rfl rfl
  (jr_iconst 91 92 (0 : Int32) rfl jc_i_0 rfl
  (jr_istoren 92 93 [.ref l0, .int (0 : Int32), u2, u3, u4] rfl rfl rfl rfl
  ((F_Scene_look_l93_ok hd  jF _ _ _ _ _ _))))
  (jr_aloadn 71 72 rfl rfl rfl
  (jr_gr 72 75 rfl jg_6_15_2 rfl (fun v3 =>
  jr_iloadn 75 76 rfl rfl rfl
  (jr_iconst 76 77 (0 : Int32) rfl jc_i_0 rfl
  (jr_is 77 78 rfl rfl (fun h4 =>
  jr_aloadn 78 79 rfl rfl rfl
  (jr_gr 79 82 rfl jg_6_18_2 rfl (fun v5 =>
  jr_iloadn 82 83 rfl rfl rfl
  (jr_iconst 83 84 (0 : Int32) rfl jc_i_0 rfl
  (jr_is 84 85 rfl rfl (fun h6 =>
  jr_iinc 85 88 [.ref l0, .int (l1 + (1 : Int32)), u2, u3, u4] rfl jc_i_1 rfl rfl rfl rfl
  (jr_goto 88 60 rfl rfl
  ((hk60 _ _ _ _ _ _))))))))))))))))))
noncomputable def F_Scene_look_l60 : Nat → Nat → Int32 → LH → Option LH
 | 0, _, _, _ => none
 | n + 1, l0, l1, h => F_Scene_look_c60 (F_Scene_look_l60 n) l0 l1 h
theorem F_Scene_look_l60_ok {d : Nat} {q : LH} (hd : 1 ≤ d) : ∀ (n : Nat) (l0 : Nat) (l1 : Int32) (u2 : Value) (u3 : Value) (u4 : Value) (h : LH), F_Scene_look_l60 n l0 l1 h = some q → JR d jM_57 60 [.ref l0, .int l1, u2, u3, u4] [] h (jo_v q)
 | 0 => fun _ _ _ _ _ _ hq => nomatch (show (none : Option LH) = some q from hq)
 | n + 1 => fun _ _ _ _ _ _ hq => F_Scene_look_c60_ok hd (F_Scene_look_l60_ok hd n) hq
noncomputable def F_Scene_look_b55 (l0 : Nat) (s0 : Nat) (s1 : Int32) (h : LH) : Option LH :=
 jf_pi h s0 6 6 s1 fun h1 =>
 F_Scene_look_l60  jF l0 (0 : Int32) h1
set_option maxRecDepth 100000 in
theorem F_Scene_look_b55_ok {d : Nat} {q : LH} (hd : 1 ≤ d) {l0 : Nat} {s0 : Nat} {s1 : Int32} {u1 : Value} {u2 : Value} {u3 : Value} {u4 : Value} {h : LH} : F_Scene_look_b55 l0 s0 s1 h = some q → JR d jM_57 55 [.ref l0, u1, u2, u3, u4] [.int s1, .ref s0] h (jo_v q) := by
 unfold F_Scene_look_b55
 exact jr_pi 55 58 rfl jg_6_62_3 rfl (fun h1 =>
  jr_iconst 58 59 (0 : Int32) rfl jc_i_0 rfl
  (jr_istoren 59 60 [.ref l0, .int (0 : Int32), u2, u3, u4] rfl rfl rfl rfl
  ((F_Scene_look_l60_ok hd  jF _ _ _ _ _ _))))
noncomputable def F_Scene_look_b50 (l0 : Nat) (s0 : Nat) (h : LH) : Option LH :=
 F_Scene_look_b55  l0 s0 (1 : Int32) h
set_option maxRecDepth 100000 in
theorem F_Scene_look_b50_ok {d : Nat} {q : LH} (hd : 1 ≤ d) {l0 : Nat} {s0 : Nat} {u1 : Value} {u2 : Value} {u3 : Value} {u4 : Value} {h : LH} : F_Scene_look_b50 l0 s0 h = some q → JR d jM_57 50 [.ref l0, u1, u2, u3, u4] [.ref s0] h (jo_v q) := by
 unfold F_Scene_look_b50
 exact jr_iconst 50 51 (1 : Int32) rfl jc_i_1 rfl
  (jr_goto 51 55 rfl rfl
  ((F_Scene_look_b55_ok hd )))
noncomputable def F_Scene_look (l0 : Nat) (h : LH) : Option LH :=
 jf_gi h l0 6 4 fun v1 =>
 if v1 = 0 then
 jf_pz h l0 6 4 (1 : Int32) fun h2 =>
 jf_gr h2 l0 6 1 fun v3 =>
 jf_kd h2 l0 6
 (jf_bi (F_Scene_hourNow l0 h2) fun v4 h5 =>
 jf_kd h5 v3 8
 (jf_bi (F_Town_windIn v3 v4 h5) fun v6 h7 =>
 jf_pi h7 l0 6 5 v6 fun h8 =>
 jf_gi h8 l0 6 3 fun v9 =>
 if v9 = 0 then
 jf_gr h8 l0 6 1 fun v10 =>
 jf_kd h8 l0 6
 (jf_bi (F_Scene_hourNow l0 h8) fun v11 h12 =>
 jf_kd h12 v10 8
 (jf_bi (F_Town_rainsIn v10 v11 h12) fun v13 h14 =>
 if v13 = 0 then
 F_Scene_look_b55  l0 l0 (0 : Int32) h14
else
 F_Scene_look_b50  l0 l0 h14))
else
 F_Scene_look_b50  l0 l0 h8))
else
 some h
set_option maxRecDepth 100000 in
theorem F_Scene_look_ok {d : Nat} (hd : 2 ≤ d) {l0 : Nat} {h : LH} {q : LH} : F_Scene_look l0 h = some q → jl_Sem jt_T jt_Ms d 57 [.ref l0] h (jo_v q) := by
 unfold F_Scene_look
 exact jr_enter (D := 1) hd jM_57_at rfl rfl rfl (fun d hd =>
  jr_aloadn 0 1 rfl rfl rfl
  (jr_gi 1 4 rfl jg_6_47_1 rfl (fun v1 =>
  jr_if_eq 4 8 7 rfl rfl rfl
  (jr_aloadn 8 9 rfl rfl rfl
  (jr_iconst 9 10 (1 : Int32) rfl jc_i_1 rfl
  (jr_pz 10 13 rfl jg_6_47_4 rfl (fun h2 =>
  jr_aloadn 13 14 rfl rfl rfl
  (jr_aloadn 14 15 rfl rfl rfl
  (jr_gr 15 18 rfl jg_6_26_2 rfl (fun v3 =>
  jr_aloadn 18 19 rfl rfl rfl
  (jr_cVi 19 22 [.ref v3, .ref l0] rfl rfl rfl rfl rfl rfl rfl rfl (as := []) (F_Scene_hourNow_ok (Nat.le_trans (by decide : 1 ≤ 1) hd)) (fun v4 h5 =>
  jr_cVi 22 25 [.ref l0] rfl rfl rfl rfl rfl rfl rfl rfl (as := [.int v4]) (F_Town_windIn_ok (Nat.le_trans (by decide : 1 ≤ 1) hd)) (fun v6 h7 =>
  jr_pi 25 28 rfl jg_6_59_3 rfl (fun h8 =>
  jr_aloadn 28 29 rfl rfl rfl
  (jr_aloadn 29 30 rfl rfl rfl
  (jr_gi 30 33 rfl jg_6_43_1 rfl (fun v9 =>
  jr_if_ne 33 50 36 rfl rfl rfl
  ((F_Scene_look_b50_ok hd ))
  (jr_aloadn 36 37 rfl rfl rfl
  (jr_gr 37 40 rfl jg_6_26_2 rfl (fun v10 =>
  jr_aloadn 40 41 rfl rfl rfl
  (jr_cVi 41 44 [.ref v10, .ref l0] rfl rfl rfl rfl rfl rfl rfl rfl (as := []) (F_Scene_hourNow_ok (Nat.le_trans (by decide : 1 ≤ 1) hd)) (fun v11 h12 =>
  jr_cVi 44 47 [.ref l0] rfl rfl rfl rfl rfl rfl rfl rfl (as := [.int v11]) (F_Town_rainsIn_ok (Nat.le_trans (by decide : 1 ≤ 1) hd)) (fun v13 h14 =>
  jr_if_eq 47 54 50 rfl rfl rfl
  (jr_iconst 54 55 (0 : Int32) rfl jc_i_0 rfl
  ((F_Scene_look_b55_ok hd )))
  ((F_Scene_look_b50_ok hd ))))))))))))))))))))))
  (jr_rv 7 rfl rfl))))
noncomputable def jM_71 : JMeth := (6, false, 1, jk_71, [], 2)
set_option maxRecDepth 100000 in
theorem jM_71_at : jt_Ms 71 = some jM_71 := rfl
noncomputable def F_Scene_standsAt (l0 : Nat) (l1 : Int32) (h : LH) : Option (Int32 × LH) :=
 jf_kd h l0 6
 ((F_Scene_look l0 h).bind fun h1 =>
 jf_gr h1 l0 6 1 fun v2 =>
 jf_gr h1 v2 8 6 fun v3 =>
 jf_ia h1 v3 l1 fun v4 =>
 jf_kd h1 l0 6
 (jf_bi (F_Scene_standsByLean l0 l1 v4 h1) fun v5 h6 =>
 some (v5, h6)))
set_option maxRecDepth 100000 in
theorem F_Scene_standsAt_ok {d : Nat} (hd : 3 ≤ d) {l0 : Nat} {l1 : Int32} {h : LH} {q : (Int32 × LH)} : F_Scene_standsAt l0 l1 h = some q → jl_Sem jt_T jt_Ms d 71 [.ref l0, .int l1] h (jo_i q) := by
 unfold F_Scene_standsAt
 exact jr_enter (D := 2) hd jM_71_at rfl rfl rfl (fun d hd =>
  jr_aloadn 0 1 rfl rfl rfl
  (jr_cVv 1 4 [] rfl rfl rfl rfl rfl rfl rfl rfl (as := []) (F_Scene_look_ok (Nat.le_trans (by decide : 2 ≤ 2) hd)) (fun h1 =>
  jr_aloadn 4 5 rfl rfl rfl
  (jr_iloadn 5 6 rfl rfl rfl
  (jr_aloadn 6 7 rfl rfl rfl
  (jr_gr 7 10 rfl jg_6_26_2 rfl (fun v2 =>
  jr_gr 10 13 rfl jg_6_65_2 rfl (fun v3 =>
  jr_iloadn 13 14 rfl rfl rfl
  (jr_ia 14 15 rfl rfl (fun v4 =>
  jr_cVi 15 18 [] rfl rfl rfl rfl rfl rfl rfl rfl (as := [.int l1, .int v4]) (F_Scene_standsByLean_ok (Nat.le_trans (by decide : 1 ≤ 2) hd)) (fun v5 h6 =>
  jr_ri 18 rfl rfl)))))))))))
noncomputable def jM_107 : JMeth := (8, false, 1, jk_107, [], 4)
set_option maxRecDepth 100000 in
theorem jM_107_at : jt_Ms 107 = some jM_107 := rfl
noncomputable def F_Town_scentOfSet_b30 (k4 : Nat → Int32 → Int32 → Int32 → LH → Option (Int32 × LH)) (l0 : Nat) (l1 : Int32) (l2 : Int32) (l3 : Int32) (h : LH) : Option (Int32 × LH) :=
 k4 l0 l1 l2 (l3 + (1 : Int32)) h
set_option maxRecDepth 100000 in
theorem F_Town_scentOfSet_b30_ok {d : Nat} {q : (Int32 × LH)} {k4 : Nat → Int32 → Int32 → Int32 → LH → Option (Int32 × LH)} (hd : 0 ≤ d) (hk4 : ∀ (l0 : Nat) (l1 : Int32) (l2 : Int32) (l3 : Int32) (h : LH), k4 l0 l1 l2 l3 h = some q → JR d jM_107 4 [.ref l0, .int l1, .int l2, .int l3] [] h (jo_i q)) {l0 : Nat} {l1 : Int32} {l2 : Int32} {l3 : Int32} {h : LH} : F_Town_scentOfSet_b30 k4 l0 l1 l2 l3 h = some q → JR d jM_107 30 [.ref l0, .int l1, .int l2, .int l3] [] h (jo_i q) := by
 unfold F_Town_scentOfSet_b30
 exact jr_iinc 30 33 [.ref l0, .int l1, .int l2, .int (l3 + (1 : Int32))] rfl jc_i_1 rfl rfl rfl rfl
  (jr_goto 33 4 rfl rfl
  ((hk4 _ _ _ _ _)))
noncomputable def F_Town_scentOfSet_c4 (k4 : Nat → Int32 → Int32 → Int32 → LH → Option (Int32 × LH)) (l0 : Nat) (l1 : Int32) (l2 : Int32) (l3 : Int32) (h : LH) : Option (Int32 × LH) :=
 jf_gi h l0 8 1 fun v1 =>
 if l3 < v1 then
 if ((l1 >>> (l3 &&& 31)) &&& (1 : Int32)) = (1 : Int32) then
 jf_gr h l0 8 9 fun v2 =>
 jf_ia h v2 l3 fun v3 =>
 jf_let (l2 ||| v3) fun v4 =>
 F_Town_scentOfSet_b30 k4 l0 l1 v4 l3 h
else
 F_Town_scentOfSet_b30 k4 l0 l1 l2 l3 h
else
 some (l2, h)
set_option maxRecDepth 100000 in
theorem F_Town_scentOfSet_c4_ok {d : Nat} {q : (Int32 × LH)} {k4 : Nat → Int32 → Int32 → Int32 → LH → Option (Int32 × LH)} (hd : 0 ≤ d) (hk4 : ∀ (l0 : Nat) (l1 : Int32) (l2 : Int32) (l3 : Int32) (h : LH), k4 l0 l1 l2 l3 h = some q → JR d jM_107 4 [.ref l0, .int l1, .int l2, .int l3] [] h (jo_i q)) {l0 : Nat} {l1 : Int32} {l2 : Int32} {l3 : Int32} {h : LH} : F_Town_scentOfSet_c4 k4 l0 l1 l2 l3 h = some q → JR d jM_107 4 [.ref l0, .int l1, .int l2, .int l3] [] h (jo_i q) := by
 unfold F_Town_scentOfSet_c4
 exact jr_iloadn 4 5 rfl rfl rfl
  (jr_aloadn 5 6 rfl rfl rfl
  (jr_gi 6 9 rfl jg_8_52_1 rfl (fun v1 =>
  jr_icmp_ge 9 36 12 rfl rfl rfl
  (jr_iloadn 36 37 rfl rfl rfl
  (jr_ri 37 rfl rfl))
  (jr_iloadn 12 13 rfl rfl rfl
  (jr_iloadn 13 14 rfl rfl rfl
  (jr_ishr 14 15 rfl rfl
  (jr_iconst 15 16 (1 : Int32) rfl jc_i_1 rfl
  (jr_iand 16 17 rfl rfl
  (jr_iconst 17 18 (1 : Int32) rfl jc_i_1 rfl
  (jr_icmp_ne 18 30 21 rfl rfl rfl
  ((F_Town_scentOfSet_b30_ok hd hk4))
  (jr_iloadn 21 22 rfl rfl rfl
  (jr_aloadn 22 23 rfl rfl rfl
  (jr_gr 23 26 rfl jg_8_21_2 rfl (fun v2 =>
  jr_iloadn 26 27 rfl rfl rfl
  (jr_ia 27 28 rfl rfl (fun v3 =>
  jr_ior 28 29 rfl rfl
  (jr_istorenL 29 30 (fun v4 => [.ref l0, .int l1, .int v4, .int l3]) rfl rfl (fun _ => rfl) rfl (fun v4 =>
  (F_Town_scentOfSet_b30_ok hd hk4)))))))))))))))))))
noncomputable def F_Town_scentOfSet_l4 : Nat → Nat → Int32 → Int32 → Int32 → LH → Option (Int32 × LH)
 | 0, _, _, _, _, _ => none
 | n + 1, l0, l1, l2, l3, h => F_Town_scentOfSet_c4 (F_Town_scentOfSet_l4 n) l0 l1 l2 l3 h
theorem F_Town_scentOfSet_l4_ok {d : Nat} {q : (Int32 × LH)} (hd : 0 ≤ d) : ∀ (n : Nat) (l0 : Nat) (l1 : Int32) (l2 : Int32) (l3 : Int32) (h : LH), F_Town_scentOfSet_l4 n l0 l1 l2 l3 h = some q → JR d jM_107 4 [.ref l0, .int l1, .int l2, .int l3] [] h (jo_i q)
 | 0 => fun _ _ _ _ _ hq => nomatch (show (none : Option (Int32 × LH)) = some q from hq)
 | n + 1 => fun _ _ _ _ _ hq => F_Town_scentOfSet_c4_ok hd (F_Town_scentOfSet_l4_ok hd n) hq
noncomputable def F_Town_scentOfSet (l0 : Nat) (l1 : Int32) (h : LH) : Option (Int32 × LH) :=
 F_Town_scentOfSet_l4  jF l0 l1 (0 : Int32) (0 : Int32) h
set_option maxRecDepth 100000 in
theorem F_Town_scentOfSet_ok {d : Nat} (hd : 1 ≤ d) {l0 : Nat} {l1 : Int32} {h : LH} {q : (Int32 × LH)} : F_Town_scentOfSet l0 l1 h = some q → jl_Sem jt_T jt_Ms d 107 [.ref l0, .int l1] h (jo_i q) := by
 unfold F_Town_scentOfSet
 exact jr_enter (D := 0) hd jM_107_at rfl rfl rfl (fun d hd =>
  jr_iconst 0 1 (0 : Int32) rfl jc_i_0 rfl
  (jr_istoren 1 2 [.ref l0, .int l1, .int (0 : Int32), .retAddr 0] rfl rfl rfl rfl
  (jr_iconst 2 3 (0 : Int32) rfl jc_i_0 rfl
  (jr_istoren 3 4 [.ref l0, .int l1, .int (0 : Int32), .int (0 : Int32)] rfl rfl rfl rfl
  ((F_Town_scentOfSet_l4_ok hd  jF _ _ _ _ _))))))
noncomputable def jM_5 : JMeth := (0, false, 1, jk_5, [], 6)
set_option maxRecDepth 100000 in
theorem jM_5_at : jt_Ms 5 = some jM_5 := rfl
noncomputable def F_Book_fitsOf_b50 (k12 : Nat → Nat → Int32 → Int32 → Int32 → LH → Option (Int32 × LH)) (l0 : Nat) (l1 : Nat) (l3 : Int32) (l4 : Int32) (l5 : Int32) (h : LH) : Option (Int32 × LH) :=
 k12 l0 l1 l3 l4 (l5 + (1 : Int32)) h
set_option maxRecDepth 100000 in
theorem F_Book_fitsOf_b50_ok {d : Nat} {q : (Int32 × LH)} {k12 : Nat → Nat → Int32 → Int32 → Int32 → LH → Option (Int32 × LH)} (hd : 3 ≤ d) (hk12 : ∀ (l0 : Nat) (l1 : Nat) (l3 : Int32) (l4 : Int32) (l5 : Int32) (u2 : Value) (h : LH), k12 l0 l1 l3 l4 l5 h = some q → JR d jM_5 12 [.ref l0, .ref l1, u2, .int l3, .int l4, .int l5] [] h (jo_i q)) {l0 : Nat} {l1 : Nat} {l3 : Int32} {l4 : Int32} {l5 : Int32} {u2 : Value} {h : LH} : F_Book_fitsOf_b50 k12 l0 l1 l3 l4 l5 h = some q → JR d jM_5 50 [.ref l0, .ref l1, u2, .int l3, .int l4, .int l5] [] h (jo_i q) := by
 unfold F_Book_fitsOf_b50
 exact jr_iinc 50 53 [.ref l0, .ref l1, u2, .int l3, .int l4, .int (l5 + (1 : Int32))] rfl jc_i_1 rfl rfl rfl rfl
  (jr_goto 53 12 rfl rfl
  ((hk12 _ _ _ _ _ _ _)))
noncomputable def F_Book_fitsOf_c12 (k12 : Nat → Nat → Int32 → Int32 → Int32 → LH → Option (Int32 × LH)) (l0 : Nat) (l1 : Nat) (l3 : Int32) (l4 : Int32) (l5 : Int32) (h : LH) : Option (Int32 × LH) :=
 jf_gr h l1 6 1 fun v1 =>
 jf_gi h v1 8 1 fun v2 =>
 if l5 < ((1 : Int32) <<< (v2 &&& 31)) then
 jf_gr h l1 6 1 fun v3 =>
 jf_gr h l1 6 1 fun v4 =>
 jf_kd h v4 8
 (jf_bi (F_Town_scentOfSet v4 l5 h) fun v5 h6 =>
 jf_kd h6 l0 0
 (jf_bi (F_Book_isFit l0 v3 l3 v5 h6) fun v7 h8 =>
 if v7 = 0 then
 F_Book_fitsOf_b50 k12 l0 l1 l3 l4 l5 h8
else
 F_Book_fitsOf_b50 k12 l0 l1 l3 (l4 + (1 : Int32)) l5 h8))
else
 some (l4, h)
set_option maxRecDepth 100000 in
theorem F_Book_fitsOf_c12_ok {d : Nat} {q : (Int32 × LH)} {k12 : Nat → Nat → Int32 → Int32 → Int32 → LH → Option (Int32 × LH)} (hd : 3 ≤ d) (hk12 : ∀ (l0 : Nat) (l1 : Nat) (l3 : Int32) (l4 : Int32) (l5 : Int32) (u2 : Value) (h : LH), k12 l0 l1 l3 l4 l5 h = some q → JR d jM_5 12 [.ref l0, .ref l1, u2, .int l3, .int l4, .int l5] [] h (jo_i q)) {l0 : Nat} {l1 : Nat} {l3 : Int32} {l4 : Int32} {l5 : Int32} {u2 : Value} {h : LH} : F_Book_fitsOf_c12 k12 l0 l1 l3 l4 l5 h = some q → JR d jM_5 12 [.ref l0, .ref l1, u2, .int l3, .int l4, .int l5] [] h (jo_i q) := by
 unfold F_Book_fitsOf_c12
 exact jr_iload 12 14 rfl rfl rfl
  (jr_iconst 14 15 (1 : Int32) rfl jc_i_1 rfl
  (jr_aloadn 15 16 rfl rfl rfl
  (jr_gr 16 19 rfl jg_0_65_2 rfl (fun v1 =>
  jr_gi 19 22 rfl jg_0_69_1 rfl (fun v2 =>
  jr_ishl 22 23 rfl rfl
  (jr_icmp_ge 23 56 26 rfl rfl rfl
  (jr_iload 56 58 rfl rfl rfl
  (jr_ri 58 rfl rfl))
  (jr_aloadn 26 27 rfl rfl rfl
  (jr_aloadn 27 28 rfl rfl rfl
  (jr_gr 28 31 rfl jg_0_65_2 rfl (fun v3 =>
  jr_iloadn 31 32 rfl rfl rfl
  (jr_aloadn 32 33 rfl rfl rfl
  (jr_gr 33 36 rfl jg_0_65_2 rfl (fun v4 =>
  jr_iload 36 38 rfl rfl rfl
  (jr_cVi 38 41 [.int l3, .ref v3, .ref l0] rfl rfl rfl rfl rfl rfl rfl rfl (as := [.int l5]) (F_Town_scentOfSet_ok (Nat.le_trans (by decide : 1 ≤ 3) hd)) (fun v5 h6 =>
  jr_cVi 41 44 [] rfl rfl rfl rfl rfl rfl rfl rfl (as := [.ref v3, .int l3, .int v5]) (F_Book_isFit_ok (Nat.le_trans (by decide : 2 ≤ 3) hd)) (fun v7 h8 =>
  jr_if_eq 44 50 47 rfl rfl rfl
  ((F_Book_fitsOf_b50_ok hd hk12))
  (jr_iinc 47 50 [.ref l0, .ref l1, u2, .int l3, .int (l4 + (1 : Int32)), .int l5] rfl jc_i_1 rfl rfl rfl rfl
  ((F_Book_fitsOf_b50_ok hd hk12)))))))))))))))))))
noncomputable def F_Book_fitsOf_l12 : Nat → Nat → Nat → Int32 → Int32 → Int32 → LH → Option (Int32 × LH)
 | 0, _, _, _, _, _, _ => none
 | n + 1, l0, l1, l3, l4, l5, h => F_Book_fitsOf_c12 (F_Book_fitsOf_l12 n) l0 l1 l3 l4 l5 h
theorem F_Book_fitsOf_l12_ok {d : Nat} {q : (Int32 × LH)} (hd : 3 ≤ d) : ∀ (n : Nat) (l0 : Nat) (l1 : Nat) (l3 : Int32) (l4 : Int32) (l5 : Int32) (u2 : Value) (h : LH), F_Book_fitsOf_l12 n l0 l1 l3 l4 l5 h = some q → JR d jM_5 12 [.ref l0, .ref l1, u2, .int l3, .int l4, .int l5] [] h (jo_i q)
 | 0 => fun _ _ _ _ _ _ _ hq => nomatch (show (none : Option (Int32 × LH)) = some q from hq)
 | n + 1 => fun _ _ _ _ _ _ _ hq => F_Book_fitsOf_c12_ok hd (F_Book_fitsOf_l12_ok hd n) hq
noncomputable def F_Book_fitsOf (l0 : Nat) (l1 : Nat) (l2 : Int32) (h : LH) : Option (Int32 × LH) :=
 jf_kd h l1 6
 (jf_bi (F_Scene_standsAt l1 l2 h) fun v1 h2 =>
 F_Book_fitsOf_l12  jF l0 l1 v1 (0 : Int32) (1 : Int32) h2)
set_option maxRecDepth 100000 in
theorem F_Book_fitsOf_ok {d : Nat} (hd : 4 ≤ d) {l0 : Nat} {l1 : Nat} {l2 : Int32} {h : LH} {q : (Int32 × LH)} : F_Book_fitsOf l0 l1 l2 h = some q → jl_Sem jt_T jt_Ms d 5 [.ref l0, .ref l1, .int l2] h (jo_i q) := by
 unfold F_Book_fitsOf
 exact jr_enter (D := 3) hd jM_5_at rfl rfl rfl (fun d hd =>
  jr_aloadn 0 1 rfl rfl rfl
  (jr_iloadn 1 2 rfl rfl rfl
  (jr_cVi 2 5 [] rfl rfl rfl rfl rfl rfl rfl rfl (as := [.int l2]) (F_Scene_standsAt_ok (Nat.le_trans (by decide : 3 ≤ 3) hd)) (fun v1 h2 =>
  jr_istoren 5 6 [.ref l0, .ref l1, .int l2, .int v1, .retAddr 0, .retAddr 0] rfl rfl rfl rfl
  (jr_iconst 6 7 (0 : Int32) rfl jc_i_0 rfl
  (jr_istore 7 9 [.ref l0, .ref l1, .int l2, .int v1, .int (0 : Int32), .retAddr 0] rfl rfl rfl rfl
  (jr_iconst 9 10 (1 : Int32) rfl jc_i_1 rfl
  (jr_istore 10 12 [.ref l0, .ref l1, .int l2, .int v1, .int (0 : Int32), .int (1 : Int32)] rfl rfl rfl rfl
  ((F_Book_fitsOf_l12_ok hd  jF _ _ _ _ _ _ _))))))))))
noncomputable def jM_7 : JMeth := (0, false, 1, jk_7, [], 5)
set_option maxRecDepth 100000 in
theorem jM_7_at : jt_Ms 7 = some jM_7 := rfl
noncomputable def F_Book_firstFit_c9 (k9 : Nat → Nat → Int32 → Int32 → LH → Option (Int32 × LH)) (l0 : Nat) (l1 : Nat) (l3 : Int32) (l4 : Int32) (h : LH) : Option (Int32 × LH) :=
 jf_gr h l1 6 1 fun v1 =>
 jf_gi h v1 8 1 fun v2 =>
 if l4 < ((1 : Int32) <<< (v2 &&& 31)) then
 jf_gr h l1 6 1 fun v3 =>
 jf_gr h l1 6 1 fun v4 =>
 jf_kd h v4 8
 (jf_bi (F_Town_scentOfSet v4 l4 h) fun v5 h6 =>
 jf_kd h6 l0 0
 (jf_bi (F_Book_isFit l0 v3 l3 v5 h6) fun v7 h8 =>
 if v7 = 0 then
 k9 l0 l1 l3 (l4 + (1 : Int32)) h8
else
 some (l4, h8)))
else
 some ((-1 : Int32), h)
set_option maxRecDepth 100000 in
theorem F_Book_firstFit_c9_ok {d : Nat} {q : (Int32 × LH)} {k9 : Nat → Nat → Int32 → Int32 → LH → Option (Int32 × LH)} (hd : 3 ≤ d) (hk9 : ∀ (l0 : Nat) (l1 : Nat) (l3 : Int32) (l4 : Int32) (u2 : Value) (h : LH), k9 l0 l1 l3 l4 h = some q → JR d jM_7 9 [.ref l0, .ref l1, u2, .int l3, .int l4] [] h (jo_i q)) {l0 : Nat} {l1 : Nat} {l3 : Int32} {l4 : Int32} {u2 : Value} {h : LH} : F_Book_firstFit_c9 k9 l0 l1 l3 l4 h = some q → JR d jM_7 9 [.ref l0, .ref l1, u2, .int l3, .int l4] [] h (jo_i q) := by
 unfold F_Book_firstFit_c9
 exact jr_iload 9 11 rfl rfl rfl
  (jr_iconst 11 12 (1 : Int32) rfl jc_i_1 rfl
  (jr_aloadn 12 13 rfl rfl rfl
  (jr_gr 13 16 rfl jg_0_65_2 rfl (fun v1 =>
  jr_gi 16 19 rfl jg_0_69_1 rfl (fun v2 =>
  jr_ishl 19 20 rfl rfl
  (jr_icmp_ge 20 53 23 rfl rfl rfl
  (jr_iconst 53 54 (-1 : Int32) rfl jc_i_m1 rfl
  (jr_ri 54 rfl rfl))
  (jr_aloadn 23 24 rfl rfl rfl
  (jr_aloadn 24 25 rfl rfl rfl
  (jr_gr 25 28 rfl jg_0_65_2 rfl (fun v3 =>
  jr_iloadn 28 29 rfl rfl rfl
  (jr_aloadn 29 30 rfl rfl rfl
  (jr_gr 30 33 rfl jg_0_65_2 rfl (fun v4 =>
  jr_iload 33 35 rfl rfl rfl
  (jr_cVi 35 38 [.int l3, .ref v3, .ref l0] rfl rfl rfl rfl rfl rfl rfl rfl (as := [.int l4]) (F_Town_scentOfSet_ok (Nat.le_trans (by decide : 1 ≤ 3) hd)) (fun v5 h6 =>
  jr_cVi 38 41 [] rfl rfl rfl rfl rfl rfl rfl rfl (as := [.ref v3, .int l3, .int v5]) (F_Book_isFit_ok (Nat.le_trans (by decide : 2 ≤ 3) hd)) (fun v7 h8 =>
  jr_if_eq 41 47 44 rfl rfl rfl
  (jr_iinc 47 50 [.ref l0, .ref l1, u2, .int l3, .int (l4 + (1 : Int32))] rfl jc_i_1 rfl rfl rfl rfl
  (jr_goto 50 9 rfl rfl
  ((hk9 _ _ _ _ _ _))))
  (jr_iload 44 46 rfl rfl rfl
  (jr_ri 46 rfl rfl))))))))))))))))))
noncomputable def F_Book_firstFit_l9 : Nat → Nat → Nat → Int32 → Int32 → LH → Option (Int32 × LH)
 | 0, _, _, _, _, _ => none
 | n + 1, l0, l1, l3, l4, h => F_Book_firstFit_c9 (F_Book_firstFit_l9 n) l0 l1 l3 l4 h
theorem F_Book_firstFit_l9_ok {d : Nat} {q : (Int32 × LH)} (hd : 3 ≤ d) : ∀ (n : Nat) (l0 : Nat) (l1 : Nat) (l3 : Int32) (l4 : Int32) (u2 : Value) (h : LH), F_Book_firstFit_l9 n l0 l1 l3 l4 h = some q → JR d jM_7 9 [.ref l0, .ref l1, u2, .int l3, .int l4] [] h (jo_i q)
 | 0 => fun _ _ _ _ _ _ hq => nomatch (show (none : Option (Int32 × LH)) = some q from hq)
 | n + 1 => fun _ _ _ _ _ _ hq => F_Book_firstFit_c9_ok hd (F_Book_firstFit_l9_ok hd n) hq
noncomputable def F_Book_firstFit (l0 : Nat) (l1 : Nat) (l2 : Int32) (h : LH) : Option (Int32 × LH) :=
 jf_kd h l1 6
 (jf_bi (F_Scene_standsAt l1 l2 h) fun v1 h2 =>
 F_Book_firstFit_l9  jF l0 l1 v1 (1 : Int32) h2)
set_option maxRecDepth 100000 in
theorem F_Book_firstFit_ok {d : Nat} (hd : 4 ≤ d) {l0 : Nat} {l1 : Nat} {l2 : Int32} {h : LH} {q : (Int32 × LH)} : F_Book_firstFit l0 l1 l2 h = some q → jl_Sem jt_T jt_Ms d 7 [.ref l0, .ref l1, .int l2] h (jo_i q) := by
 unfold F_Book_firstFit
 exact jr_enter (D := 3) hd jM_7_at rfl rfl rfl (fun d hd =>
  jr_aloadn 0 1 rfl rfl rfl
  (jr_iloadn 1 2 rfl rfl rfl
  (jr_cVi 2 5 [] rfl rfl rfl rfl rfl rfl rfl rfl (as := [.int l2]) (F_Scene_standsAt_ok (Nat.le_trans (by decide : 3 ≤ 3) hd)) (fun v1 h2 =>
  jr_istoren 5 6 [.ref l0, .ref l1, .int l2, .int v1, .retAddr 0] rfl rfl rfl rfl
  (jr_iconst 6 7 (1 : Int32) rfl jc_i_1 rfl
  (jr_istore 7 9 [.ref l0, .ref l1, .int l2, .int v1, .int (1 : Int32)] rfl rfl rfl rfl
  ((F_Book_firstFit_l9_ok hd  jF _ _ _ _ _ _))))))))
noncomputable def jM_9 : JMeth := (0, false, 0, jk_9, [], 6)
set_option maxRecDepth 100000 in
theorem jM_9_at : jt_Ms 9 = some jM_9 := rfl
noncomputable def F_Book_tallyFit_b54 (k3 : Nat → Nat → Int32 → Int32 → Int32 → LH → Option LH) (l0 : Nat) (l1 : Nat) (l2 : Int32) (l3 : Int32) (l4 : Int32) (h : LH) : Option LH :=
 k3 l0 l1 l2 l3 (l4 + (1 : Int32)) h
set_option maxRecDepth 100000 in
theorem F_Book_tallyFit_b54_ok {d : Nat} {q : LH} {k3 : Nat → Nat → Int32 → Int32 → Int32 → LH → Option LH} (hd : 0 ≤ d) (hk3 : ∀ (l0 : Nat) (l1 : Nat) (l2 : Int32) (l3 : Int32) (l4 : Int32) (u5 : Value) (h : LH), k3 l0 l1 l2 l3 l4 h = some q → JR d jM_9 3 [.ref l0, .ref l1, .int l2, .int l3, .int l4, u5] [] h (jo_v q)) {l0 : Nat} {l1 : Nat} {l2 : Int32} {l3 : Int32} {l4 : Int32} {u5 : Value} {h : LH} : F_Book_tallyFit_b54 k3 l0 l1 l2 l3 l4 h = some q → JR d jM_9 54 [.ref l0, .ref l1, .int l2, .int l3, .int l4, u5] [] h (jo_v q) := by
 unfold F_Book_tallyFit_b54
 exact jr_iinc 54 57 [.ref l0, .ref l1, .int l2, .int l3, .int (l4 + (1 : Int32)), u5] rfl jc_i_1 rfl rfl rfl rfl
  (jr_goto 57 3 rfl rfl
  ((hk3 _ _ _ _ _ _ _)))
noncomputable def F_Book_tallyFit_b23 (k3 : Nat → Nat → Int32 → Int32 → Int32 → LH → Option LH) (l0 : Nat) (l1 : Nat) (l2 : Int32) (l3 : Int32) (l4 : Int32) (s0 : Int32) (h : LH) : Option LH :=
 if s0 < 0 then
 F_Book_tallyFit_b54 k3 l0 l1 l2 l3 l4 h
else
 if s0 < (32 : Int32) then
 jf_gr h l0 0 1 fun v1 =>
 jf_ia h v1 ((l4 * (32 : Int32)) + s0) fun v2 =>
 jf_is h v1 ((l4 * (32 : Int32)) + s0) (v2 + (1 : Int32)) fun h3 =>
 F_Book_tallyFit_b54 k3 l0 l1 l2 l3 l4 h3
else
 F_Book_tallyFit_b54 k3 l0 l1 l2 l3 l4 h
set_option maxRecDepth 100000 in
theorem F_Book_tallyFit_b23_ok {d : Nat} {q : LH} {k3 : Nat → Nat → Int32 → Int32 → Int32 → LH → Option LH} (hd : 0 ≤ d) (hk3 : ∀ (l0 : Nat) (l1 : Nat) (l2 : Int32) (l3 : Int32) (l4 : Int32) (u5 : Value) (h : LH), k3 l0 l1 l2 l3 l4 h = some q → JR d jM_9 3 [.ref l0, .ref l1, .int l2, .int l3, .int l4, u5] [] h (jo_v q)) {l0 : Nat} {l1 : Nat} {l2 : Int32} {l3 : Int32} {l4 : Int32} {s0 : Int32} {u5 : Value} {h : LH} : F_Book_tallyFit_b23 k3 l0 l1 l2 l3 l4 s0 h = some q → JR d jM_9 23 [.ref l0, .ref l1, .int l2, .int l3, .int l4, u5] [.int s0] h (jo_v q) := by
 unfold F_Book_tallyFit_b23
 exact jr_istore 23 25 [.ref l0, .ref l1, .int l2, .int l3, .int l4, .int s0] rfl rfl rfl rfl
  (jr_iload 25 27 rfl rfl rfl
  (jr_if_lt 27 54 30 rfl rfl rfl
  ((F_Book_tallyFit_b54_ok hd hk3))
  (jr_iload 30 32 rfl rfl rfl
  (jr_bipush 32 34 (32 : Int32) rfl jc_b_32 rfl
  (jr_icmp_ge 34 54 37 rfl rfl rfl
  ((F_Book_tallyFit_b54_ok hd hk3))
  (jr_aloadn 37 38 rfl rfl rfl
  (jr_gr 38 41 rfl jg_0_15_2 rfl (fun v1 =>
  jr_iload 41 43 rfl rfl rfl
  (jr_bipush 43 45 (32 : Int32) rfl jc_b_32 rfl
  (jr_imul 45 46 rfl rfl
  (jr_iload 46 48 rfl rfl rfl
  (jr_iadd 48 49 rfl rfl
  (jr_dup2 49 50 rfl rfl rfl rfl
  (jr_ia 50 51 rfl rfl (fun v2 =>
  jr_iconst 51 52 (1 : Int32) rfl jc_i_1 rfl
  (jr_iadd 52 53 rfl rfl
  (jr_is 53 54 rfl rfl (fun h3 =>
  (F_Book_tallyFit_b54_ok hd hk3)))))))))))))))))))
noncomputable def F_Book_tallyFit_c3 (k3 : Nat → Nat → Int32 → Int32 → Int32 → LH → Option LH) (l0 : Nat) (l1 : Nat) (l2 : Int32) (l3 : Int32) (l4 : Int32) (h : LH) : Option LH :=
 jf_gi h l1 8 0 fun v1 =>
 if l4 < v1 then
 if l4 = l2 then
 F_Book_tallyFit_b23 k3 l0 l1 l2 l3 l4 l3 h
else
 F_Book_tallyFit_b23 k3 l0 l1 l2 l3 l4 (0 : Int32) h
else
 some h
set_option maxRecDepth 100000 in
theorem F_Book_tallyFit_c3_ok {d : Nat} {q : LH} {k3 : Nat → Nat → Int32 → Int32 → Int32 → LH → Option LH} (hd : 0 ≤ d) (hk3 : ∀ (l0 : Nat) (l1 : Nat) (l2 : Int32) (l3 : Int32) (l4 : Int32) (u5 : Value) (h : LH), k3 l0 l1 l2 l3 l4 h = some q → JR d jM_9 3 [.ref l0, .ref l1, .int l2, .int l3, .int l4, u5] [] h (jo_v q)) {l0 : Nat} {l1 : Nat} {l2 : Int32} {l3 : Int32} {l4 : Int32} {u5 : Value} {h : LH} : F_Book_tallyFit_c3 k3 l0 l1 l2 l3 l4 h = some q → JR d jM_9 3 [.ref l0, .ref l1, .int l2, .int l3, .int l4, u5] [] h (jo_v q) := by
 unfold F_Book_tallyFit_c3
 exact jr_iload 3 5 rfl rfl rfl
  (jr_aloadn 5 6 rfl rfl rfl
  (jr_gi 6 9 rfl jg_0_39_1 rfl (fun v1 =>
  jr_icmp_ge 9 60 12 rfl rfl rfl
  (jr_rv 60 rfl rfl)
  (jr_iload 12 14 rfl rfl rfl
  (jr_iloadn 14 15 rfl rfl rfl
  (jr_icmp_ne 15 22 18 rfl rfl rfl
  (jr_iconst 22 23 (0 : Int32) rfl jc_i_0 rfl
  ((F_Book_tallyFit_b23_ok hd hk3)))
  (jr_iloadn 18 19 rfl rfl rfl
  (jr_goto 19 23 rfl rfl
  ((F_Book_tallyFit_b23_ok hd hk3))))))))))
noncomputable def F_Book_tallyFit_l3 : Nat → Nat → Nat → Int32 → Int32 → Int32 → LH → Option LH
 | 0, _, _, _, _, _, _ => none
 | n + 1, l0, l1, l2, l3, l4, h => F_Book_tallyFit_c3 (F_Book_tallyFit_l3 n) l0 l1 l2 l3 l4 h
theorem F_Book_tallyFit_l3_ok {d : Nat} {q : LH} (hd : 0 ≤ d) : ∀ (n : Nat) (l0 : Nat) (l1 : Nat) (l2 : Int32) (l3 : Int32) (l4 : Int32) (u5 : Value) (h : LH), F_Book_tallyFit_l3 n l0 l1 l2 l3 l4 h = some q → JR d jM_9 3 [.ref l0, .ref l1, .int l2, .int l3, .int l4, u5] [] h (jo_v q)
 | 0 => fun _ _ _ _ _ _ _ hq => nomatch (show (none : Option LH) = some q from hq)
 | n + 1 => fun _ _ _ _ _ _ _ hq => F_Book_tallyFit_c3_ok hd (F_Book_tallyFit_l3_ok hd n) hq
noncomputable def F_Book_tallyFit (l0 : Nat) (l1 : Nat) (l2 : Int32) (l3 : Int32) (h : LH) : Option LH :=
 F_Book_tallyFit_l3  jF l0 l1 l2 l3 (0 : Int32) h
set_option maxRecDepth 100000 in
theorem F_Book_tallyFit_ok {d : Nat} (hd : 1 ≤ d) {l0 : Nat} {l1 : Nat} {l2 : Int32} {l3 : Int32} {h : LH} {q : LH} : F_Book_tallyFit l0 l1 l2 l3 h = some q → jl_Sem jt_T jt_Ms d 9 [.ref l0, .ref l1, .int l2, .int l3] h (jo_v q) := by
 unfold F_Book_tallyFit
 exact jr_enter (D := 0) hd jM_9_at rfl rfl rfl (fun d hd =>
  jr_iconst 0 1 (0 : Int32) rfl jc_i_0 rfl
  (jr_istore 1 3 [.ref l0, .ref l1, .int l2, .int l3, .int (0 : Int32), .retAddr 0] rfl rfl rfl rfl
  ((F_Book_tallyFit_l3_ok hd  jF _ _ _ _ _ _ _))))
noncomputable def jM_8 : JMeth := (0, false, 0, jk_8, [], 6)
set_option maxRecDepth 100000 in
theorem jM_8_at : jt_Ms 8 = some jM_8 := rfl
noncomputable def F_Book_tallySmells_b96 (k26 : Nat → Nat → Int32 → LH → Option LH) (k46 : Nat → Nat → Int32 → Int32 → Int32 → LH → Option LH) (l0 : Nat) (l1 : Nat) (l2 : Int32) (l3 : Int32) (l4 : Int32) (h : LH) : Option LH :=
 k46 l0 l1 l2 l3 (l4 + (1 : Int32)) h
set_option maxRecDepth 100000 in
theorem F_Book_tallySmells_b96_ok {d : Nat} {q : LH} {k26 : Nat → Nat → Int32 → LH → Option LH} {k46 : Nat → Nat → Int32 → Int32 → Int32 → LH → Option LH} (hd : 3 ≤ d) (hk26 : ∀ (l0 : Nat) (l1 : Nat) (l2 : Int32) (u3 : Value) (u4 : Value) (u5 : Value) (h : LH), k26 l0 l1 l2 h = some q → JR d jM_8 26 [.ref l0, .ref l1, .int l2, u3, u4, u5] [] h (jo_v q)) (hk46 : ∀ (l0 : Nat) (l1 : Nat) (l2 : Int32) (l3 : Int32) (l4 : Int32) (u5 : Value) (h : LH), k46 l0 l1 l2 l3 l4 h = some q → JR d jM_8 46 [.ref l0, .ref l1, .int l2, .int l3, .int l4, u5] [] h (jo_v q)) {l0 : Nat} {l1 : Nat} {l2 : Int32} {l3 : Int32} {l4 : Int32} {u5 : Value} {h : LH} : F_Book_tallySmells_b96 k26 k46 l0 l1 l2 l3 l4 h = some q → JR d jM_8 96 [.ref l0, .ref l1, .int l2, .int l3, .int l4, u5] [] h (jo_v q) := by
 unfold F_Book_tallySmells_b96
 exact jr_iinc 96 99 [.ref l0, .ref l1, .int l2, .int l3, .int (l4 + (1 : Int32)), u5] rfl jc_i_1 rfl rfl rfl rfl
  (jr_goto 99 46 rfl rfl
  ((hk46 _ _ _ _ _ _ _)))
noncomputable def F_Book_tallySmells_c46 (k26 : Nat → Nat → Int32 → LH → Option LH) (k46 : Nat → Nat → Int32 → Int32 → Int32 → LH → Option LH) (l0 : Nat) (l1 : Nat) (l2 : Int32) (l3 : Int32) (l4 : Int32) (h : LH) : Option LH :=
 jf_gr h l1 6 1 fun v1 =>
 jf_gi h v1 8 1 fun v2 =>
 if l4 < ((1 : Int32) <<< (v2 &&& 31)) then
 jf_gr h l1 6 1 fun v3 =>
 jf_kd h v3 8
 (jf_bi (F_Town_scentOfSet v3 l4 h) fun v4 h5 =>
 jf_gr h5 l1 6 1 fun v6 =>
 jf_kd h5 l0 0
 (jf_bi (F_Book_isFit l0 v6 l3 v4 h5) fun v7 h8 =>
 if v7 = 0 then
 F_Book_tallySmells_b96 k26 k46 l0 l1 l2 l3 l4 h8
else
 jf_gr h8 l1 6 1 fun v9 =>
 jf_kd h8 l0 0
 ((F_Book_tallyFit l0 v9 l3 v4 h8).bind fun h10 =>
 F_Book_tallySmells_b96 k26 k46 l0 l1 l2 l3 l4 h10)))
else
 k26 l0 l1 (l2 + (1 : Int32)) h
set_option maxRecDepth 100000 in
theorem F_Book_tallySmells_c46_ok {d : Nat} {q : LH} {k26 : Nat → Nat → Int32 → LH → Option LH} {k46 : Nat → Nat → Int32 → Int32 → Int32 → LH → Option LH} (hd : 3 ≤ d) (hk26 : ∀ (l0 : Nat) (l1 : Nat) (l2 : Int32) (u3 : Value) (u4 : Value) (u5 : Value) (h : LH), k26 l0 l1 l2 h = some q → JR d jM_8 26 [.ref l0, .ref l1, .int l2, u3, u4, u5] [] h (jo_v q)) (hk46 : ∀ (l0 : Nat) (l1 : Nat) (l2 : Int32) (l3 : Int32) (l4 : Int32) (u5 : Value) (h : LH), k46 l0 l1 l2 l3 l4 h = some q → JR d jM_8 46 [.ref l0, .ref l1, .int l2, .int l3, .int l4, u5] [] h (jo_v q)) {l0 : Nat} {l1 : Nat} {l2 : Int32} {l3 : Int32} {l4 : Int32} {u5 : Value} {h : LH} : F_Book_tallySmells_c46 k26 k46 l0 l1 l2 l3 l4 h = some q → JR d jM_8 46 [.ref l0, .ref l1, .int l2, .int l3, .int l4, u5] [] h (jo_v q) := by
 unfold F_Book_tallySmells_c46
 exact jr_iload 46 48 rfl rfl rfl
  (jr_iconst 48 49 (1 : Int32) rfl jc_i_1 rfl
  (jr_aloadn 49 50 rfl rfl rfl
  (jr_gr 50 53 rfl jg_0_65_2 rfl (fun v1 =>
  jr_gi 53 56 rfl jg_0_69_1 rfl (fun v2 =>
  jr_ishl 56 57 rfl rfl
  (jr_icmp_ge 57 102 60 rfl rfl rfl
  (jr_iinc 102 105 [.ref l0, .ref l1, .int (l2 + (1 : Int32)), .int l3, .int l4, u5] rfl jc_i_1 rfl rfl rfl rfl
  (jr_goto 105 26 rfl rfl
  ((hk26 _ _ _ _ _ _ _))))
  (jr_aloadn 60 61 rfl rfl rfl
  (jr_gr 61 64 rfl jg_0_65_2 rfl (fun v3 =>
  jr_iload 64 66 rfl rfl rfl
  (jr_cVi 66 69 [] rfl rfl rfl rfl rfl rfl rfl rfl (as := [.int l4]) (F_Town_scentOfSet_ok (Nat.le_trans (by decide : 1 ≤ 3) hd)) (fun v4 h5 =>
  jr_istore 69 71 [.ref l0, .ref l1, .int l2, .int l3, .int l4, .int v4] rfl rfl rfl rfl
  (jr_aloadn 71 72 rfl rfl rfl
  (jr_aloadn 72 73 rfl rfl rfl
  (jr_gr 73 76 rfl jg_0_65_2 rfl (fun v6 =>
  jr_iloadn 76 77 rfl rfl rfl
  (jr_iload 77 79 rfl rfl rfl
  (jr_cVi 79 82 [] rfl rfl rfl rfl rfl rfl rfl rfl (as := [.ref v6, .int l3, .int v4]) (F_Book_isFit_ok (Nat.le_trans (by decide : 2 ≤ 3) hd)) (fun v7 h8 =>
  jr_if_eq 82 96 85 rfl rfl rfl
  ((F_Book_tallySmells_b96_ok hd hk26 hk46))
  (jr_aloadn 85 86 rfl rfl rfl
  (jr_aloadn 86 87 rfl rfl rfl
  (jr_gr 87 90 rfl jg_0_65_2 rfl (fun v9 =>
  jr_iloadn 90 91 rfl rfl rfl
  (jr_iload 91 93 rfl rfl rfl
  (jr_cVv 93 96 [] rfl rfl rfl rfl rfl rfl rfl rfl (as := [.ref v9, .int l3, .int v4]) (F_Book_tallyFit_ok (Nat.le_trans (by decide : 1 ≤ 3) hd)) (fun h10 =>
  (F_Book_tallySmells_b96_ok hd hk26 hk46))))))))))))))))))))))))))
noncomputable def F_Book_tallySmells_l46 (k26 : Nat → Nat → Int32 → LH → Option LH) : Nat → Nat → Nat → Int32 → Int32 → Int32 → LH → Option LH
 | 0, _, _, _, _, _, _ => none
 | n + 1, l0, l1, l2, l3, l4, h => F_Book_tallySmells_c46 k26 (F_Book_tallySmells_l46 k26 n) l0 l1 l2 l3 l4 h
theorem F_Book_tallySmells_l46_ok {d : Nat} {q : LH} {k26 : Nat → Nat → Int32 → LH → Option LH} (hd : 3 ≤ d) (hk26 : ∀ (l0 : Nat) (l1 : Nat) (l2 : Int32) (u3 : Value) (u4 : Value) (u5 : Value) (h : LH), k26 l0 l1 l2 h = some q → JR d jM_8 26 [.ref l0, .ref l1, .int l2, u3, u4, u5] [] h (jo_v q)) : ∀ (n : Nat) (l0 : Nat) (l1 : Nat) (l2 : Int32) (l3 : Int32) (l4 : Int32) (u5 : Value) (h : LH), F_Book_tallySmells_l46 k26 n l0 l1 l2 l3 l4 h = some q → JR d jM_8 46 [.ref l0, .ref l1, .int l2, .int l3, .int l4, u5] [] h (jo_v q)
 | 0 => fun _ _ _ _ _ _ _ hq => nomatch (show (none : Option LH) = some q from hq)
 | n + 1 => fun _ _ _ _ _ _ _ hq => F_Book_tallySmells_c46_ok hd hk26 (F_Book_tallySmells_l46_ok hd hk26 n) hq
noncomputable def F_Book_tallySmells_c26 (k26 : Nat → Nat → Int32 → LH → Option LH) (l0 : Nat) (l1 : Nat) (l2 : Int32) (h : LH) : Option LH :=
 jf_gr h l1 6 1 fun v1 =>
 jf_gi h v1 8 0 fun v2 =>
 if l2 < v2 then
 jf_kd h l1 6
 (jf_bi (F_Scene_standsAt l1 l2 h) fun v3 h4 =>
 F_Book_tallySmells_l46 k26 jF l0 l1 l2 v3 (1 : Int32) h4)
else
 some h
set_option maxRecDepth 100000 in
theorem F_Book_tallySmells_c26_ok {d : Nat} {q : LH} {k26 : Nat → Nat → Int32 → LH → Option LH} (hd : 3 ≤ d) (hk26 : ∀ (l0 : Nat) (l1 : Nat) (l2 : Int32) (u3 : Value) (u4 : Value) (u5 : Value) (h : LH), k26 l0 l1 l2 h = some q → JR d jM_8 26 [.ref l0, .ref l1, .int l2, u3, u4, u5] [] h (jo_v q)) {l0 : Nat} {l1 : Nat} {l2 : Int32} {u3 : Value} {u4 : Value} {u5 : Value} {h : LH} : F_Book_tallySmells_c26 k26 l0 l1 l2 h = some q → JR d jM_8 26 [.ref l0, .ref l1, .int l2, u3, u4, u5] [] h (jo_v q) := by
 unfold F_Book_tallySmells_c26
 exact jr_iloadn 26 27 rfl rfl rfl
  (jr_aloadn 27 28 rfl rfl rfl
  (jr_gr 28 31 rfl jg_0_65_2 rfl (fun v1 =>
  jr_gi 31 34 rfl jg_0_39_1 rfl (fun v2 =>
  jr_icmp_ge 34 108 37 rfl rfl rfl
  (jr_rv 108 rfl rfl)
  (jr_aloadn 37 38 rfl rfl rfl
  (jr_iloadn 38 39 rfl rfl rfl
  (jr_cVi 39 42 [] rfl rfl rfl rfl rfl rfl rfl rfl (as := [.int l2]) (F_Scene_standsAt_ok (Nat.le_trans (by decide : 3 ≤ 3) hd)) (fun v3 h4 =>
  jr_istoren 42 43 [.ref l0, .ref l1, .int l2, .int v3, u4, u5] rfl rfl rfl rfl
  (jr_iconst 43 44 (1 : Int32) rfl jc_i_1 rfl
  (jr_istore 44 46 [.ref l0, .ref l1, .int l2, .int v3, .int (1 : Int32), u5] rfl rfl rfl rfl
  ((F_Book_tallySmells_l46_ok hd hk26 jF _ _ _ _ _ _ _))))))))))))
noncomputable def F_Book_tallySmells_l26 : Nat → Nat → Nat → Int32 → LH → Option LH
 | 0, _, _, _, _ => none
 | n + 1, l0, l1, l2, h => F_Book_tallySmells_c26 (F_Book_tallySmells_l26 n) l0 l1 l2 h
theorem F_Book_tallySmells_l26_ok {d : Nat} {q : LH} (hd : 3 ≤ d) : ∀ (n : Nat) (l0 : Nat) (l1 : Nat) (l2 : Int32) (u3 : Value) (u4 : Value) (u5 : Value) (h : LH), F_Book_tallySmells_l26 n l0 l1 l2 h = some q → JR d jM_8 26 [.ref l0, .ref l1, .int l2, u3, u4, u5] [] h (jo_v q)
 | 0 => fun _ _ _ _ _ _ _ hq => nomatch (show (none : Option LH) = some q from hq)
 | n + 1 => fun _ _ _ _ _ _ _ hq => F_Book_tallySmells_c26_ok hd (F_Book_tallySmells_l26_ok hd n) hq
noncomputable def F_Book_tallySmells_c2 (k2 : Nat → Nat → Int32 → LH → Option LH) (l0 : Nat) (l1 : Nat) (l2 : Int32) (h : LH) : Option LH :=
 jf_gr h l0 0 1 fun v1 =>
 jf_al h v1 fun v2 =>
 if l2 < v2 then
 jf_gr h l0 0 1 fun v3 =>
 jf_is h v3 l2 (0 : Int32) fun h4 =>
 k2 l0 l1 (l2 + (1 : Int32)) h4
else
 F_Book_tallySmells_l26  jF l0 l1 (0 : Int32) h
set_option maxRecDepth 100000 in
theorem F_Book_tallySmells_c2_ok {d : Nat} {q : LH} {k2 : Nat → Nat → Int32 → LH → Option LH} (hd : 3 ≤ d) (hk2 : ∀ (l0 : Nat) (l1 : Nat) (l2 : Int32) (u3 : Value) (u4 : Value) (u5 : Value) (h : LH), k2 l0 l1 l2 h = some q → JR d jM_8 2 [.ref l0, .ref l1, .int l2, u3, u4, u5] [] h (jo_v q)) {l0 : Nat} {l1 : Nat} {l2 : Int32} {u3 : Value} {u4 : Value} {u5 : Value} {h : LH} : F_Book_tallySmells_c2 k2 l0 l1 l2 h = some q → JR d jM_8 2 [.ref l0, .ref l1, .int l2, u3, u4, u5] [] h (jo_v q) := by
 unfold F_Book_tallySmells_c2
 exact jr_iloadn 2 3 rfl rfl rfl
  (jr_aloadn 3 4 rfl rfl rfl
  (jr_gr 4 7 rfl jg_0_15_2 rfl (fun v1 =>
  jr_al 7 8 rfl rfl (fun v2 =>
  jr_icmp_ge 8 24 11 rfl rfl rfl
  (jr_iconst 24 25 (0 : Int32) rfl jc_i_0 rfl
  (jr_istoren 25 26 [.ref l0, .ref l1, .int (0 : Int32), u3, u4, u5] rfl rfl rfl rfl
  ((F_Book_tallySmells_l26_ok hd  jF _ _ _ _ _ _ _))))
  (jr_aloadn 11 12 rfl rfl rfl
  (jr_gr 12 15 rfl jg_0_15_2 rfl (fun v3 =>
  jr_iloadn 15 16 rfl rfl rfl
  (jr_iconst 16 17 (0 : Int32) rfl jc_i_0 rfl
  (jr_is 17 18 rfl rfl (fun h4 =>
  jr_iinc 18 21 [.ref l0, .ref l1, .int (l2 + (1 : Int32)), u3, u4, u5] rfl jc_i_1 rfl rfl rfl rfl
  (jr_goto 21 2 rfl rfl
  ((hk2 _ _ _ _ _ _ _)))))))))))))
noncomputable def F_Book_tallySmells_l2 : Nat → Nat → Nat → Int32 → LH → Option LH
 | 0, _, _, _, _ => none
 | n + 1, l0, l1, l2, h => F_Book_tallySmells_c2 (F_Book_tallySmells_l2 n) l0 l1 l2 h
theorem F_Book_tallySmells_l2_ok {d : Nat} {q : LH} (hd : 3 ≤ d) : ∀ (n : Nat) (l0 : Nat) (l1 : Nat) (l2 : Int32) (u3 : Value) (u4 : Value) (u5 : Value) (h : LH), F_Book_tallySmells_l2 n l0 l1 l2 h = some q → JR d jM_8 2 [.ref l0, .ref l1, .int l2, u3, u4, u5] [] h (jo_v q)
 | 0 => fun _ _ _ _ _ _ _ hq => nomatch (show (none : Option LH) = some q from hq)
 | n + 1 => fun _ _ _ _ _ _ _ hq => F_Book_tallySmells_c2_ok hd (F_Book_tallySmells_l2_ok hd n) hq
noncomputable def F_Book_tallySmells (l0 : Nat) (l1 : Nat) (h : LH) : Option LH :=
 F_Book_tallySmells_l2  jF l0 l1 (0 : Int32) h
set_option maxRecDepth 100000 in
theorem F_Book_tallySmells_ok {d : Nat} (hd : 4 ≤ d) {l0 : Nat} {l1 : Nat} {h : LH} {q : LH} : F_Book_tallySmells l0 l1 h = some q → jl_Sem jt_T jt_Ms d 8 [.ref l0, .ref l1] h (jo_v q) := by
 unfold F_Book_tallySmells
 exact jr_enter (D := 3) hd jM_8_at rfl rfl rfl (fun d hd =>
  jr_iconst 0 1 (0 : Int32) rfl jc_i_0 rfl
  (jr_istoren 1 2 [.ref l0, .ref l1, .int (0 : Int32), .retAddr 0, .retAddr 0, .retAddr 0] rfl rfl rfl rfl
  ((F_Book_tallySmells_l2_ok hd  jF _ _ _ _ _ _ _))))
noncomputable def jM_10 : JMeth := (0, false, 1, jk_10, [], 4)
set_option maxRecDepth 100000 in
theorem jM_10_at : jt_Ms 10 = some jM_10 := rfl
noncomputable def F_Book_worstSmell_c4 (k4 : Nat → Int32 → Int32 → Int32 → LH → Option (Int32 × LH)) (l0 : Nat) (l1 : Int32) (l2 : Int32) (l3 : Int32) (h : LH) : Option (Int32 × LH) :=
 if l3 < (32 : Int32) then
 jf_gr h l0 0 1 fun v1 =>
 jf_ia h v1 ((l1 * (32 : Int32)) + l3) fun v2 =>
 jf_let (if l2 < v2 then v2 else l2) fun v3 =>
 k4 l0 l1 v3 (l3 + (1 : Int32)) h
else
 some (l2, h)
set_option maxRecDepth 100000 in
theorem F_Book_worstSmell_c4_ok {d : Nat} {q : (Int32 × LH)} {k4 : Nat → Int32 → Int32 → Int32 → LH → Option (Int32 × LH)} (hd : 0 ≤ d) (hk4 : ∀ (l0 : Nat) (l1 : Int32) (l2 : Int32) (l3 : Int32) (h : LH), k4 l0 l1 l2 l3 h = some q → JR d jM_10 4 [.ref l0, .int l1, .int l2, .int l3] [] h (jo_i q)) {l0 : Nat} {l1 : Int32} {l2 : Int32} {l3 : Int32} {h : LH} : F_Book_worstSmell_c4 k4 l0 l1 l2 l3 h = some q → JR d jM_10 4 [.ref l0, .int l1, .int l2, .int l3] [] h (jo_i q) := by
 unfold F_Book_worstSmell_c4
 exact jr_iloadn 4 5 rfl rfl rfl
  (jr_bipush 5 7 (32 : Int32) rfl jc_b_32 rfl
  (jr_icmp_ge 7 32 10 rfl rfl rfl
  (jr_iloadn 32 33 rfl rfl rfl
  (jr_ri 33 rfl rfl))
  (jr_iloadn 10 11 rfl rfl rfl
  (jr_aloadn 11 12 rfl rfl rfl
  (jr_gr 12 15 rfl jg_0_15_2 rfl (fun v1 =>
  jr_iloadn 15 16 rfl rfl rfl
  (jr_bipush 16 18 (32 : Int32) rfl jc_b_32 rfl
  (jr_imul 18 19 rfl rfl
  (jr_iloadn 19 20 rfl rfl rfl
  (jr_iadd 20 21 rfl rfl
  (jr_ia 21 22 rfl rfl (fun v2 =>
  jr_max 22 25 rfl rfl rfl rfl
  (jr_istorenL 25 26 (fun v3 => [.ref l0, .int l1, .int v3, .int l3]) rfl rfl (fun _ => rfl) rfl (fun v3 =>
  jr_iinc 26 29 [.ref l0, .int l1, .int v3, .int (l3 + (1 : Int32))] rfl jc_i_1 rfl rfl rfl rfl
  (jr_goto 29 4 rfl rfl
  ((hk4 _ _ _ _ _)))))))))))))))))
noncomputable def F_Book_worstSmell_l4 : Nat → Nat → Int32 → Int32 → Int32 → LH → Option (Int32 × LH)
 | 0, _, _, _, _, _ => none
 | n + 1, l0, l1, l2, l3, h => F_Book_worstSmell_c4 (F_Book_worstSmell_l4 n) l0 l1 l2 l3 h
theorem F_Book_worstSmell_l4_ok {d : Nat} {q : (Int32 × LH)} (hd : 0 ≤ d) : ∀ (n : Nat) (l0 : Nat) (l1 : Int32) (l2 : Int32) (l3 : Int32) (h : LH), F_Book_worstSmell_l4 n l0 l1 l2 l3 h = some q → JR d jM_10 4 [.ref l0, .int l1, .int l2, .int l3] [] h (jo_i q)
 | 0 => fun _ _ _ _ _ hq => nomatch (show (none : Option (Int32 × LH)) = some q from hq)
 | n + 1 => fun _ _ _ _ _ hq => F_Book_worstSmell_c4_ok hd (F_Book_worstSmell_l4_ok hd n) hq
noncomputable def F_Book_worstSmell (l0 : Nat) (l1 : Int32) (h : LH) : Option (Int32 × LH) :=
 F_Book_worstSmell_l4  jF l0 l1 (0 : Int32) (0 : Int32) h
set_option maxRecDepth 100000 in
theorem F_Book_worstSmell_ok {d : Nat} (hd : 1 ≤ d) {l0 : Nat} {l1 : Int32} {h : LH} {q : (Int32 × LH)} : F_Book_worstSmell l0 l1 h = some q → jl_Sem jt_T jt_Ms d 10 [.ref l0, .int l1] h (jo_i q) := by
 unfold F_Book_worstSmell
 exact jr_enter (D := 0) hd jM_10_at rfl rfl rfl (fun d hd =>
  jr_iconst 0 1 (0 : Int32) rfl jc_i_0 rfl
  (jr_istoren 1 2 [.ref l0, .int l1, .int (0 : Int32), .retAddr 0] rfl rfl rfl rfl
  (jr_iconst 2 3 (0 : Int32) rfl jc_i_0 rfl
  (jr_istoren 3 4 [.ref l0, .int l1, .int (0 : Int32), .int (0 : Int32)] rfl rfl rfl rfl
  ((F_Book_worstSmell_l4_ok hd  jF _ _ _ _ _))))))
noncomputable def jM_11 : JMeth := (1, true, 0, jk_11, [], 2)
set_option maxRecDepth 100000 in
theorem jM_11_at : jt_Ms 11 = some jM_11 := rfl
noncomputable def F_Days_init (l0 : Nat) (l1 : Nat) (h : LH) : Option LH :=
 jf_pr h l0 1 0 l1 fun h1 =>
 some h1
set_option maxRecDepth 100000 in
theorem F_Days_init_ok {d : Nat} (hd : 1 ≤ d) {l0 : Nat} {l1 : Nat} {h : LH} {q : LH} : F_Days_init l0 l1 h = some q → jl_Sem jt_T jt_Ms d 11 [.ref l0, .ref l1] h (jo_v q) := by
 unfold F_Days_init
 exact jr_enter (D := 0) hd jM_11_at rfl rfl rfl (fun d hd =>
  jr_aloadn 0 1 rfl rfl rfl
  (jr_oi 1 4 rfl rfl rfl rfl
  (jr_aloadn 4 5 rfl rfl rfl
  (jr_aloadn 5 6 rfl rfl rfl
  (jr_prF 6 9 rfl rfl jg_1_7_6 rfl (fun h1 =>
  jr_rv 9 rfl rfl))))))
noncomputable def jM_13 : JMeth := (1, false, 1, jk_13, [], 3)
set_option maxRecDepth 100000 in
theorem jM_13_at : jt_Ms 13 = some jM_13 := rfl
noncomputable def F_Days_draw_b38 (s0 : Int32) (h : LH) : Option (Int32 × LH) :=
 some (s0, h)
set_option maxRecDepth 100000 in
theorem F_Days_draw_b38_ok {d : Nat} {q : (Int32 × LH)} (hd : 0 ≤ d) {s0 : Int32} {u0 : Value} {u1 : Value} {u2 : Value} {h : LH} : F_Days_draw_b38 s0 h = some q → JR d jM_13 38 [u0, u1, u2] [.int s0] h (jo_i q) := by
 unfold F_Days_draw_b38
 exact jr_ri 38 rfl rfl
noncomputable def F_Days_draw (l0 : Nat) (l1 : Int32) (h : LH) : Option (Int32 × LH) :=
 jf_gi h l0 1 1 fun v1 =>
 jf_pi h l0 1 1 ((v1 * (1103515245 : Int32)) + (12345 : Int32)) fun h2 =>
 jf_gi h2 l0 1 1 fun v3 =>
 jf_let ((v3 >>> ((16 : Int32) &&& 31)) &&& (32767 : Int32)) fun v4 =>
 if 0 < l1 then
 jf_dv l1 (v4 - v4 / l1 * l1) fun v5 =>
 F_Days_draw_b38  v5 h2
else
 F_Days_draw_b38  (0 : Int32) h2
set_option maxRecDepth 100000 in
theorem F_Days_draw_ok {d : Nat} (hd : 1 ≤ d) {l0 : Nat} {l1 : Int32} {h : LH} {q : (Int32 × LH)} : F_Days_draw l0 l1 h = some q → jl_Sem jt_T jt_Ms d 13 [.ref l0, .int l1] h (jo_i q) := by
 unfold F_Days_draw
 exact jr_enter (D := 0) hd jM_13_at rfl rfl rfl (fun d hd =>
  jr_aloadn 0 1 rfl rfl rfl
  (jr_aloadn 1 2 rfl rfl rfl
  (jr_gi 2 5 rfl jg_1_13_1 rfl (fun v1 =>
  jr_ldci 5 7 rfl rfl rfl rfl
  (jr_imul 7 8 rfl rfl
  (jr_sipush 8 11 (12345 : Int32) rfl jc_s_12345 rfl
  (jr_iadd 11 12 rfl rfl
  (jr_pi 12 15 rfl jg_1_13_3 rfl (fun h2 =>
  jr_aloadn 15 16 rfl rfl rfl
  (jr_gi 16 19 rfl jg_1_13_1 rfl (fun v3 =>
  jr_bipush 19 21 (16 : Int32) rfl jc_b_16 rfl
  (jr_ishr 21 22 rfl rfl
  (jr_sipush 22 25 (32767 : Int32) rfl jc_s_32767 rfl
  (jr_iand 25 26 rfl rfl
  (jr_istorenL 26 27 (fun v4 => [.ref l0, .int l1, .int v4]) rfl rfl (fun _ => rfl) rfl (fun v4 =>
  jr_iloadn 27 28 rfl rfl rfl
  (jr_if_le 28 37 31 rfl rfl rfl
  (jr_iconst 37 38 (0 : Int32) rfl jc_i_0 rfl
  ((F_Days_draw_b38_ok hd )))
  (jr_iloadn 31 32 rfl rfl rfl
  (jr_iloadn 32 33 rfl rfl rfl
  (jr_irem 33 34 rfl rfl (fun v5 =>
  jr_goto 34 38 rfl rfl
  ((F_Days_draw_b38_ok hd )))))))))))))))))))))))
noncomputable def jM_52 : JMeth := (6, false, 1, jk_52, [], 2)
set_option maxRecDepth 100000 in
theorem jM_52_at : jt_Ms 52 = some jM_52 := rfl
noncomputable def F_Scene_stored (l0 : Nat) (l1 : Int32) (h : LH) : Option (Int32 × LH) :=
 jf_gr h l0 6 0 fun v1 =>
 jf_ia h v1 ((1 : Int32) + l1) fun v2 =>
 some (v2, h)
set_option maxRecDepth 100000 in
theorem F_Scene_stored_ok {d : Nat} (hd : 1 ≤ d) {l0 : Nat} {l1 : Int32} {h : LH} {q : (Int32 × LH)} : F_Scene_stored l0 l1 h = some q → jl_Sem jt_T jt_Ms d 52 [.ref l0, .int l1] h (jo_i q) := by
 unfold F_Scene_stored
 exact jr_enter (D := 0) hd jM_52_at rfl rfl rfl (fun d hd =>
  jr_aloadn 0 1 rfl rfl rfl
  (jr_gr 1 4 rfl jg_6_11_2 rfl (fun v1 =>
  jr_iconst 4 5 (1 : Int32) rfl jc_i_1 rfl
  (jr_iloadn 5 6 rfl rfl rfl
  (jr_iadd 6 7 rfl rfl
  (jr_ia 7 8 rfl rfl (fun v2 =>
  jr_ri 8 rfl rfl)))))))
noncomputable def jM_51 : JMeth := (6, false, 2, jk_51, [], 5)
set_option maxRecDepth 100000 in
theorem jM_51_at : jt_Ms 51 = some jM_51 := rfl
noncomputable def F_Scene_lay_b20 (h : LH) : Option (Int32 × LH) :=
 jf_rz (0 : Int32) (some ((0 : Int32), h))
set_option maxRecDepth 100000 in
theorem F_Scene_lay_b20_ok {d : Nat} {q : (Int32 × LH)} (hd : 1 ≤ d) {u0 : Value} {u1 : Value} {u2 : Value} {u3 : Value} {u4 : Value} {h : LH} : F_Scene_lay_b20 h = some q → JR d jM_51 20 [u0, u1, u2, u3, u4] [] h (jo_i q) := by
 unfold F_Scene_lay_b20
 exact jr_iconst 20 21 (0 : Int32) rfl jc_i_0 rfl
  (jr_rz 21 rfl rfl)
noncomputable def F_Scene_lay (l0 : Nat) (l1 : Int32) (l2 : Int32) (h : LH) : Option (Int32 × LH) :=
 jf_kd h l0 6
 (jf_bi (F_Scene_burning l0 l1 h) fun v1 h2 =>
 jf_kd h2 l0 6
 (jf_bi (F_Scene_stored l0 l2 h2) fun v3 h4 =>
 if 0 < v3 then
 if v1 < (6 : Int32) then
 jf_let ((l1 * (6 : Int32)) + v1) fun v5 =>
 jf_gr h4 l0 6 0 fun v6 =>
 jf_ia h4 v6 ((1 : Int32) + l2) fun v7 =>
 jf_is h4 v6 ((1 : Int32) + l2) (v7 - (1 : Int32)) fun h8 =>
 jf_gr h8 l0 6 0 fun v9 =>
 jf_is h8 v9 ((26 : Int32) + v5) l2 fun h10 =>
 jf_gr h10 l0 6 0 fun v11 =>
 jf_gr h10 l0 6 1 fun v12 =>
 jf_gr h10 v12 8 8 fun v13 =>
 jf_ia h10 v13 l2 fun v14 =>
 jf_is h10 v11 ((80 : Int32) + v5) v14 fun h15 =>
 jf_gr h15 l0 6 0 fun v16 =>
 jf_ia h15 v16 ((17 : Int32) + l1) fun v17 =>
 jf_is h15 v16 ((17 : Int32) + l1) (v17 + (1 : Int32)) fun h18 =>
 jf_pz h18 l0 6 4 (0 : Int32) fun h19 =>
 jf_rz (1 : Int32) (some ((1 : Int32), h19))
else
 F_Scene_lay_b20  h4
else
 F_Scene_lay_b20  h4))
set_option maxRecDepth 100000 in
theorem F_Scene_lay_ok {d : Nat} (hd : 2 ≤ d) {l0 : Nat} {l1 : Int32} {l2 : Int32} {h : LH} {q : (Int32 × LH)} : F_Scene_lay l0 l1 l2 h = some q → jl_Sem jt_T jt_Ms d 51 [.ref l0, .int l1, .int l2] h (jo_i q) := by
 unfold F_Scene_lay
 exact jr_enter (D := 1) hd jM_51_at rfl rfl rfl (fun d hd =>
  jr_aloadn 0 1 rfl rfl rfl
  (jr_iloadn 1 2 rfl rfl rfl
  (jr_cVi 2 5 [] rfl rfl rfl rfl rfl rfl rfl rfl (as := [.int l1]) (F_Scene_burning_ok (Nat.le_trans (by decide : 1 ≤ 1) hd)) (fun v1 h2 =>
  jr_istoren 5 6 [.ref l0, .int l1, .int l2, .int v1, .retAddr 0] rfl rfl rfl rfl
  (jr_aloadn 6 7 rfl rfl rfl
  (jr_iloadn 7 8 rfl rfl rfl
  (jr_cVi 8 11 [] rfl rfl rfl rfl rfl rfl rfl rfl (as := [.int l2]) (F_Scene_stored_ok (Nat.le_trans (by decide : 1 ≤ 1) hd)) (fun v3 h4 =>
  jr_if_le 11 20 14 rfl rfl rfl
  ((F_Scene_lay_b20_ok hd ))
  (jr_iloadn 14 15 rfl rfl rfl
  (jr_bipush 15 17 (6 : Int32) rfl jc_b_6 rfl
  (jr_icmp_lt 17 22 20 rfl rfl rfl
  (jr_iloadn 22 23 rfl rfl rfl
  (jr_bipush 23 25 (6 : Int32) rfl jc_b_6 rfl
  (jr_imul 25 26 rfl rfl
  (jr_iloadn 26 27 rfl rfl rfl
  (jr_iadd 27 28 rfl rfl
  (jr_istoreL 28 30 (fun v5 => [.ref l0, .int l1, .int l2, .int v1, .int v5]) rfl rfl (fun _ => rfl) rfl (fun v5 =>
  jr_aloadn 30 31 rfl rfl rfl
  (jr_gr 31 34 rfl jg_6_11_2 rfl (fun v6 =>
  jr_iconst 34 35 (1 : Int32) rfl jc_i_1 rfl
  (jr_iloadn 35 36 rfl rfl rfl
  (jr_iadd 36 37 rfl rfl
  (jr_dup2 37 38 rfl rfl rfl rfl
  (jr_ia 38 39 rfl rfl (fun v7 =>
  jr_iconst 39 40 (1 : Int32) rfl jc_i_1 rfl
  (jr_isub 40 41 rfl rfl
  (jr_is 41 42 rfl rfl (fun h8 =>
  jr_aloadn 42 43 rfl rfl rfl
  (jr_gr 43 46 rfl jg_6_11_2 rfl (fun v9 =>
  jr_bipush 46 48 (26 : Int32) rfl jc_b_26 rfl
  (jr_iload 48 50 rfl rfl rfl
  (jr_iadd 50 51 rfl rfl
  (jr_iloadn 51 52 rfl rfl rfl
  (jr_is 52 53 rfl rfl (fun h10 =>
  jr_aloadn 53 54 rfl rfl rfl
  (jr_gr 54 57 rfl jg_6_11_2 rfl (fun v11 =>
  jr_bipush 57 59 (80 : Int32) rfl jc_b_80 rfl
  (jr_iload 59 61 rfl rfl rfl
  (jr_iadd 61 62 rfl rfl
  (jr_aloadn 62 63 rfl rfl rfl
  (jr_gr 63 66 rfl jg_6_26_2 rfl (fun v12 =>
  jr_gr 66 69 rfl jg_6_119_2 rfl (fun v13 =>
  jr_iloadn 69 70 rfl rfl rfl
  (jr_ia 70 71 rfl rfl (fun v14 =>
  jr_is 71 72 rfl rfl (fun h15 =>
  jr_aloadn 72 73 rfl rfl rfl
  (jr_gr 73 76 rfl jg_6_11_2 rfl (fun v16 =>
  jr_bipush 76 78 (17 : Int32) rfl jc_b_17 rfl
  (jr_iloadn 78 79 rfl rfl rfl
  (jr_iadd 79 80 rfl rfl
  (jr_dup2 80 81 rfl rfl rfl rfl
  (jr_ia 81 82 rfl rfl (fun v17 =>
  jr_iconst 82 83 (1 : Int32) rfl jc_i_1 rfl
  (jr_iadd 83 84 rfl rfl
  (jr_is 84 85 rfl rfl (fun h18 =>
  jr_aloadn 85 86 rfl rfl rfl
  (jr_iconst 86 87 (0 : Int32) rfl jc_i_0 rfl
  (jr_pz 87 90 rfl jg_6_47_4 rfl (fun h19 =>
  jr_iconst 90 91 (1 : Int32) rfl jc_i_1 rfl
  (jr_rz 91 rfl rfl)))))))))))))))))))))))))))))))))))))))))))))))))
  ((F_Scene_lay_b20_ok hd )))))))))))))
noncomputable def jM_80 : JMeth := (6, false, 1, jk_80, [], 3)
set_option maxRecDepth 100000 in
theorem jM_80_at : jt_Ms 80 = some jM_80 := rfl
noncomputable def F_Scene_mostStored_b30 (k4 : Nat → Int32 → Int32 → LH → Option (Int32 × LH)) (l0 : Nat) (l1 : Int32) (l2 : Int32) (h : LH) : Option (Int32 × LH) :=
 k4 l0 l1 (l2 + (1 : Int32)) h
set_option maxRecDepth 100000 in
theorem F_Scene_mostStored_b30_ok {d : Nat} {q : (Int32 × LH)} {k4 : Nat → Int32 → Int32 → LH → Option (Int32 × LH)} (hd : 1 ≤ d) (hk4 : ∀ (l0 : Nat) (l1 : Int32) (l2 : Int32) (h : LH), k4 l0 l1 l2 h = some q → JR d jM_80 4 [.ref l0, .int l1, .int l2] [] h (jo_i q)) {l0 : Nat} {l1 : Int32} {l2 : Int32} {h : LH} : F_Scene_mostStored_b30 k4 l0 l1 l2 h = some q → JR d jM_80 30 [.ref l0, .int l1, .int l2] [] h (jo_i q) := by
 unfold F_Scene_mostStored_b30
 exact jr_iinc 30 33 [.ref l0, .int l1, .int (l2 + (1 : Int32))] rfl jc_i_1 rfl rfl rfl rfl
  (jr_goto 33 4 rfl rfl
  ((hk4 _ _ _ _)))
noncomputable def F_Scene_mostStored_c4 (k4 : Nat → Int32 → Int32 → LH → Option (Int32 × LH)) (l0 : Nat) (l1 : Int32) (l2 : Int32) (h : LH) : Option (Int32 × LH) :=
 jf_gr h l0 6 1 fun v1 =>
 jf_gi h v1 8 1 fun v2 =>
 if l2 < v2 then
 jf_kd h l0 6
 (jf_bi (F_Scene_stored l0 l2 h) fun v3 h4 =>
 jf_kd h4 l0 6
 (jf_bi (F_Scene_stored l0 l1 h4) fun v5 h6 =>
 if v5 < v3 then
 F_Scene_mostStored_b30 k4 l0 l2 l2 h6
else
 F_Scene_mostStored_b30 k4 l0 l1 l2 h6))
else
 some (l1, h)
set_option maxRecDepth 100000 in
theorem F_Scene_mostStored_c4_ok {d : Nat} {q : (Int32 × LH)} {k4 : Nat → Int32 → Int32 → LH → Option (Int32 × LH)} (hd : 1 ≤ d) (hk4 : ∀ (l0 : Nat) (l1 : Int32) (l2 : Int32) (h : LH), k4 l0 l1 l2 h = some q → JR d jM_80 4 [.ref l0, .int l1, .int l2] [] h (jo_i q)) {l0 : Nat} {l1 : Int32} {l2 : Int32} {h : LH} : F_Scene_mostStored_c4 k4 l0 l1 l2 h = some q → JR d jM_80 4 [.ref l0, .int l1, .int l2] [] h (jo_i q) := by
 unfold F_Scene_mostStored_c4
 exact jr_iloadn 4 5 rfl rfl rfl
  (jr_aloadn 5 6 rfl rfl rfl
  (jr_gr 6 9 rfl jg_6_26_2 rfl (fun v1 =>
  jr_gi 9 12 rfl jg_6_34_1 rfl (fun v2 =>
  jr_icmp_ge 12 36 15 rfl rfl rfl
  (jr_iloadn 36 37 rfl rfl rfl
  (jr_ri 37 rfl rfl))
  (jr_aloadn 15 16 rfl rfl rfl
  (jr_iloadn 16 17 rfl rfl rfl
  (jr_cVi 17 20 [] rfl rfl rfl rfl rfl rfl rfl rfl (as := [.int l2]) (F_Scene_stored_ok (Nat.le_trans (by decide : 1 ≤ 1) hd)) (fun v3 h4 =>
  jr_aloadn 20 21 rfl rfl rfl
  (jr_iloadn 21 22 rfl rfl rfl
  (jr_cVi 22 25 [.int v3] rfl rfl rfl rfl rfl rfl rfl rfl (as := [.int l1]) (F_Scene_stored_ok (Nat.le_trans (by decide : 1 ≤ 1) hd)) (fun v5 h6 =>
  jr_icmp_le 25 30 28 rfl rfl rfl
  ((F_Scene_mostStored_b30_ok hd hk4))
  (jr_iloadn 28 29 rfl rfl rfl
  (jr_istoren 29 30 [.ref l0, .int l2, .int l2] rfl rfl rfl rfl
  ((F_Scene_mostStored_b30_ok hd hk4)))))))))))))))
noncomputable def F_Scene_mostStored_l4 : Nat → Nat → Int32 → Int32 → LH → Option (Int32 × LH)
 | 0, _, _, _, _ => none
 | n + 1, l0, l1, l2, h => F_Scene_mostStored_c4 (F_Scene_mostStored_l4 n) l0 l1 l2 h
theorem F_Scene_mostStored_l4_ok {d : Nat} {q : (Int32 × LH)} (hd : 1 ≤ d) : ∀ (n : Nat) (l0 : Nat) (l1 : Int32) (l2 : Int32) (h : LH), F_Scene_mostStored_l4 n l0 l1 l2 h = some q → JR d jM_80 4 [.ref l0, .int l1, .int l2] [] h (jo_i q)
 | 0 => fun _ _ _ _ hq => nomatch (show (none : Option (Int32 × LH)) = some q from hq)
 | n + 1 => fun _ _ _ _ hq => F_Scene_mostStored_c4_ok hd (F_Scene_mostStored_l4_ok hd n) hq
noncomputable def F_Scene_mostStored (l0 : Nat) (h : LH) : Option (Int32 × LH) :=
 F_Scene_mostStored_l4  jF l0 (0 : Int32) (1 : Int32) h
set_option maxRecDepth 100000 in
theorem F_Scene_mostStored_ok {d : Nat} (hd : 2 ≤ d) {l0 : Nat} {h : LH} {q : (Int32 × LH)} : F_Scene_mostStored l0 h = some q → jl_Sem jt_T jt_Ms d 80 [.ref l0] h (jo_i q) := by
 unfold F_Scene_mostStored
 exact jr_enter (D := 1) hd jM_80_at rfl rfl rfl (fun d hd =>
  jr_iconst 0 1 (0 : Int32) rfl jc_i_0 rfl
  (jr_istoren 1 2 [.ref l0, .int (0 : Int32), .retAddr 0] rfl rfl rfl rfl
  (jr_iconst 2 3 (1 : Int32) rfl jc_i_1 rfl
  (jr_istoren 3 4 [.ref l0, .int (0 : Int32), .int (1 : Int32)] rfl rfl rfl rfl
  ((F_Scene_mostStored_l4_ok hd  jF _ _ _ _))))))
noncomputable def jM_14 : JMeth := (1, false, 0, jk_14, [], 2)
set_option maxRecDepth 100000 in
theorem jM_14_at : jt_Ms 14 = some jM_14 := rfl
noncomputable def F_Days_layOnEmptyFires_b69 (k16 : Nat → Int32 → LH → Option LH) (l0 : Nat) (l1 : Int32) (h : LH) : Option LH :=
 k16 l0 (l1 + (1 : Int32)) h
set_option maxRecDepth 100000 in
theorem F_Days_layOnEmptyFires_b69_ok {d : Nat} {q : LH} {k16 : Nat → Int32 → LH → Option LH} (hd : 2 ≤ d) (hk16 : ∀ (l0 : Nat) (l1 : Int32) (h : LH), k16 l0 l1 h = some q → JR d jM_14 16 [.ref l0, .int l1] [] h (jo_v q)) {l0 : Nat} {l1 : Int32} {h : LH} : F_Days_layOnEmptyFires_b69 k16 l0 l1 h = some q → JR d jM_14 69 [.ref l0, .int l1] [] h (jo_v q) := by
 unfold F_Days_layOnEmptyFires_b69
 exact jr_iinc 69 72 [.ref l0, .int (l1 + (1 : Int32))] rfl jc_i_1 rfl rfl rfl rfl
  (jr_goto 72 16 rfl rfl
  ((hk16 _ _ _)))
noncomputable def F_Days_layOnEmptyFires_c16 (k16 : Nat → Int32 → LH → Option LH) (l0 : Nat) (l1 : Int32) (h : LH) : Option LH :=
 jf_gr h l0 1 0 fun v1 =>
 jf_gr h v1 6 1 fun v2 =>
 jf_gi h v2 8 0 fun v3 =>
 if l1 < v3 then
 jf_gr h l0 1 0 fun v4 =>
 jf_kd h v4 6
 (jf_bi (F_Scene_burning v4 l1 h) fun v5 h6 =>
 if v5 = 0 then
 jf_gr h6 l0 1 0 fun v7 =>
 jf_gr h6 l0 1 0 fun v8 =>
 jf_kd h6 v8 6
 (jf_bi (F_Scene_mostStored v8 h6) fun v9 h10 =>
 jf_kd h10 v7 6
 (jf_bi (F_Scene_lay v7 l1 v9 h10) fun v11 h12 =>
 if v11 = 0 then
 F_Days_layOnEmptyFires_b69 k16 l0 l1 h12
else
 jf_gi h12 l0 1 2 fun v13 =>
 jf_pi h12 l0 1 2 (v13 + (1 : Int32)) fun h14 =>
 F_Days_layOnEmptyFires_b69 k16 l0 l1 h14))
else
 F_Days_layOnEmptyFires_b69 k16 l0 l1 h6)
else
 some h
set_option maxRecDepth 100000 in
theorem F_Days_layOnEmptyFires_c16_ok {d : Nat} {q : LH} {k16 : Nat → Int32 → LH → Option LH} (hd : 2 ≤ d) (hk16 : ∀ (l0 : Nat) (l1 : Int32) (h : LH), k16 l0 l1 h = some q → JR d jM_14 16 [.ref l0, .int l1] [] h (jo_v q)) {l0 : Nat} {l1 : Int32} {h : LH} : F_Days_layOnEmptyFires_c16 k16 l0 l1 h = some q → JR d jM_14 16 [.ref l0, .int l1] [] h (jo_v q) := by
 unfold F_Days_layOnEmptyFires_c16
 exact jr_iloadn 16 17 rfl rfl rfl
  (jr_aloadn 17 18 rfl rfl rfl
  (jr_gr 18 21 rfl jg_1_7_2 rfl (fun v1 =>
  jr_gr 21 24 rfl jg_1_44_2 rfl (fun v2 =>
  jr_gi 24 27 rfl jg_1_53_1 rfl (fun v3 =>
  jr_icmp_ge 27 75 30 rfl rfl rfl
  (jr_rv 75 rfl rfl)
  (jr_aloadn 30 31 rfl rfl rfl
  (jr_gr 31 34 rfl jg_1_7_2 rfl (fun v4 =>
  jr_iloadn 34 35 rfl rfl rfl
  (jr_cVi 35 38 [] rfl rfl rfl rfl rfl rfl rfl rfl (as := [.int l1]) (F_Scene_burning_ok (Nat.le_trans (by decide : 1 ≤ 2) hd)) (fun v5 h6 =>
  jr_if_ne 38 69 41 rfl rfl rfl
  ((F_Days_layOnEmptyFires_b69_ok hd hk16))
  (jr_aloadn 41 42 rfl rfl rfl
  (jr_gr 42 45 rfl jg_1_7_2 rfl (fun v7 =>
  jr_iloadn 45 46 rfl rfl rfl
  (jr_aloadn 46 47 rfl rfl rfl
  (jr_gr 47 50 rfl jg_1_7_2 rfl (fun v8 =>
  jr_cVi 50 53 [.int l1, .ref v7] rfl rfl rfl rfl rfl rfl rfl rfl (as := []) (F_Scene_mostStored_ok (Nat.le_trans (by decide : 2 ≤ 2) hd)) (fun v9 h10 =>
  jr_cVi 53 56 [] rfl rfl rfl rfl rfl rfl rfl rfl (as := [.int l1, .int v9]) (F_Scene_lay_ok (Nat.le_trans (by decide : 2 ≤ 2) hd)) (fun v11 h12 =>
  jr_if_eq 56 69 59 rfl rfl rfl
  ((F_Days_layOnEmptyFires_b69_ok hd hk16))
  (jr_aloadn 59 60 rfl rfl rfl
  (jr_dup 60 61 rfl rfl rfl
  (jr_gi 61 64 rfl jg_1_17_1 rfl (fun v13 =>
  jr_iconst 64 65 (1 : Int32) rfl jc_i_1 rfl
  (jr_iadd 65 66 rfl rfl
  (jr_pi 66 69 rfl jg_1_17_3 rfl (fun h14 =>
  (F_Days_layOnEmptyFires_b69_ok hd hk16))))))))))))))))))))))))))
noncomputable def F_Days_layOnEmptyFires_l16 : Nat → Nat → Int32 → LH → Option LH
 | 0, _, _, _ => none
 | n + 1, l0, l1, h => F_Days_layOnEmptyFires_c16 (F_Days_layOnEmptyFires_l16 n) l0 l1 h
theorem F_Days_layOnEmptyFires_l16_ok {d : Nat} {q : LH} (hd : 2 ≤ d) : ∀ (n : Nat) (l0 : Nat) (l1 : Int32) (h : LH), F_Days_layOnEmptyFires_l16 n l0 l1 h = some q → JR d jM_14 16 [.ref l0, .int l1] [] h (jo_v q)
 | 0 => fun _ _ _ hq => nomatch (show (none : Option LH) = some q from hq)
 | n + 1 => fun _ _ _ hq => F_Days_layOnEmptyFires_c16_ok hd (F_Days_layOnEmptyFires_l16_ok hd n) hq
noncomputable def F_Days_layOnEmptyFires (l0 : Nat) (h : LH) : Option LH :=
 jf_gr h l0 1 0 fun v1 =>
 jf_gr h v1 6 1 fun v2 =>
 jf_gi h v2 8 1 fun v3 =>
 if 0 < v3 then
 F_Days_layOnEmptyFires_l16  jF l0 (0 : Int32) h
else
 some h
set_option maxRecDepth 100000 in
theorem F_Days_layOnEmptyFires_ok {d : Nat} (hd : 3 ≤ d) {l0 : Nat} {h : LH} {q : LH} : F_Days_layOnEmptyFires l0 h = some q → jl_Sem jt_T jt_Ms d 14 [.ref l0] h (jo_v q) := by
 unfold F_Days_layOnEmptyFires
 exact jr_enter (D := 2) hd jM_14_at rfl rfl rfl (fun d hd =>
  jr_aloadn 0 1 rfl rfl rfl
  (jr_gr 1 4 rfl jg_1_7_2 rfl (fun v1 =>
  jr_gr 4 7 rfl jg_1_44_2 rfl (fun v2 =>
  jr_gi 7 10 rfl jg_1_48_1 rfl (fun v3 =>
  jr_if_gt 10 14 13 rfl rfl rfl
  (jr_iconst 14 15 (0 : Int32) rfl jc_i_0 rfl
  (jr_istoren 15 16 [.ref l0, .int (0 : Int32)] rfl rfl rfl rfl
  ((F_Days_layOnEmptyFires_l16_ok hd  jF _ _ _))))
  (jr_rv 13 rfl rfl))))))
noncomputable def jM_34 : JMeth := (4, false, 1, jk_34, [], 4)
set_option maxRecDepth 100000 in
theorem jM_34_at : jt_Ms 34 = some jM_34 := rfl
noncomputable def F_Law_joined_b81 (s0 : Int32) (h : LH) : Option (Int32 × LH) :=
 some (s0, h)
set_option maxRecDepth 100000 in
theorem F_Law_joined_b81_ok {d : Nat} {q : (Int32 × LH)} (hd : 0 ≤ d) {s0 : Int32} {u0 : Value} {u1 : Value} {u2 : Value} {u3 : Value} {h : LH} : F_Law_joined_b81 s0 h = some q → JR d jM_34 81 [u0, u1, u2, u3] [.int s0] h (jo_i q) := by
 unfold F_Law_joined_b81
 exact jr_ri 81 rfl rfl
noncomputable def F_Law_joined_b70 (s0 : Int32) (h : LH) : Option (Int32 × LH) :=
 some (s0, h)
set_option maxRecDepth 100000 in
theorem F_Law_joined_b70_ok {d : Nat} {q : (Int32 × LH)} (hd : 0 ≤ d) {s0 : Int32} {u0 : Value} {u1 : Value} {u2 : Value} {u3 : Value} {h : LH} : F_Law_joined_b70 s0 h = some q → JR d jM_34 70 [u0, u1, u2, u3] [.int s0] h (jo_i q) := by
 unfold F_Law_joined_b70
 exact jr_ri 70 rfl rfl
noncomputable def F_Law_joined_b59 (s0 : Int32) (h : LH) : Option (Int32 × LH) :=
 some (s0, h)
set_option maxRecDepth 100000 in
theorem F_Law_joined_b59_ok {d : Nat} {q : (Int32 × LH)} (hd : 0 ≤ d) {s0 : Int32} {u0 : Value} {u1 : Value} {u2 : Value} {u3 : Value} {h : LH} : F_Law_joined_b59 s0 h = some q → JR d jM_34 59 [u0, u1, u2, u3] [.int s0] h (jo_i q) := by
 unfold F_Law_joined_b59
 exact jr_ri 59 rfl rfl
noncomputable def F_Law_joined (l0 : Nat) (l1 : Int32) (l2 : Int32) (l3 : Int32) (h : LH) : Option (Int32 × LH) :=
 if l1 = (-15 : Int32) then
 if l2 < l3 then
 F_Law_joined_b70  l2 h
else
 F_Law_joined_b70  l3 h
else
 if l1 = (-14 : Int32) then
 if l3 = 0 then
 F_Law_joined_b59  (0 : Int32) h
else
 jf_dv l3 (l2 / l3) fun v1 =>
 F_Law_joined_b59  v1 h
else
 if l1 = (-13 : Int32) then
 some ((l2 * l3), h)
else
 if l1 = (-12 : Int32) then
 some ((l2 - l3), h)
else
 if l1 = (-11 : Int32) then
 some ((l2 + l3), h)
else
 if l3 < l2 then
 F_Law_joined_b81  l2 h
else
 F_Law_joined_b81  l3 h
set_option maxRecDepth 100000 in
theorem F_Law_joined_ok {d : Nat} (hd : 1 ≤ d) {l0 : Nat} {l1 : Int32} {l2 : Int32} {l3 : Int32} {h : LH} {q : (Int32 × LH)} : F_Law_joined l0 l1 l2 l3 h = some q → jl_Sem jt_T jt_Ms d 34 [.ref l0, .int l1, .int l2, .int l3] h (jo_i q) := by
 unfold F_Law_joined
 exact jr_enter (D := 0) hd jM_34_at rfl rfl rfl (fun d hd =>
  jr_iloadn 0 1 rfl rfl rfl
  (jr_ite (fun hx1_0 => jr_tsI 1 60 hx1_0 rfl rfl rfl rfl
  (jr_iloadn 60 61 rfl rfl rfl
  (jr_iloadn 61 62 rfl rfl rfl
  (jr_icmp_ge 62 69 65 rfl rfl rfl
  (jr_iloadn 69 70 rfl rfl rfl
  ((F_Law_joined_b70_ok hd )))
  (jr_iloadn 65 66 rfl rfl rfl
  (jr_goto 66 70 rfl rfl
  ((F_Law_joined_b70_ok hd ))))))))
  (fun hx1_0 =>
  jr_ite (fun hx1_1 => jr_tsI 1 48 hx1_1 rfl rfl rfl rfl
  (jr_iloadn 48 49 rfl rfl rfl
  (jr_if_ne 49 56 52 rfl rfl rfl
  (jr_iloadn 56 57 rfl rfl rfl
  (jr_iloadn 57 58 rfl rfl rfl
  (jr_idiv 58 59 rfl rfl (fun v1 =>
  (F_Law_joined_b59_ok hd )))))
  (jr_iconst 52 53 (0 : Int32) rfl jc_i_0 rfl
  (jr_goto 53 59 rfl rfl
  ((F_Law_joined_b59_ok hd )))))))
  (fun hx1_1 =>
  jr_ite (fun hx1_2 => jr_tsI 1 44 hx1_2 rfl rfl rfl rfl
  (jr_iloadn 44 45 rfl rfl rfl
  (jr_iloadn 45 46 rfl rfl rfl
  (jr_imul 46 47 rfl rfl
  (jr_ri 47 rfl rfl)))))
  (fun hx1_2 =>
  jr_ite (fun hx1_3 => jr_tsI 1 40 hx1_3 rfl rfl rfl rfl
  (jr_iloadn 40 41 rfl rfl rfl
  (jr_iloadn 41 42 rfl rfl rfl
  (jr_isub 42 43 rfl rfl
  (jr_ri 43 rfl rfl)))))
  (fun hx1_3 =>
  jr_ite (fun hx1_4 => jr_tsI 1 36 hx1_4 rfl rfl rfl rfl
  (jr_iloadn 36 37 rfl rfl rfl
  (jr_iloadn 37 38 rfl rfl rfl
  (jr_iadd 38 39 rfl rfl
  (jr_ri 39 rfl rfl)))))
  (fun hx1_4 =>
  jr_tsD 1 71 rfl (by have := jr_ne (k := -15) jc_t_m15 hx1_0; have := jr_ne (k := -14) jc_t_m14 hx1_1; have := jr_ne (k := -13) jc_t_m13 hx1_2; have := jr_ne (k := -12) jc_t_m12 hx1_3; have := jr_ne (k := -11) jc_t_m11 hx1_4; omega) rfl
  (jr_iloadn 71 72 rfl rfl rfl
  (jr_iloadn 72 73 rfl rfl rfl
  (jr_icmp_le 73 80 76 rfl rfl rfl
  (jr_iloadn 80 81 rfl rfl rfl
  ((F_Law_joined_b81_ok hd )))
  (jr_iloadn 76 77 rfl rfl rfl
  (jr_goto 77 81 rfl rfl
  ((F_Law_joined_b81_ok hd ))))))))))))))
noncomputable def jM_33 : JMeth := (4, false, 2, jk_33, [], 5)
set_option maxRecDepth 100000 in
theorem jM_33_at : jt_Ms 33 = some jM_33 := rfl
noncomputable def F_Law_shuts_b124 (s0 : Int32) (h : LH) : Option (Int32 × LH) :=
 jf_rz s0 (some (s0, h))
set_option maxRecDepth 100000 in
theorem F_Law_shuts_b124_ok {d : Nat} {q : (Int32 × LH)} (hd : 1 ≤ d) {s0 : Int32} {u0 : Value} {u1 : Value} {u2 : Value} {u3 : Value} {u4 : Value} {h : LH} : F_Law_shuts_b124 s0 h = some q → JR d jM_33 124 [u0, u1, u2, u3, u4] [.int s0] h (jo_i q) := by
 unfold F_Law_shuts_b124
 exact jr_rz 124 rfl rfl
noncomputable def F_Law_shuts_b123 (h : LH) : Option (Int32 × LH) :=
 F_Law_shuts_b124  (0 : Int32) h
set_option maxRecDepth 100000 in
theorem F_Law_shuts_b123_ok {d : Nat} {q : (Int32 × LH)} (hd : 1 ≤ d) {u0 : Value} {u1 : Value} {u2 : Value} {u3 : Value} {u4 : Value} {h : LH} : F_Law_shuts_b123 h = some q → JR d jM_33 123 [u0, u1, u2, u3, u4] [] h (jo_i q) := by
 unfold F_Law_shuts_b123
 exact jr_iconst 123 124 (0 : Int32) rfl jc_i_0 rfl
  ((F_Law_shuts_b124_ok hd ))
noncomputable def F_Law_shuts_b100 (k4 : Nat → Nat → Int32 → Int32 → LH → Option (Int32 × LH)) (l0 : Nat) (l1 : Nat) (l2 : Int32) (l3 : Int32) (h : LH) : Option (Int32 × LH) :=
 k4 l0 l1 l2 (l3 + (1 : Int32)) h
set_option maxRecDepth 100000 in
theorem F_Law_shuts_b100_ok {d : Nat} {q : (Int32 × LH)} {k4 : Nat → Nat → Int32 → Int32 → LH → Option (Int32 × LH)} (hd : 1 ≤ d) (hk4 : ∀ (l0 : Nat) (l1 : Nat) (l2 : Int32) (l3 : Int32) (u4 : Value) (h : LH), k4 l0 l1 l2 l3 h = some q → JR d jM_33 4 [.ref l0, .ref l1, .int l2, .int l3, u4] [] h (jo_i q)) {l0 : Nat} {l1 : Nat} {l2 : Int32} {l3 : Int32} {u4 : Value} {h : LH} : F_Law_shuts_b100 k4 l0 l1 l2 l3 h = some q → JR d jM_33 100 [.ref l0, .ref l1, .int l2, .int l3, u4] [] h (jo_i q) := by
 unfold F_Law_shuts_b100
 exact jr_iinc 100 103 [.ref l0, .ref l1, .int l2, .int (l3 + (1 : Int32)), u4] rfl jc_i_1 rfl rfl rfl rfl
  (jr_goto 103 4 rfl rfl
  ((hk4 _ _ _ _ _ _)))
noncomputable def F_Law_shuts_b57 (k4 : Nat → Nat → Int32 → Int32 → LH → Option (Int32 × LH)) (l0 : Nat) (l1 : Nat) (l2 : Int32) (l3 : Int32) (s0 : Nat) (s1 : Int32) (s2 : Int32) (h : LH) : Option (Int32 × LH) :=
 jf_is h s0 s1 s2 fun h1 =>
 F_Law_shuts_b100 k4 l0 l1 (l2 + (1 : Int32)) l3 h1
set_option maxRecDepth 100000 in
theorem F_Law_shuts_b57_ok {d : Nat} {q : (Int32 × LH)} {k4 : Nat → Nat → Int32 → Int32 → LH → Option (Int32 × LH)} (hd : 1 ≤ d) (hk4 : ∀ (l0 : Nat) (l1 : Nat) (l2 : Int32) (l3 : Int32) (u4 : Value) (h : LH), k4 l0 l1 l2 l3 h = some q → JR d jM_33 4 [.ref l0, .ref l1, .int l2, .int l3, u4] [] h (jo_i q)) {l0 : Nat} {l1 : Nat} {l2 : Int32} {l3 : Int32} {s0 : Nat} {s1 : Int32} {s2 : Int32} {u4 : Value} {h : LH} : F_Law_shuts_b57 k4 l0 l1 l2 l3 s0 s1 s2 h = some q → JR d jM_33 57 [.ref l0, .ref l1, .int l2, .int l3, u4] [.int s2, .int s1, .ref s0] h (jo_i q) := by
 unfold F_Law_shuts_b57
 exact jr_is 57 58 rfl rfl (fun h1 =>
  jr_iinc 58 61 [.ref l0, .ref l1, .int (l2 + (1 : Int32)), .int l3, u4] rfl jc_i_1 rfl rfl rfl rfl
  (jr_goto 61 100 rfl rfl
  ((F_Law_shuts_b100_ok hd hk4))))
noncomputable def F_Law_shuts_c4 (k4 : Nat → Nat → Int32 → Int32 → LH → Option (Int32 × LH)) (l0 : Nat) (l1 : Nat) (l2 : Int32) (l3 : Int32) (h : LH) : Option (Int32 × LH) :=
 jf_gi h l0 4 2 fun v1 =>
 if l3 < v1 then
 jf_gr h l0 4 0 fun v4 =>
 jf_ia h v4 l3 fun v5 =>
 if (-11 : Int32) < v5 then
 jf_gr h l0 4 1 fun v14 =>
 jf_al h v14 fun v15 =>
 if l2 < v15 then
 jf_gr h l0 4 1 fun v16 =>
 if v5 < 0 then
 jf_ia h l1 ((-1 : Int32) - v5) fun v17 =>
 F_Law_shuts_b57 k4 l0 l1 l2 l3 v16 l2 v17 h
else
 F_Law_shuts_b57 k4 l0 l1 l2 l3 v16 l2 v5 h
else
 F_Law_shuts_b100 k4 l0 l1 l2 l3 h
else
 if l2 < (2 : Int32) then
 F_Law_shuts_b100 k4 l0 l1 l2 l3 h
else
 jf_gr h l0 4 1 fun v6 =>
 jf_gr h l0 4 1 fun v7 =>
 jf_ia h v7 ((l2 + (-1 : Int32)) - (1 : Int32)) fun v8 =>
 jf_gr h l0 4 1 fun v9 =>
 jf_ia h v9 (l2 + (-1 : Int32)) fun v10 =>
 jf_kd h l0 4
 (jf_bi (F_Law_joined l0 v5 v8 v10 h) fun v11 h12 =>
 jf_is h12 v6 ((l2 + (-1 : Int32)) - (1 : Int32)) v11 fun h13 =>
 F_Law_shuts_b100 k4 l0 l1 (l2 + (-1 : Int32)) l3 h13)
else
 if 0 < l2 then
 jf_gr h l0 4 1 fun v2 =>
 jf_ia h v2 (0 : Int32) fun v3 =>
 if 0 < v3 then
 F_Law_shuts_b124  (1 : Int32) h
else
 F_Law_shuts_b123  h
else
 F_Law_shuts_b123  h
set_option maxRecDepth 100000 in
theorem F_Law_shuts_c4_ok {d : Nat} {q : (Int32 × LH)} {k4 : Nat → Nat → Int32 → Int32 → LH → Option (Int32 × LH)} (hd : 1 ≤ d) (hk4 : ∀ (l0 : Nat) (l1 : Nat) (l2 : Int32) (l3 : Int32) (u4 : Value) (h : LH), k4 l0 l1 l2 l3 h = some q → JR d jM_33 4 [.ref l0, .ref l1, .int l2, .int l3, u4] [] h (jo_i q)) {l0 : Nat} {l1 : Nat} {l2 : Int32} {l3 : Int32} {u4 : Value} {h : LH} : F_Law_shuts_c4 k4 l0 l1 l2 l3 h = some q → JR d jM_33 4 [.ref l0, .ref l1, .int l2, .int l3, u4] [] h (jo_i q) := by
 unfold F_Law_shuts_c4
 exact jr_iloadn 4 5 rfl rfl rfl
  (jr_aloadn 5 6 rfl rfl rfl
  (jr_gi 6 9 rfl jg_4_21_1 rfl (fun v1 =>
  jr_icmp_ge 9 106 12 rfl rfl rfl
  (jr_iloadn 106 107 rfl rfl rfl
  (jr_if_le 107 123 110 rfl rfl rfl
  ((F_Law_shuts_b123_ok hd ))
  (jr_aloadn 110 111 rfl rfl rfl
  (jr_gr 111 114 rfl jg_4_15_2 rfl (fun v2 =>
  jr_iconst 114 115 (0 : Int32) rfl jc_i_0 rfl
  (jr_ia 115 116 rfl rfl (fun v3 =>
  jr_if_le 116 123 119 rfl rfl rfl
  ((F_Law_shuts_b123_ok hd ))
  (jr_iconst 119 120 (1 : Int32) rfl jc_i_1 rfl
  (jr_goto 120 124 rfl rfl
  ((F_Law_shuts_b124_ok hd )))))))))))
  (jr_aloadn 12 13 rfl rfl rfl
  (jr_gr 13 16 rfl jg_4_9_2 rfl (fun v4 =>
  jr_iloadn 16 17 rfl rfl rfl
  (jr_ia 17 18 rfl rfl (fun v5 =>
  jr_istore 18 20 [.ref l0, .ref l1, .int l2, .int l3, .int v5] rfl rfl rfl rfl
  (jr_iload 20 22 rfl rfl rfl
  (jr_bipush 22 24 (-11 : Int32) rfl jc_b_m11 rfl
  (jr_icmp_le 24 64 27 rfl rfl rfl
  (jr_iloadn 64 65 rfl rfl rfl
  (jr_iconst 65 66 (2 : Int32) rfl jc_i_2 rfl
  (jr_icmp_lt 66 100 69 rfl rfl rfl
  ((F_Law_shuts_b100_ok hd hk4))
  (jr_iinc 69 72 [.ref l0, .ref l1, .int (l2 + (-1 : Int32)), .int l3, .int v5] rfl jc_i_m1 rfl rfl rfl rfl
  (jr_aloadn 72 73 rfl rfl rfl
  (jr_gr 73 76 rfl jg_4_15_2 rfl (fun v6 =>
  jr_iloadn 76 77 rfl rfl rfl
  (jr_iconst 77 78 (1 : Int32) rfl jc_i_1 rfl
  (jr_isub 78 79 rfl rfl
  (jr_aloadn 79 80 rfl rfl rfl
  (jr_iload 80 82 rfl rfl rfl
  (jr_aloadn 82 83 rfl rfl rfl
  (jr_gr 83 86 rfl jg_4_15_2 rfl (fun v7 =>
  jr_iloadn 86 87 rfl rfl rfl
  (jr_iconst 87 88 (1 : Int32) rfl jc_i_1 rfl
  (jr_isub 88 89 rfl rfl
  (jr_ia 89 90 rfl rfl (fun v8 =>
  jr_aloadn 90 91 rfl rfl rfl
  (jr_gr 91 94 rfl jg_4_15_2 rfl (fun v9 =>
  jr_iloadn 94 95 rfl rfl rfl
  (jr_ia 95 96 rfl rfl (fun v10 =>
  jr_cVi 96 99 [.int ((l2 + (-1 : Int32)) - (1 : Int32)), .ref v6] rfl rfl rfl rfl rfl rfl rfl rfl (as := [.int v5, .int v8, .int v10]) (F_Law_joined_ok (Nat.le_trans (by decide : 1 ≤ 1) hd)) (fun v11 h12 =>
  jr_is 99 100 rfl rfl (fun h13 =>
  (F_Law_shuts_b100_ok hd hk4)))))))))))))))))))))))))
  (jr_iloadn 27 28 rfl rfl rfl
  (jr_aloadn 28 29 rfl rfl rfl
  (jr_gr 29 32 rfl jg_4_15_2 rfl (fun v14 =>
  jr_al 32 33 rfl rfl (fun v15 =>
  jr_icmp_ge 33 100 36 rfl rfl rfl
  ((F_Law_shuts_b100_ok hd hk4))
  (jr_aloadn 36 37 rfl rfl rfl
  (jr_gr 37 40 rfl jg_4_15_2 rfl (fun v16 =>
  jr_iloadn 40 41 rfl rfl rfl
  (jr_iload 41 43 rfl rfl rfl
  (jr_if_lt 43 51 46 rfl rfl rfl
  (jr_aloadn 51 52 rfl rfl rfl
  (jr_iconst 52 53 (-1 : Int32) rfl jc_i_m1 rfl
  (jr_iload 53 55 rfl rfl rfl
  (jr_isub 55 56 rfl rfl
  (jr_ia 56 57 rfl rfl (fun v17 =>
  (F_Law_shuts_b57_ok hd hk4)))))))
  (jr_iload 46 48 rfl rfl rfl
  (jr_goto 48 57 rfl rfl
  ((F_Law_shuts_b57_ok hd hk4)))))))))))))))))))))))))
noncomputable def F_Law_shuts_l4 : Nat → Nat → Nat → Int32 → Int32 → LH → Option (Int32 × LH)
 | 0, _, _, _, _, _ => none
 | n + 1, l0, l1, l2, l3, h => F_Law_shuts_c4 (F_Law_shuts_l4 n) l0 l1 l2 l3 h
theorem F_Law_shuts_l4_ok {d : Nat} {q : (Int32 × LH)} (hd : 1 ≤ d) : ∀ (n : Nat) (l0 : Nat) (l1 : Nat) (l2 : Int32) (l3 : Int32) (u4 : Value) (h : LH), F_Law_shuts_l4 n l0 l1 l2 l3 h = some q → JR d jM_33 4 [.ref l0, .ref l1, .int l2, .int l3, u4] [] h (jo_i q)
 | 0 => fun _ _ _ _ _ _ hq => nomatch (show (none : Option (Int32 × LH)) = some q from hq)
 | n + 1 => fun _ _ _ _ _ _ hq => F_Law_shuts_c4_ok hd (F_Law_shuts_l4_ok hd n) hq
noncomputable def F_Law_shuts (l0 : Nat) (l1 : Nat) (h : LH) : Option (Int32 × LH) :=
 F_Law_shuts_l4  jF l0 l1 (0 : Int32) (0 : Int32) h
set_option maxRecDepth 100000 in
theorem F_Law_shuts_ok {d : Nat} (hd : 2 ≤ d) {l0 : Nat} {l1 : Nat} {h : LH} {q : (Int32 × LH)} : F_Law_shuts l0 l1 h = some q → jl_Sem jt_T jt_Ms d 33 [.ref l0, .ref l1] h (jo_i q) := by
 unfold F_Law_shuts
 exact jr_enter (D := 1) hd jM_33_at rfl rfl rfl (fun d hd =>
  jr_iconst 0 1 (0 : Int32) rfl jc_i_0 rfl
  (jr_istoren 1 2 [.ref l0, .ref l1, .int (0 : Int32), .retAddr 0, .retAddr 0] rfl rfl rfl rfl
  (jr_iconst 2 3 (0 : Int32) rfl jc_i_0 rfl
  (jr_istoren 3 4 [.ref l0, .ref l1, .int (0 : Int32), .int (0 : Int32), .retAddr 0] rfl rfl rfl rfl
  ((F_Law_shuts_l4_ok hd  jF _ _ _ _ _ _))))))
noncomputable def jM_61 : JMeth := (6, false, 0, jk_61, [], 4)
set_option maxRecDepth 100000 in
theorem jM_61_at : jt_Ms 61 = some jM_61 := rfl
noncomputable def F_Scene_sense (l0 : Nat) (l1 : Int32) (l2 : Int32) (l3 : Int32) (h : LH) : Option LH :=
 jf_gr h l0 6 9 fun v1 =>
 jf_is h v1 (0 : Int32) l2 fun h2 =>
 jf_gr h2 l0 6 9 fun v3 =>
 jf_is h2 v3 (1 : Int32) l3 fun h4 =>
 jf_gr h4 l0 6 9 fun v5 =>
 jf_gi h4 l0 6 5 fun v6 =>
 jf_is h4 v5 (2 : Int32) v6 fun h7 =>
 jf_gr h7 l0 6 9 fun v8 =>
 jf_gi h7 l0 6 6 fun v9 =>
 jf_is h7 v8 (3 : Int32) v9 fun h10 =>
 jf_gr h10 l0 6 9 fun v11 =>
 jf_kd h10 l0 6
 (jf_bi (F_Scene_hourNow l0 h10) fun v12 h13 =>
 jf_dv (24 : Int32) (v12 - v12 / (24 : Int32) * (24 : Int32)) fun v14 =>
 jf_is h13 v11 (4 : Int32) v14 fun h15 =>
 jf_gr h15 l0 6 9 fun v16 =>
 jf_is h15 v16 (5 : Int32) l1 fun h17 =>
 jf_gr h17 l0 6 9 fun v18 =>
 jf_gr h17 l0 6 8 fun v19 =>
 jf_ia h17 v19 l1 fun v20 =>
 jf_is h17 v18 (6 : Int32) v20 fun h21 =>
 some h21)
set_option maxRecDepth 100000 in
theorem F_Scene_sense_ok {d : Nat} (hd : 2 ≤ d) {l0 : Nat} {l1 : Int32} {l2 : Int32} {l3 : Int32} {h : LH} {q : LH} : F_Scene_sense l0 l1 l2 l3 h = some q → jl_Sem jt_T jt_Ms d 61 [.ref l0, .int l1, .int l2, .int l3] h (jo_v q) := by
 unfold F_Scene_sense
 exact jr_enter (D := 1) hd jM_61_at rfl rfl rfl (fun d hd =>
  jr_aloadn 0 1 rfl rfl rfl
  (jr_gr 1 4 rfl jg_6_23_2 rfl (fun v1 =>
  jr_iconst 4 5 (0 : Int32) rfl jc_i_0 rfl
  (jr_iloadn 5 6 rfl rfl rfl
  (jr_is 6 7 rfl rfl (fun h2 =>
  jr_aloadn 7 8 rfl rfl rfl
  (jr_gr 8 11 rfl jg_6_23_2 rfl (fun v3 =>
  jr_iconst 11 12 (1 : Int32) rfl jc_i_1 rfl
  (jr_iloadn 12 13 rfl rfl rfl
  (jr_is 13 14 rfl rfl (fun h4 =>
  jr_aloadn 14 15 rfl rfl rfl
  (jr_gr 15 18 rfl jg_6_23_2 rfl (fun v5 =>
  jr_iconst 18 19 (2 : Int32) rfl jc_i_2 rfl
  (jr_aloadn 19 20 rfl rfl rfl
  (jr_gi 20 23 rfl jg_6_59_1 rfl (fun v6 =>
  jr_is 23 24 rfl rfl (fun h7 =>
  jr_aloadn 24 25 rfl rfl rfl
  (jr_gr 25 28 rfl jg_6_23_2 rfl (fun v8 =>
  jr_iconst 28 29 (3 : Int32) rfl jc_i_3 rfl
  (jr_aloadn 29 30 rfl rfl rfl
  (jr_gi 30 33 rfl jg_6_62_1 rfl (fun v9 =>
  jr_is 33 34 rfl rfl (fun h10 =>
  jr_aloadn 34 35 rfl rfl rfl
  (jr_gr 35 38 rfl jg_6_23_2 rfl (fun v11 =>
  jr_iconst 38 39 (4 : Int32) rfl jc_i_4 rfl
  (jr_aloadn 39 40 rfl rfl rfl
  (jr_cVi 40 43 [.int (4 : Int32), .ref v11] rfl rfl rfl rfl rfl rfl rfl rfl (as := []) (F_Scene_hourNow_ok (Nat.le_trans (by decide : 1 ≤ 1) hd)) (fun v12 h13 =>
  jr_bipush 43 45 (24 : Int32) rfl jc_b_24 rfl
  (jr_irem 45 46 rfl rfl (fun v14 =>
  jr_is 46 47 rfl rfl (fun h15 =>
  jr_aloadn 47 48 rfl rfl rfl
  (jr_gr 48 51 rfl jg_6_23_2 rfl (fun v16 =>
  jr_iconst 51 52 (5 : Int32) rfl jc_i_5 rfl
  (jr_iloadn 52 53 rfl rfl rfl
  (jr_is 53 54 rfl rfl (fun h17 =>
  jr_aloadn 54 55 rfl rfl rfl
  (jr_gr 55 58 rfl jg_6_23_2 rfl (fun v18 =>
  jr_bipush 58 60 (6 : Int32) rfl jc_b_6 rfl
  (jr_aloadn 60 61 rfl rfl rfl
  (jr_gr 61 64 rfl jg_6_18_2 rfl (fun v19 =>
  jr_iloadn 64 65 rfl rfl rfl
  (jr_ia 65 66 rfl rfl (fun v20 =>
  jr_is 66 67 rfl rfl (fun h21 =>
  jr_rv 67 rfl rfl))))))))))))))))))))))))))))))))))))))))))))
noncomputable def jM_56 : JMeth := (6, false, 2, jk_56, [], 2)
set_option maxRecDepth 100000 in
theorem jM_56_at : jt_Ms 56 = some jM_56 := rfl
noncomputable def F_Scene_isShut (l0 : Nat) (l1 : Int32) (h : LH) : Option (Int32 × LH) :=
 jf_kd h l0 6
 ((F_Scene_look l0 h).bind fun h1 =>
 jf_gr h1 l0 6 7 fun v2 =>
 jf_ia h1 v2 l1 fun v3 =>
 jf_kd h1 l0 6
 (jf_bi (F_Scene_burning l0 l1 h1) fun v4 h5 =>
 jf_kd h5 l0 6
 ((F_Scene_sense l0 l1 v3 v4 h5).bind fun h6 =>
 jf_gr h6 l0 6 2 fun v7 =>
 jf_gr h6 l0 6 9 fun v8 =>
 jf_kd h6 v7 4
 (jf_bi (F_Law_shuts v7 v8 h6) fun v9 h10 =>
 jf_rz v9 (some (v9, h10))))))
set_option maxRecDepth 100000 in
theorem F_Scene_isShut_ok {d : Nat} (hd : 3 ≤ d) {l0 : Nat} {l1 : Int32} {h : LH} {q : (Int32 × LH)} : F_Scene_isShut l0 l1 h = some q → jl_Sem jt_T jt_Ms d 56 [.ref l0, .int l1] h (jo_i q) := by
 unfold F_Scene_isShut
 exact jr_enter (D := 2) hd jM_56_at rfl rfl rfl (fun d hd =>
  jr_aloadn 0 1 rfl rfl rfl
  (jr_cVv 1 4 [] rfl rfl rfl rfl rfl rfl rfl rfl (as := []) (F_Scene_look_ok (Nat.le_trans (by decide : 2 ≤ 2) hd)) (fun h1 =>
  jr_aloadn 4 5 rfl rfl rfl
  (jr_iloadn 5 6 rfl rfl rfl
  (jr_aloadn 6 7 rfl rfl rfl
  (jr_gr 7 10 rfl jg_6_15_2 rfl (fun v2 =>
  jr_iloadn 10 11 rfl rfl rfl
  (jr_ia 11 12 rfl rfl (fun v3 =>
  jr_aloadn 12 13 rfl rfl rfl
  (jr_iloadn 13 14 rfl rfl rfl
  (jr_cVi 14 17 [.int v3, .int l1, .ref l0] rfl rfl rfl rfl rfl rfl rfl rfl (as := [.int l1]) (F_Scene_burning_ok (Nat.le_trans (by decide : 1 ≤ 2) hd)) (fun v4 h5 =>
  jr_cVv 17 20 [] rfl rfl rfl rfl rfl rfl rfl rfl (as := [.int l1, .int v3, .int v4]) (F_Scene_sense_ok (Nat.le_trans (by decide : 2 ≤ 2) hd)) (fun h6 =>
  jr_aloadn 20 21 rfl rfl rfl
  (jr_gr 21 24 rfl jg_6_30_2 rfl (fun v7 =>
  jr_aloadn 24 25 rfl rfl rfl
  (jr_gr 25 28 rfl jg_6_23_2 rfl (fun v8 =>
  jr_cVi 28 31 [] rfl rfl rfl rfl rfl rfl rfl rfl (as := [.ref v8]) (F_Law_shuts_ok (Nat.le_trans (by decide : 2 ≤ 2) hd)) (fun v9 h10 =>
  jr_rz 31 rfl rfl))))))))))))))))))
noncomputable def jM_63 : JMeth := (6, false, 1, jk_63, [], 2)
set_option maxRecDepth 100000 in
theorem jM_63_at : jt_Ms 63 = some jM_63 := rfl
noncomputable def F_Scene_came (l0 : Nat) (l1 : Int32) (h : LH) : Option (Int32 × LH) :=
 jf_gr h l0 6 0 fun v1 =>
 jf_ia h v1 ((7 : Int32) + l1) fun v2 =>
 some (v2, h)
set_option maxRecDepth 100000 in
theorem F_Scene_came_ok {d : Nat} (hd : 1 ≤ d) {l0 : Nat} {l1 : Int32} {h : LH} {q : (Int32 × LH)} : F_Scene_came l0 l1 h = some q → jl_Sem jt_T jt_Ms d 63 [.ref l0, .int l1] h (jo_i q) := by
 unfold F_Scene_came
 exact jr_enter (D := 0) hd jM_63_at rfl rfl rfl (fun d hd =>
  jr_aloadn 0 1 rfl rfl rfl
  (jr_gr 1 4 rfl jg_6_11_2 rfl (fun v1 =>
  jr_bipush 4 6 (7 : Int32) rfl jc_b_7 rfl
  (jr_iloadn 6 7 rfl rfl rfl
  (jr_iadd 7 8 rfl rfl
  (jr_ia 8 9 rfl rfl (fun v2 =>
  jr_ri 9 rfl rfl)))))))
noncomputable def jM_62 : JMeth := (6, false, 0, jk_62, [], 2)
set_option maxRecDepth 100000 in
theorem jM_62_at : jt_Ms 62 = some jM_62 := rfl
noncomputable def F_Scene_takeToll_b46 (h : LH) : Option LH :=
 some h
set_option maxRecDepth 100000 in
theorem F_Scene_takeToll_b46_ok {d : Nat} {q : LH} (hd : 1 ≤ d) {u0 : Value} {u1 : Value} {h : LH} : F_Scene_takeToll_b46 h = some q → JR d jM_62 46 [u0, u1] [] h (jo_v q) := by
 unfold F_Scene_takeToll_b46
 exact jr_rv 46 rfl rfl
noncomputable def F_Scene_takeToll (l0 : Nat) (l1 : Int32) (h : LH) : Option LH :=
 jf_kd h l0 6
 (jf_bi (F_Scene_came l0 l1 h) fun v1 h2 =>
 if v1 = (1 : Int32) then
 jf_gr h2 l0 6 1 fun v3 =>
 jf_gi h2 v3 8 1 fun v4 =>
 if 0 < v4 then
 jf_gr h2 l0 6 0 fun v5 =>
 jf_gr h2 l0 6 0 fun v6 =>
 jf_ia h2 v6 (1 : Int32) fun v7 =>
 jf_gr h2 l0 6 1 fun v8 =>
 jf_gr h2 v8 8 16 fun v9 =>
 jf_ia h2 v9 l1 fun v10 =>
 jf_is h2 v5 (1 : Int32) (if (v7 + v10) < (99 : Int32) then (v7 + v10) else (99 : Int32)) fun h11 =>
 F_Scene_takeToll_b46  h11
else
 F_Scene_takeToll_b46  h2
else
 F_Scene_takeToll_b46  h2)
set_option maxRecDepth 100000 in
theorem F_Scene_takeToll_ok {d : Nat} (hd : 2 ≤ d) {l0 : Nat} {l1 : Int32} {h : LH} {q : LH} : F_Scene_takeToll l0 l1 h = some q → jl_Sem jt_T jt_Ms d 62 [.ref l0, .int l1] h (jo_v q) := by
 unfold F_Scene_takeToll
 exact jr_enter (D := 1) hd jM_62_at rfl rfl rfl (fun d hd =>
  jr_aloadn 0 1 rfl rfl rfl
  (jr_iloadn 1 2 rfl rfl rfl
  (jr_cVi 2 5 [] rfl rfl rfl rfl rfl rfl rfl rfl (as := [.int l1]) (F_Scene_came_ok (Nat.le_trans (by decide : 1 ≤ 1) hd)) (fun v1 h2 =>
  jr_iconst 5 6 (1 : Int32) rfl jc_i_1 rfl
  (jr_icmp_ne 6 46 9 rfl rfl rfl
  ((F_Scene_takeToll_b46_ok hd ))
  (jr_aloadn 9 10 rfl rfl rfl
  (jr_gr 10 13 rfl jg_6_26_2 rfl (fun v3 =>
  jr_gi 13 16 rfl jg_6_34_1 rfl (fun v4 =>
  jr_if_le 16 46 19 rfl rfl rfl
  ((F_Scene_takeToll_b46_ok hd ))
  (jr_aloadn 19 20 rfl rfl rfl
  (jr_gr 20 23 rfl jg_6_11_2 rfl (fun v5 =>
  jr_iconst 23 24 (1 : Int32) rfl jc_i_1 rfl
  (jr_bipush 24 26 (99 : Int32) rfl jc_b_99 rfl
  (jr_aloadn 26 27 rfl rfl rfl
  (jr_gr 27 30 rfl jg_6_11_2 rfl (fun v6 =>
  jr_iconst 30 31 (1 : Int32) rfl jc_i_1 rfl
  (jr_ia 31 32 rfl rfl (fun v7 =>
  jr_aloadn 32 33 rfl rfl rfl
  (jr_gr 33 36 rfl jg_6_26_2 rfl (fun v8 =>
  jr_gr 36 39 rfl jg_6_141_2 rfl (fun v9 =>
  jr_iloadn 39 40 rfl rfl rfl
  (jr_ia 40 41 rfl rfl (fun v10 =>
  jr_iadd 41 42 rfl rfl
  (jr_min 42 45 rfl rfl rfl rfl
  (jr_is 45 46 rfl rfl (fun h11 =>
  (F_Scene_takeToll_b46_ok hd )))))))))))))))))))))))))))
noncomputable def jM_48 : JMeth := (6, false, 1, jk_48, [], 3)
set_option maxRecDepth 100000 in
theorem jM_48_at : jt_Ms 48 = some jM_48 := rfl
noncomputable def F_Scene_leftOf (l0 : Nat) (l1 : Int32) (l2 : Int32) (h : LH) : Option (Int32 × LH) :=
 jf_gr h l0 6 0 fun v1 =>
 jf_ia h v1 (((80 : Int32) + (l1 * (6 : Int32))) + l2) fun v2 =>
 some (v2, h)
set_option maxRecDepth 100000 in
theorem F_Scene_leftOf_ok {d : Nat} (hd : 1 ≤ d) {l0 : Nat} {l1 : Int32} {l2 : Int32} {h : LH} {q : (Int32 × LH)} : F_Scene_leftOf l0 l1 l2 h = some q → jl_Sem jt_T jt_Ms d 48 [.ref l0, .int l1, .int l2] h (jo_i q) := by
 unfold F_Scene_leftOf
 exact jr_enter (D := 0) hd jM_48_at rfl rfl rfl (fun d hd =>
  jr_aloadn 0 1 rfl rfl rfl
  (jr_gr 1 4 rfl jg_6_11_2 rfl (fun v1 =>
  jr_bipush 4 6 (80 : Int32) rfl jc_b_80 rfl
  (jr_iloadn 6 7 rfl rfl rfl
  (jr_bipush 7 9 (6 : Int32) rfl jc_b_6 rfl
  (jr_imul 9 10 rfl rfl
  (jr_iadd 10 11 rfl rfl
  (jr_iloadn 11 12 rfl rfl rfl
  (jr_iadd 12 13 rfl rfl
  (jr_ia 13 14 rfl rfl (fun v2 =>
  jr_ri 14 rfl rfl)))))))))))
noncomputable def jM_64 : JMeth := (6, false, 0, jk_64, [], 6)
set_option maxRecDepth 100000 in
theorem jM_64_at : jt_Ms 64 = some jM_64 := rfl
noncomputable def F_Scene_burnDown_b70 (k10 : Nat → Int32 → Int32 → Int32 → Int32 → LH → Option LH) (l0 : Nat) (l1 : Int32) (l2 : Int32) (l3 : Int32) (l4 : Int32) (h : LH) : Option LH :=
 k10 l0 l1 l2 l3 (l4 + (1 : Int32)) h
set_option maxRecDepth 100000 in
theorem F_Scene_burnDown_b70_ok {d : Nat} {q : LH} {k10 : Nat → Int32 → Int32 → Int32 → Int32 → LH → Option LH} (hd : 1 ≤ d) (hk10 : ∀ (l0 : Nat) (l1 : Int32) (l2 : Int32) (l3 : Int32) (l4 : Int32) (u5 : Value) (h : LH), k10 l0 l1 l2 l3 l4 h = some q → JR d jM_64 10 [.ref l0, .int l1, .int l2, .int l3, .int l4, u5] [] h (jo_v q)) {l0 : Nat} {l1 : Int32} {l2 : Int32} {l3 : Int32} {l4 : Int32} {u5 : Value} {h : LH} : F_Scene_burnDown_b70 k10 l0 l1 l2 l3 l4 h = some q → JR d jM_64 70 [.ref l0, .int l1, .int l2, .int l3, .int l4, u5] [] h (jo_v q) := by
 unfold F_Scene_burnDown_b70
 exact jr_iinc 70 73 [.ref l0, .int l1, .int l2, .int l3, .int (l4 + (1 : Int32)), u5] rfl jc_i_1 rfl rfl rfl rfl
  (jr_goto 73 10 rfl rfl
  ((hk10 _ _ _ _ _ _ _)))
noncomputable def F_Scene_burnDown_c10 (k10 : Nat → Int32 → Int32 → Int32 → Int32 → LH → Option LH) (l0 : Nat) (l1 : Int32) (l2 : Int32) (l3 : Int32) (l4 : Int32) (h : LH) : Option LH :=
 jf_kd h l0 6
 (jf_bi (F_Scene_burning l0 l1 h) fun v1 h2 =>
 if l4 < v1 then
 jf_kd h2 l0 6
 (jf_bi (F_Scene_leftOf l0 l1 l4 h2) fun v5 h6 =>
 jf_let (v5 - (1 : Int32)) fun v7 =>
 if 0 < v7 then
 jf_gr h6 l0 6 0 fun v8 =>
 jf_kd h6 l0 6
 (jf_bi (F_Scene_woodOf l0 l1 l4 h6) fun v9 h10 =>
 jf_is h10 v8 (((26 : Int32) + l2) + l3) v9 fun h11 =>
 jf_gr h11 l0 6 0 fun v12 =>
 jf_is h11 v12 (((80 : Int32) + l2) + l3) v7 fun h13 =>
 F_Scene_burnDown_b70 k10 l0 l1 l2 (l3 + (1 : Int32)) l4 h13)
else
 F_Scene_burnDown_b70 k10 l0 l1 l2 l3 l4 h6)
else
 jf_gr h2 l0 6 0 fun v3 =>
 jf_is h2 v3 ((17 : Int32) + l1) l3 fun h4 =>
 some h4)
set_option maxRecDepth 100000 in
theorem F_Scene_burnDown_c10_ok {d : Nat} {q : LH} {k10 : Nat → Int32 → Int32 → Int32 → Int32 → LH → Option LH} (hd : 1 ≤ d) (hk10 : ∀ (l0 : Nat) (l1 : Int32) (l2 : Int32) (l3 : Int32) (l4 : Int32) (u5 : Value) (h : LH), k10 l0 l1 l2 l3 l4 h = some q → JR d jM_64 10 [.ref l0, .int l1, .int l2, .int l3, .int l4, u5] [] h (jo_v q)) {l0 : Nat} {l1 : Int32} {l2 : Int32} {l3 : Int32} {l4 : Int32} {u5 : Value} {h : LH} : F_Scene_burnDown_c10 k10 l0 l1 l2 l3 l4 h = some q → JR d jM_64 10 [.ref l0, .int l1, .int l2, .int l3, .int l4, u5] [] h (jo_v q) := by
 unfold F_Scene_burnDown_c10
 exact jr_iload 10 12 rfl rfl rfl
  (jr_aloadn 12 13 rfl rfl rfl
  (jr_iloadn 13 14 rfl rfl rfl
  (jr_cVi 14 17 [.int l4] rfl rfl rfl rfl rfl rfl rfl rfl (as := [.int l1]) (F_Scene_burning_ok (Nat.le_trans (by decide : 1 ≤ 1) hd)) (fun v1 h2 =>
  jr_icmp_ge 17 76 20 rfl rfl rfl
  (jr_aloadn 76 77 rfl rfl rfl
  (jr_gr 77 80 rfl jg_6_11_2 rfl (fun v3 =>
  jr_bipush 80 82 (17 : Int32) rfl jc_b_17 rfl
  (jr_iloadn 82 83 rfl rfl rfl
  (jr_iadd 83 84 rfl rfl
  (jr_iloadn 84 85 rfl rfl rfl
  (jr_is 85 86 rfl rfl (fun h4 =>
  jr_rv 86 rfl rfl))))))))
  (jr_aloadn 20 21 rfl rfl rfl
  (jr_iloadn 21 22 rfl rfl rfl
  (jr_iload 22 24 rfl rfl rfl
  (jr_cVi 24 27 [] rfl rfl rfl rfl rfl rfl rfl rfl (as := [.int l1, .int l4]) (F_Scene_leftOf_ok (Nat.le_trans (by decide : 1 ≤ 1) hd)) (fun v5 h6 =>
  jr_iconst 27 28 (1 : Int32) rfl jc_i_1 rfl
  (jr_isub 28 29 rfl rfl
  (jr_istoreL 29 31 (fun v7 => [.ref l0, .int l1, .int l2, .int l3, .int l4, .int v7]) rfl rfl (fun _ => rfl) rfl (fun v7 =>
  jr_iload 31 33 rfl rfl rfl
  (jr_if_le 33 70 36 rfl rfl rfl
  ((F_Scene_burnDown_b70_ok hd hk10))
  (jr_aloadn 36 37 rfl rfl rfl
  (jr_gr 37 40 rfl jg_6_11_2 rfl (fun v8 =>
  jr_bipush 40 42 (26 : Int32) rfl jc_b_26 rfl
  (jr_iloadn 42 43 rfl rfl rfl
  (jr_iadd 43 44 rfl rfl
  (jr_iloadn 44 45 rfl rfl rfl
  (jr_iadd 45 46 rfl rfl
  (jr_aloadn 46 47 rfl rfl rfl
  (jr_iloadn 47 48 rfl rfl rfl
  (jr_iload 48 50 rfl rfl rfl
  (jr_cVi 50 53 [.int (((26 : Int32) + l2) + l3), .ref v8] rfl rfl rfl rfl rfl rfl rfl rfl (as := [.int l1, .int l4]) (F_Scene_woodOf_ok (Nat.le_trans (by decide : 1 ≤ 1) hd)) (fun v9 h10 =>
  jr_is 53 54 rfl rfl (fun h11 =>
  jr_aloadn 54 55 rfl rfl rfl
  (jr_gr 55 58 rfl jg_6_11_2 rfl (fun v12 =>
  jr_bipush 58 60 (80 : Int32) rfl jc_b_80 rfl
  (jr_iloadn 60 61 rfl rfl rfl
  (jr_iadd 61 62 rfl rfl
  (jr_iloadn 62 63 rfl rfl rfl
  (jr_iadd 63 64 rfl rfl
  (jr_iload 64 66 rfl rfl rfl
  (jr_is 66 67 rfl rfl (fun h13 =>
  jr_iinc 67 70 [.ref l0, .int l1, .int l2, .int (l3 + (1 : Int32)), .int l4, .int v7] rfl jc_i_1 rfl rfl rfl rfl
  ((F_Scene_burnDown_b70_ok hd hk10)))))))))))))))))))))))))))))))))))))
noncomputable def F_Scene_burnDown_l10 : Nat → Nat → Int32 → Int32 → Int32 → Int32 → LH → Option LH
 | 0, _, _, _, _, _, _ => none
 | n + 1, l0, l1, l2, l3, l4, h => F_Scene_burnDown_c10 (F_Scene_burnDown_l10 n) l0 l1 l2 l3 l4 h
theorem F_Scene_burnDown_l10_ok {d : Nat} {q : LH} (hd : 1 ≤ d) : ∀ (n : Nat) (l0 : Nat) (l1 : Int32) (l2 : Int32) (l3 : Int32) (l4 : Int32) (u5 : Value) (h : LH), F_Scene_burnDown_l10 n l0 l1 l2 l3 l4 h = some q → JR d jM_64 10 [.ref l0, .int l1, .int l2, .int l3, .int l4, u5] [] h (jo_v q)
 | 0 => fun _ _ _ _ _ _ _ hq => nomatch (show (none : Option LH) = some q from hq)
 | n + 1 => fun _ _ _ _ _ _ _ hq => F_Scene_burnDown_c10_ok hd (F_Scene_burnDown_l10_ok hd n) hq
noncomputable def F_Scene_burnDown (l0 : Nat) (l1 : Int32) (h : LH) : Option LH :=
 jf_let (l1 * (6 : Int32)) fun v1 =>
 F_Scene_burnDown_l10  jF l0 l1 v1 (0 : Int32) (0 : Int32) h
set_option maxRecDepth 100000 in
theorem F_Scene_burnDown_ok {d : Nat} (hd : 2 ≤ d) {l0 : Nat} {l1 : Int32} {h : LH} {q : LH} : F_Scene_burnDown l0 l1 h = some q → jl_Sem jt_T jt_Ms d 64 [.ref l0, .int l1] h (jo_v q) := by
 unfold F_Scene_burnDown
 exact jr_enter (D := 1) hd jM_64_at rfl rfl rfl (fun d hd =>
  jr_iloadn 0 1 rfl rfl rfl
  (jr_bipush 1 3 (6 : Int32) rfl jc_b_6 rfl
  (jr_imul 3 4 rfl rfl
  (jr_istorenL 4 5 (fun v1 => [.ref l0, .int l1, .int v1, .retAddr 0, .retAddr 0, .retAddr 0]) rfl rfl (fun _ => rfl) rfl (fun v1 =>
  jr_iconst 5 6 (0 : Int32) rfl jc_i_0 rfl
  (jr_istoren 6 7 [.ref l0, .int l1, .int v1, .int (0 : Int32), .retAddr 0, .retAddr 0] rfl rfl rfl rfl
  (jr_iconst 7 8 (0 : Int32) rfl jc_i_0 rfl
  (jr_istore 8 10 [.ref l0, .int l1, .int v1, .int (0 : Int32), .int (0 : Int32), .retAddr 0] rfl rfl rfl rfl
  ((F_Scene_burnDown_l10_ok hd  jF _ _ _ _ _ _ _))))))))))
noncomputable def jM_55 : JMeth := (6, false, 0, jk_55, [], 2)
set_option maxRecDepth 100000 in
theorem jM_55_at : jt_Ms 55 = some jM_55 := rfl
noncomputable def F_Scene_pass_c72 (k72 : Nat → Int32 → LH → Option LH) (l0 : Nat) (l1 : Int32) (h : LH) : Option LH :=
 jf_gr h l0 6 1 fun v1 =>
 jf_gi h v1 8 0 fun v2 =>
 if l1 < v2 then
 jf_kd h l0 6
 ((F_Scene_burnDown l0 l1 h).bind fun h8 =>
 k72 l0 (l1 + (1 : Int32)) h8)
else
 jf_gr h l0 6 0 fun v3 =>
 jf_ia h v3 (0 : Int32) fun v4 =>
 jf_is h v3 (0 : Int32) (v4 + (1 : Int32)) fun h5 =>
 jf_pz h5 l0 6 3 (0 : Int32) fun h6 =>
 jf_pz h6 l0 6 4 (0 : Int32) fun h7 =>
 some h7
set_option maxRecDepth 100000 in
theorem F_Scene_pass_c72_ok {d : Nat} {q : LH} {k72 : Nat → Int32 → LH → Option LH} (hd : 3 ≤ d) (hk72 : ∀ (l0 : Nat) (l1 : Int32) (h : LH), k72 l0 l1 h = some q → JR d jM_55 72 [.ref l0, .int l1] [] h (jo_v q)) {l0 : Nat} {l1 : Int32} {h : LH} : F_Scene_pass_c72 k72 l0 l1 h = some q → JR d jM_55 72 [.ref l0, .int l1] [] h (jo_v q) := by
 unfold F_Scene_pass_c72
 exact jr_iloadn 72 73 rfl rfl rfl
  (jr_aloadn 73 74 rfl rfl rfl
  (jr_gr 74 77 rfl jg_6_26_2 rfl (fun v1 =>
  jr_gi 77 80 rfl jg_6_72_1 rfl (fun v2 =>
  jr_icmp_ge 80 94 83 rfl rfl rfl
  (jr_aloadn 94 95 rfl rfl rfl
  (jr_gr 95 98 rfl jg_6_11_2 rfl (fun v3 =>
  jr_iconst 98 99 (0 : Int32) rfl jc_i_0 rfl
  (jr_dup2 99 100 rfl rfl rfl rfl
  (jr_ia 100 101 rfl rfl (fun v4 =>
  jr_iconst 101 102 (1 : Int32) rfl jc_i_1 rfl
  (jr_iadd 102 103 rfl rfl
  (jr_is 103 104 rfl rfl (fun h5 =>
  jr_aloadn 104 105 rfl rfl rfl
  (jr_iconst 105 106 (0 : Int32) rfl jc_i_0 rfl
  (jr_pz 106 109 rfl jg_6_43_4 rfl (fun h6 =>
  jr_aloadn 109 110 rfl rfl rfl
  (jr_iconst 110 111 (0 : Int32) rfl jc_i_0 rfl
  (jr_pz 111 114 rfl jg_6_47_4 rfl (fun h7 =>
  jr_rv 114 rfl rfl)))))))))))))))
  (jr_aloadn 83 84 rfl rfl rfl
  (jr_iloadn 84 85 rfl rfl rfl
  (jr_cVv 85 88 [] rfl rfl rfl rfl rfl rfl rfl rfl (as := [.int l1]) (F_Scene_burnDown_ok (Nat.le_trans (by decide : 2 ≤ 3) hd)) (fun h8 =>
  jr_iinc 88 91 [.ref l0, .int (l1 + (1 : Int32))] rfl jc_i_1 rfl rfl rfl rfl
  (jr_goto 91 72 rfl rfl
  ((hk72 _ _ _)))))))))))
noncomputable def F_Scene_pass_l72 : Nat → Nat → Int32 → LH → Option LH
 | 0, _, _, _ => none
 | n + 1, l0, l1, h => F_Scene_pass_c72 (F_Scene_pass_l72 n) l0 l1 h
theorem F_Scene_pass_l72_ok {d : Nat} {q : LH} (hd : 3 ≤ d) : ∀ (n : Nat) (l0 : Nat) (l1 : Int32) (h : LH), F_Scene_pass_l72 n l0 l1 h = some q → JR d jM_55 72 [.ref l0, .int l1] [] h (jo_v q)
 | 0 => fun _ _ _ hq => nomatch (show (none : Option LH) = some q from hq)
 | n + 1 => fun _ _ _ hq => F_Scene_pass_c72_ok hd (F_Scene_pass_l72_ok hd n) hq
noncomputable def F_Scene_pass_b64 (k2 : Nat → Int32 → LH → Option LH) (l0 : Nat) (l1 : Int32) (h : LH) : Option LH :=
 k2 l0 (l1 + (1 : Int32)) h
set_option maxRecDepth 100000 in
theorem F_Scene_pass_b64_ok {d : Nat} {q : LH} {k2 : Nat → Int32 → LH → Option LH} (hd : 3 ≤ d) (hk2 : ∀ (l0 : Nat) (l1 : Int32) (h : LH), k2 l0 l1 h = some q → JR d jM_55 2 [.ref l0, .int l1] [] h (jo_v q)) {l0 : Nat} {l1 : Int32} {h : LH} : F_Scene_pass_b64 k2 l0 l1 h = some q → JR d jM_55 64 [.ref l0, .int l1] [] h (jo_v q) := by
 unfold F_Scene_pass_b64
 exact jr_iinc 64 67 [.ref l0, .int (l1 + (1 : Int32))] rfl jc_i_1 rfl rfl rfl rfl
  (jr_goto 67 2 rfl rfl
  ((hk2 _ _ _)))
noncomputable def F_Scene_pass_b58 (k2 : Nat → Int32 → LH → Option LH) (l0 : Nat) (l1 : Int32) (s0 : Nat) (s1 : Int32) (s2 : Int32) (h : LH) : Option LH :=
 jf_is h s0 s1 s2 fun h1 =>
 jf_kd h1 l0 6
 ((F_Scene_takeToll l0 l1 h1).bind fun h2 =>
 F_Scene_pass_b64 k2 l0 l1 h2)
set_option maxRecDepth 100000 in
theorem F_Scene_pass_b58_ok {d : Nat} {q : LH} {k2 : Nat → Int32 → LH → Option LH} (hd : 3 ≤ d) (hk2 : ∀ (l0 : Nat) (l1 : Int32) (h : LH), k2 l0 l1 h = some q → JR d jM_55 2 [.ref l0, .int l1] [] h (jo_v q)) {l0 : Nat} {l1 : Int32} {s0 : Nat} {s1 : Int32} {s2 : Int32} {h : LH} : F_Scene_pass_b58 k2 l0 l1 s0 s1 s2 h = some q → JR d jM_55 58 [.ref l0, .int l1] [.int s2, .int s1, .ref s0] h (jo_v q) := by
 unfold F_Scene_pass_b58
 exact jr_is 58 59 rfl rfl (fun h1 =>
  jr_aloadn 59 60 rfl rfl rfl
  (jr_iloadn 60 61 rfl rfl rfl
  (jr_cVv 61 64 [] rfl rfl rfl rfl rfl rfl rfl rfl (as := [.int l1]) (F_Scene_takeToll_ok (Nat.le_trans (by decide : 2 ≤ 3) hd)) (fun h2 =>
  (F_Scene_pass_b64_ok hd hk2)))))
noncomputable def F_Scene_pass_c2 (k2 : Nat → Int32 → LH → Option LH) (l0 : Nat) (l1 : Int32) (h : LH) : Option LH :=
 jf_gr h l0 6 1 fun v1 =>
 jf_gi h v1 8 4 fun v2 =>
 if l1 < v2 then
 jf_gr h l0 6 1 fun v3 =>
 jf_gr h v3 8 15 fun v4 =>
 jf_ia h v4 l1 fun v5 =>
 jf_kd h l0 6
 (jf_bi (F_Scene_hourNow l0 h) fun v6 h7 =>
 if v5 = v6 then
 jf_gr h7 l0 6 0 fun v8 =>
 jf_gr h7 l0 6 1 fun v9 =>
 jf_gr h7 v9 8 14 fun v10 =>
 jf_ia h7 v10 l1 fun v11 =>
 jf_kd h7 l0 6
 (jf_bi (F_Scene_isShut l0 v11 h7) fun v12 h13 =>
 if v12 = 0 then
 F_Scene_pass_b58 k2 l0 l1 v8 ((7 : Int32) + l1) (1 : Int32) h13
else
 F_Scene_pass_b58 k2 l0 l1 v8 ((7 : Int32) + l1) (2 : Int32) h13)
else
 F_Scene_pass_b64 k2 l0 l1 h7)
else
 F_Scene_pass_l72  jF l0 (0 : Int32) h
set_option maxRecDepth 100000 in
theorem F_Scene_pass_c2_ok {d : Nat} {q : LH} {k2 : Nat → Int32 → LH → Option LH} (hd : 3 ≤ d) (hk2 : ∀ (l0 : Nat) (l1 : Int32) (h : LH), k2 l0 l1 h = some q → JR d jM_55 2 [.ref l0, .int l1] [] h (jo_v q)) {l0 : Nat} {l1 : Int32} {h : LH} : F_Scene_pass_c2 k2 l0 l1 h = some q → JR d jM_55 2 [.ref l0, .int l1] [] h (jo_v q) := by
 unfold F_Scene_pass_c2
 exact jr_iloadn 2 3 rfl rfl rfl
  (jr_aloadn 3 4 rfl rfl rfl
  (jr_gr 4 7 rfl jg_6_26_2 rfl (fun v1 =>
  jr_gi 7 10 rfl jg_6_122_1 rfl (fun v2 =>
  jr_icmp_ge 10 70 13 rfl rfl rfl
  (jr_iconst 70 71 (0 : Int32) rfl jc_i_0 rfl
  (jr_istoren 71 72 [.ref l0, .int (0 : Int32)] rfl rfl rfl rfl
  ((F_Scene_pass_l72_ok hd  jF _ _ _))))
  (jr_aloadn 13 14 rfl rfl rfl
  (jr_gr 14 17 rfl jg_6_26_2 rfl (fun v3 =>
  jr_gr 17 20 rfl jg_6_125_2 rfl (fun v4 =>
  jr_iloadn 20 21 rfl rfl rfl
  (jr_ia 21 22 rfl rfl (fun v5 =>
  jr_aloadn 22 23 rfl rfl rfl
  (jr_cVi 23 26 [.int v5] rfl rfl rfl rfl rfl rfl rfl rfl (as := []) (F_Scene_hourNow_ok (Nat.le_trans (by decide : 1 ≤ 3) hd)) (fun v6 h7 =>
  jr_icmp_ne 26 64 29 rfl rfl rfl
  ((F_Scene_pass_b64_ok hd hk2))
  (jr_aloadn 29 30 rfl rfl rfl
  (jr_gr 30 33 rfl jg_6_11_2 rfl (fun v8 =>
  jr_bipush 33 35 (7 : Int32) rfl jc_b_7 rfl
  (jr_iloadn 35 36 rfl rfl rfl
  (jr_iadd 36 37 rfl rfl
  (jr_aloadn 37 38 rfl rfl rfl
  (jr_aloadn 38 39 rfl rfl rfl
  (jr_gr 39 42 rfl jg_6_26_2 rfl (fun v9 =>
  jr_gr 42 45 rfl jg_6_128_2 rfl (fun v10 =>
  jr_iloadn 45 46 rfl rfl rfl
  (jr_ia 46 47 rfl rfl (fun v11 =>
  jr_cVi 47 50 [.int ((7 : Int32) + l1), .ref v8] rfl rfl rfl rfl rfl rfl rfl rfl (as := [.int v11]) (F_Scene_isShut_ok (Nat.le_trans (by decide : 3 ≤ 3) hd)) (fun v12 h13 =>
  jr_if_eq 50 57 53 rfl rfl rfl
  (jr_iconst 57 58 (1 : Int32) rfl jc_i_1 rfl
  ((F_Scene_pass_b58_ok hd hk2)))
  (jr_iconst 53 54 (2 : Int32) rfl jc_i_2 rfl
  (jr_goto 54 58 rfl rfl
  ((F_Scene_pass_b58_ok hd hk2)))))))))))))))))))))))))))))
noncomputable def F_Scene_pass_l2 : Nat → Nat → Int32 → LH → Option LH
 | 0, _, _, _ => none
 | n + 1, l0, l1, h => F_Scene_pass_c2 (F_Scene_pass_l2 n) l0 l1 h
theorem F_Scene_pass_l2_ok {d : Nat} {q : LH} (hd : 3 ≤ d) : ∀ (n : Nat) (l0 : Nat) (l1 : Int32) (h : LH), F_Scene_pass_l2 n l0 l1 h = some q → JR d jM_55 2 [.ref l0, .int l1] [] h (jo_v q)
 | 0 => fun _ _ _ hq => nomatch (show (none : Option LH) = some q from hq)
 | n + 1 => fun _ _ _ hq => F_Scene_pass_c2_ok hd (F_Scene_pass_l2_ok hd n) hq
noncomputable def F_Scene_pass (l0 : Nat) (h : LH) : Option LH :=
 F_Scene_pass_l2  jF l0 (0 : Int32) h
set_option maxRecDepth 100000 in
theorem F_Scene_pass_ok {d : Nat} (hd : 4 ≤ d) {l0 : Nat} {h : LH} {q : LH} : F_Scene_pass l0 h = some q → jl_Sem jt_T jt_Ms d 55 [.ref l0] h (jo_v q) := by
 unfold F_Scene_pass
 exact jr_enter (D := 3) hd jM_55_at rfl rfl rfl (fun d hd =>
  jr_iconst 0 1 (0 : Int32) rfl jc_i_0 rfl
  (jr_istoren 1 2 [.ref l0, .int (0 : Int32)] rfl rfl rfl rfl
  ((F_Scene_pass_l2_ok hd  jF _ _ _))))
noncomputable def jM_66 : JMeth := (6, false, 1, jk_66, [], 1)
set_option maxRecDepth 100000 in
theorem jM_66_at : jt_Ms 66 = some jM_66 := rfl
noncomputable def F_Scene_rainNow (l0 : Nat) (h : LH) : Option (Int32 × LH) :=
 jf_kd h l0 6
 ((F_Scene_look l0 h).bind fun h1 =>
 jf_gi h1 l0 6 6 fun v2 =>
 some (v2, h1))
set_option maxRecDepth 100000 in
theorem F_Scene_rainNow_ok {d : Nat} (hd : 3 ≤ d) {l0 : Nat} {h : LH} {q : (Int32 × LH)} : F_Scene_rainNow l0 h = some q → jl_Sem jt_T jt_Ms d 66 [.ref l0] h (jo_i q) := by
 unfold F_Scene_rainNow
 exact jr_enter (D := 2) hd jM_66_at rfl rfl rfl (fun d hd =>
  jr_aloadn 0 1 rfl rfl rfl
  (jr_cVv 1 4 [] rfl rfl rfl rfl rfl rfl rfl rfl (as := []) (F_Scene_look_ok (Nat.le_trans (by decide : 2 ≤ 2) hd)) (fun h1 =>
  jr_aloadn 4 5 rfl rfl rfl
  (jr_gi 5 8 rfl jg_6_62_1 rfl (fun v2 =>
  jr_ri 8 rfl rfl)))))
noncomputable def jM_79 : JMeth := (6, false, 0, jk_79, [], 2)
set_option maxRecDepth 100000 in
theorem jM_79_at : jt_Ms 79 = some jM_79 := rfl
noncomputable def F_Scene_setRainDrawn (l0 : Nat) (l1 : Int32) (h : LH) : Option LH :=
 jf_pz h l0 6 3 l1 fun h1 =>
 jf_pz h1 l0 6 4 (0 : Int32) fun h2 =>
 some h2
set_option maxRecDepth 100000 in
theorem F_Scene_setRainDrawn_ok {d : Nat} (hd : 1 ≤ d) {l0 : Nat} {l1 : Int32} {h : LH} {q : LH} : F_Scene_setRainDrawn l0 l1 h = some q → jl_Sem jt_T jt_Ms d 79 [.ref l0, .int l1] h (jo_v q) := by
 unfold F_Scene_setRainDrawn
 exact jr_enter (D := 0) hd jM_79_at rfl rfl rfl (fun d hd =>
  jr_aloadn 0 1 rfl rfl rfl
  (jr_iloadn 1 2 rfl rfl rfl
  (jr_pz 2 5 rfl jg_6_43_4 rfl (fun h1 =>
  jr_aloadn 5 6 rfl rfl rfl
  (jr_iconst 6 7 (0 : Int32) rfl jc_i_0 rfl
  (jr_pz 7 10 rfl jg_6_47_4 rfl (fun h2 =>
  jr_rv 10 rfl rfl)))))))
noncomputable def jM_12 : JMeth := (1, false, 0, jk_12, [], 5)
set_option maxRecDepth 100000 in
theorem jM_12_at : jt_Ms 12 = some jM_12 := rfl
noncomputable def F_Days_run_b43 (k18 : Nat → Int32 → Int32 → Int32 → LH → Option LH) (l0 : Nat) (l2 : Int32) (l3 : Int32) (l4 : Int32) (s0 : Nat) (s1 : Int32) (h : LH) : Option LH :=
 jf_kd h s0 6
 ((F_Scene_setRainDrawn s0 s1 h).bind fun h1 =>
 jf_gi h1 l0 1 3 fun v2 =>
 jf_gr h1 l0 1 0 fun v3 =>
 jf_kd h1 v3 6
 (jf_bi (F_Scene_rainNow v3 h1) fun v4 h5 =>
 jf_pi h5 l0 1 3 (v2 + v4) fun h6 =>
 jf_kd h6 l0 1
 ((F_Days_layOnEmptyFires l0 h6).bind fun h7 =>
 jf_gr h7 l0 1 0 fun v8 =>
 jf_kd h7 v8 6
 ((F_Scene_pass v8 h7).bind fun h9 =>
 k18 l0 l2 l3 (l4 + (1 : Int32)) h9))))
set_option maxRecDepth 100000 in
theorem F_Days_run_b43_ok {d : Nat} {q : LH} {k18 : Nat → Int32 → Int32 → Int32 → LH → Option LH} (hd : 4 ≤ d) (hk18 : ∀ (l0 : Nat) (l2 : Int32) (l3 : Int32) (l4 : Int32) (u1 : Value) (h : LH), k18 l0 l2 l3 l4 h = some q → JR d jM_12 18 [.ref l0, u1, .int l2, .int l3, .int l4] [] h (jo_v q)) {l0 : Nat} {l2 : Int32} {l3 : Int32} {l4 : Int32} {s0 : Nat} {s1 : Int32} {u1 : Value} {h : LH} : F_Days_run_b43 k18 l0 l2 l3 l4 s0 s1 h = some q → JR d jM_12 43 [.ref l0, u1, .int l2, .int l3, .int l4] [.int s1, .ref s0] h (jo_v q) := by
 unfold F_Days_run_b43
 exact jr_cVv 43 46 [] rfl rfl rfl rfl rfl rfl rfl rfl (as := [.int s1]) (F_Scene_setRainDrawn_ok (Nat.le_trans (by decide : 1 ≤ 4) hd)) (fun h1 =>
  jr_aloadn 46 47 rfl rfl rfl
  (jr_dup 47 48 rfl rfl rfl
  (jr_gi 48 51 rfl jg_1_20_1 rfl (fun v2 =>
  jr_aloadn 51 52 rfl rfl rfl
  (jr_gr 52 55 rfl jg_1_7_2 rfl (fun v3 =>
  jr_cVi 55 58 [.int v2, .ref l0] rfl rfl rfl rfl rfl rfl rfl rfl (as := []) (F_Scene_rainNow_ok (Nat.le_trans (by decide : 3 ≤ 4) hd)) (fun v4 h5 =>
  jr_iadd 58 59 rfl rfl
  (jr_pi 59 62 rfl jg_1_20_3 rfl (fun h6 =>
  jr_aloadn 62 63 rfl rfl rfl
  (jr_cVv 63 66 [] rfl rfl rfl rfl rfl rfl rfl rfl (as := []) (F_Days_layOnEmptyFires_ok (Nat.le_trans (by decide : 3 ≤ 4) hd)) (fun h7 =>
  jr_aloadn 66 67 rfl rfl rfl
  (jr_gr 67 70 rfl jg_1_7_2 rfl (fun v8 =>
  jr_cVv 70 73 [] rfl rfl rfl rfl rfl rfl rfl rfl (as := []) (F_Scene_pass_ok (Nat.le_trans (by decide : 4 ≤ 4) hd)) (fun h9 =>
  jr_iinc 73 76 [.ref l0, u1, .int l2, .int l3, .int (l4 + (1 : Int32))] rfl jc_i_1 rfl rfl rfl rfl
  (jr_goto 76 18 rfl rfl
  ((hk18 _ _ _ _ _ _)))))))))))))))))
noncomputable def F_Days_run_c18 (k18 : Nat → Int32 → Int32 → Int32 → LH → Option LH) (l0 : Nat) (l2 : Int32) (l3 : Int32) (l4 : Int32) (h : LH) : Option LH :=
 if l4 < l3 then
 jf_gr h l0 1 0 fun v1 =>
 jf_kd h l0 1
 (jf_bi (F_Days_draw l0 (16 : Int32) h) fun v2 h3 =>
 if v2 < l2 then
 F_Days_run_b43 k18 l0 l2 l3 l4 v1 (1 : Int32) h3
else
 F_Days_run_b43 k18 l0 l2 l3 l4 v1 (0 : Int32) h3)
else
 some h
set_option maxRecDepth 100000 in
theorem F_Days_run_c18_ok {d : Nat} {q : LH} {k18 : Nat → Int32 → Int32 → Int32 → LH → Option LH} (hd : 4 ≤ d) (hk18 : ∀ (l0 : Nat) (l2 : Int32) (l3 : Int32) (l4 : Int32) (u1 : Value) (h : LH), k18 l0 l2 l3 l4 h = some q → JR d jM_12 18 [.ref l0, u1, .int l2, .int l3, .int l4] [] h (jo_v q)) {l0 : Nat} {l2 : Int32} {l3 : Int32} {l4 : Int32} {u1 : Value} {h : LH} : F_Days_run_c18 k18 l0 l2 l3 l4 h = some q → JR d jM_12 18 [.ref l0, u1, .int l2, .int l3, .int l4] [] h (jo_v q) := by
 unfold F_Days_run_c18
 exact jr_iload 18 20 rfl rfl rfl
  (jr_iloadn 20 21 rfl rfl rfl
  (jr_icmp_ge 21 79 24 rfl rfl rfl
  (jr_rv 79 rfl rfl)
  (jr_aloadn 24 25 rfl rfl rfl
  (jr_gr 25 28 rfl jg_1_7_2 rfl (fun v1 =>
  jr_aloadn 28 29 rfl rfl rfl
  (jr_bipush 29 31 (16 : Int32) rfl jc_b_16 rfl
  (jr_cVi 31 34 [.ref v1] rfl rfl rfl rfl rfl rfl rfl rfl (as := [.int (16 : Int32)]) (F_Days_draw_ok (Nat.le_trans (by decide : 1 ≤ 4) hd)) (fun v2 h3 =>
  jr_iloadn 34 35 rfl rfl rfl
  (jr_icmp_ge 35 42 38 rfl rfl rfl
  (jr_iconst 42 43 (0 : Int32) rfl jc_i_0 rfl
  ((F_Days_run_b43_ok hd hk18)))
  (jr_iconst 38 39 (1 : Int32) rfl jc_i_1 rfl
  (jr_goto 39 43 rfl rfl
  ((F_Days_run_b43_ok hd hk18)))))))))))))
noncomputable def F_Days_run_l18 : Nat → Nat → Int32 → Int32 → Int32 → LH → Option LH
 | 0, _, _, _, _, _ => none
 | n + 1, l0, l2, l3, l4, h => F_Days_run_c18 (F_Days_run_l18 n) l0 l2 l3 l4 h
theorem F_Days_run_l18_ok {d : Nat} {q : LH} (hd : 4 ≤ d) : ∀ (n : Nat) (l0 : Nat) (l2 : Int32) (l3 : Int32) (l4 : Int32) (u1 : Value) (h : LH), F_Days_run_l18 n l0 l2 l3 l4 h = some q → JR d jM_12 18 [.ref l0, u1, .int l2, .int l3, .int l4] [] h (jo_v q)
 | 0 => fun _ _ _ _ _ _ hq => nomatch (show (none : Option LH) = some q from hq)
 | n + 1 => fun _ _ _ _ _ _ hq => F_Days_run_c18_ok hd (F_Days_run_l18_ok hd n) hq
noncomputable def F_Days_run (l0 : Nat) (l1 : Int32) (l2 : Int32) (l3 : Int32) (h : LH) : Option LH :=
 jf_pi h l0 1 1 l1 fun h1 =>
 jf_pi h1 l0 1 2 (0 : Int32) fun h2 =>
 jf_pi h2 l0 1 3 (0 : Int32) fun h3 =>
 F_Days_run_l18  jF l0 l2 l3 (0 : Int32) h3
set_option maxRecDepth 100000 in
theorem F_Days_run_ok {d : Nat} (hd : 5 ≤ d) {l0 : Nat} {l1 : Int32} {l2 : Int32} {l3 : Int32} {h : LH} {q : LH} : F_Days_run l0 l1 l2 l3 h = some q → jl_Sem jt_T jt_Ms d 12 [.ref l0, .int l1, .int l2, .int l3] h (jo_v q) := by
 unfold F_Days_run
 exact jr_enter (D := 4) hd jM_12_at rfl rfl rfl (fun d hd =>
  jr_aloadn 0 1 rfl rfl rfl
  (jr_iloadn 1 2 rfl rfl rfl
  (jr_pi 2 5 rfl jg_1_13_3 rfl (fun h1 =>
  jr_aloadn 5 6 rfl rfl rfl
  (jr_iconst 6 7 (0 : Int32) rfl jc_i_0 rfl
  (jr_pi 7 10 rfl jg_1_17_3 rfl (fun h2 =>
  jr_aloadn 10 11 rfl rfl rfl
  (jr_iconst 11 12 (0 : Int32) rfl jc_i_0 rfl
  (jr_pi 12 15 rfl jg_1_20_3 rfl (fun h3 =>
  jr_iconst 15 16 (0 : Int32) rfl jc_i_0 rfl
  (jr_istore 16 18 [.ref l0, .int l1, .int l2, .int l3, .int (0 : Int32)] rfl rfl rfl rfl
  ((F_Days_run_l18_ok hd  jF _ _ _ _ _ _)))))))))))))
noncomputable def jM_15 : JMeth := (2, true, 0, jk_15, [], 1)
set_option maxRecDepth 100000 in
theorem jM_15_at : jt_Ms 15 = some jM_15 := rfl
noncomputable def F_Hist_init (l0 : Nat) (h : LH) : Option LH :=
 jf_mn h (16 : Int32) (134 : Int32) fun v1 h2 =>
 jf_pr h2 l0 2 0 v1 fun h3 =>
 some h3
set_option maxRecDepth 100000 in
theorem F_Hist_init_ok {d : Nat} (hd : 1 ≤ d) {l0 : Nat} {h : LH} {q : LH} : F_Hist_init l0 h = some q → jl_Sem jt_T jt_Ms d 15 [.ref l0] h (jo_v q) := by
 unfold F_Hist_init
 exact jr_enter (D := 0) hd jM_15_at rfl rfl rfl (fun d hd =>
  jr_aloadn 0 1 rfl rfl rfl
  (jr_oi 1 4 rfl rfl rfl rfl
  (jr_aloadn 4 5 rfl rfl rfl
  (jr_bipush 5 7 (16 : Int32) rfl jc_b_16 rfl
  (jr_sipush 7 10 (134 : Int32) rfl jc_s_134 rfl
  (jr_mn 10 14 rfl rfl rfl rfl (fun v1 h2 =>
  jr_prF 14 17 rfl rfl jg_2_13_6 rfl (fun h3 =>
  jr_rv 17 rfl rfl))))))))
noncomputable def jM_45 : JMeth := (6, false, 0, jk_45, [], 2)
set_option maxRecDepth 100000 in
theorem jM_45_at : jt_Ms 45 = some jM_45 := rfl
noncomputable def F_Scene_loadFrom (l0 : Nat) (l1 : Nat) (h : LH) : Option LH :=
 jf_gr h l0 6 0 fun v1 =>
 jf_ac h l1 (0 : Int32) v1 (0 : Int32) (134 : Int32) fun h2 =>
 jf_pz h2 l0 6 3 (0 : Int32) fun h3 =>
 jf_pz h3 l0 6 4 (0 : Int32) fun h4 =>
 some h4
set_option maxRecDepth 100000 in
theorem F_Scene_loadFrom_ok {d : Nat} (hd : 1 ≤ d) {l0 : Nat} {l1 : Nat} {h : LH} {q : LH} : F_Scene_loadFrom l0 l1 h = some q → jl_Sem jt_T jt_Ms d 45 [.ref l0, .ref l1] h (jo_v q) := by
 unfold F_Scene_loadFrom
 exact jr_enter (D := 0) hd jM_45_at rfl rfl rfl (fun d hd =>
  jr_aloadn 0 1 rfl rfl rfl
  (jr_iconst 1 2 (0 : Int32) rfl jc_i_0 rfl
  (jr_aloadn 2 3 rfl rfl rfl
  (jr_gr 3 6 rfl jg_6_11_2 rfl (fun v1 =>
  jr_iconst 6 7 (0 : Int32) rfl jc_i_0 rfl
  (jr_sipush 7 10 (134 : Int32) rfl jc_s_134 rfl
  (jr_ac 10 13 rfl rfl rfl rfl (fun h2 =>
  jr_aloadn 13 14 rfl rfl rfl
  (jr_iconst 14 15 (0 : Int32) rfl jc_i_0 rfl
  (jr_pz 15 18 rfl jg_6_43_4 rfl (fun h3 =>
  jr_aloadn 18 19 rfl rfl rfl
  (jr_iconst 19 20 (0 : Int32) rfl jc_i_0 rfl
  (jr_pz 20 23 rfl jg_6_47_4 rfl (fun h4 =>
  jr_rv 23 rfl rfl))))))))))))))
noncomputable def jM_16 : JMeth := (2, false, 0, jk_16, [], 2)
set_option maxRecDepth 100000 in
theorem jM_16_at : jt_Ms 16 = some jM_16 := rfl
noncomputable def F_Hist_pop_b30 (h : LH) : Option LH :=
 some h
set_option maxRecDepth 100000 in
theorem F_Hist_pop_b30_ok {d : Nat} {q : LH} (hd : 1 ≤ d) {u0 : Value} {u1 : Value} {h : LH} : F_Hist_pop_b30 h = some q → JR d jM_16 30 [u0, u1] [] h (jo_v q) := by
 unfold F_Hist_pop_b30
 exact jr_rv 30 rfl rfl
noncomputable def F_Hist_pop (l0 : Nat) (l1 : Nat) (h : LH) : Option LH :=
 jf_gi h l0 2 1 fun v1 =>
 if 0 < v1 then
 jf_gi h l0 2 1 fun v2 =>
 jf_pi h l0 2 1 (v2 - (1 : Int32)) fun h3 =>
 jf_gr h3 l0 2 0 fun v4 =>
 jf_gi h3 l0 2 1 fun v5 =>
 jf_aa h3 v4 v5 fun v6 =>
 jf_kd h3 l1 6
 ((F_Scene_loadFrom l1 v6 h3).bind fun h7 =>
 F_Hist_pop_b30  h7)
else
 F_Hist_pop_b30  h
set_option maxRecDepth 100000 in
theorem F_Hist_pop_ok {d : Nat} (hd : 2 ≤ d) {l0 : Nat} {l1 : Nat} {h : LH} {q : LH} : F_Hist_pop l0 l1 h = some q → jl_Sem jt_T jt_Ms d 16 [.ref l0, .ref l1] h (jo_v q) := by
 unfold F_Hist_pop
 exact jr_enter (D := 1) hd jM_16_at rfl rfl rfl (fun d hd =>
  jr_aloadn 0 1 rfl rfl rfl
  (jr_gi 1 4 rfl jg_2_18_1 rfl (fun v1 =>
  jr_if_le 4 30 7 rfl rfl rfl
  ((F_Hist_pop_b30_ok hd ))
  (jr_aloadn 7 8 rfl rfl rfl
  (jr_dup 8 9 rfl rfl rfl
  (jr_gi 9 12 rfl jg_2_18_1 rfl (fun v2 =>
  jr_iconst 12 13 (1 : Int32) rfl jc_i_1 rfl
  (jr_isub 13 14 rfl rfl
  (jr_pi 14 17 rfl jg_2_18_3 rfl (fun h3 =>
  jr_aloadn 17 18 rfl rfl rfl
  (jr_aloadn 18 19 rfl rfl rfl
  (jr_gr 19 22 rfl jg_2_13_2 rfl (fun v4 =>
  jr_aloadn 22 23 rfl rfl rfl
  (jr_gi 23 26 rfl jg_2_18_1 rfl (fun v5 =>
  jr_aa 26 27 rfl rfl (fun v6 =>
  jr_cVv 27 30 [] rfl rfl rfl rfl rfl rfl rfl rfl (as := [.ref v6]) (F_Scene_loadFrom_ok (Nat.le_trans (by decide : 1 ≤ 1) hd)) (fun h7 =>
  (F_Hist_pop_b30_ok hd ))))))))))))))))))
noncomputable def jM_17 : JMeth := (2, false, 0, jk_17, [], 3)
set_option maxRecDepth 100000 in
theorem jM_17_at : jt_Ms 17 = some jM_17 := rfl
noncomputable def F_Hist_copyFrom_c10 (k10 : Nat → Nat → Int32 → LH → Option LH) (l0 : Nat) (l1 : Nat) (l2 : Int32) (h : LH) : Option LH :=
 jf_gi h l0 2 1 fun v1 =>
 if l2 < v1 then
 jf_gr h l1 2 0 fun v2 =>
 jf_aa h v2 l2 fun v3 =>
 jf_gr h l0 2 0 fun v4 =>
 jf_aa h v4 l2 fun v5 =>
 jf_ac h v3 (0 : Int32) v5 (0 : Int32) (134 : Int32) fun h6 =>
 k10 l0 l1 (l2 + (1 : Int32)) h6
else
 some h
set_option maxRecDepth 100000 in
theorem F_Hist_copyFrom_c10_ok {d : Nat} {q : LH} {k10 : Nat → Nat → Int32 → LH → Option LH} (hd : 0 ≤ d) (hk10 : ∀ (l0 : Nat) (l1 : Nat) (l2 : Int32) (h : LH), k10 l0 l1 l2 h = some q → JR d jM_17 10 [.ref l0, .ref l1, .int l2] [] h (jo_v q)) {l0 : Nat} {l1 : Nat} {l2 : Int32} {h : LH} : F_Hist_copyFrom_c10 k10 l0 l1 l2 h = some q → JR d jM_17 10 [.ref l0, .ref l1, .int l2] [] h (jo_v q) := by
 unfold F_Hist_copyFrom_c10
 exact jr_iloadn 10 11 rfl rfl rfl
  (jr_aloadn 11 12 rfl rfl rfl
  (jr_gi 12 15 rfl jg_2_18_1 rfl (fun v1 =>
  jr_icmp_ge 15 44 18 rfl rfl rfl
  (jr_rv 44 rfl rfl)
  (jr_aloadn 18 19 rfl rfl rfl
  (jr_gr 19 22 rfl jg_2_13_2 rfl (fun v2 =>
  jr_iloadn 22 23 rfl rfl rfl
  (jr_aa 23 24 rfl rfl (fun v3 =>
  jr_iconst 24 25 (0 : Int32) rfl jc_i_0 rfl
  (jr_aloadn 25 26 rfl rfl rfl
  (jr_gr 26 29 rfl jg_2_13_2 rfl (fun v4 =>
  jr_iloadn 29 30 rfl rfl rfl
  (jr_aa 30 31 rfl rfl (fun v5 =>
  jr_iconst 31 32 (0 : Int32) rfl jc_i_0 rfl
  (jr_sipush 32 35 (134 : Int32) rfl jc_s_134 rfl
  (jr_ac 35 38 rfl rfl rfl rfl (fun h6 =>
  jr_iinc 38 41 [.ref l0, .ref l1, .int (l2 + (1 : Int32))] rfl jc_i_1 rfl rfl rfl rfl
  (jr_goto 41 10 rfl rfl
  ((hk10 _ _ _ _)))))))))))))))))))
noncomputable def F_Hist_copyFrom_l10 : Nat → Nat → Nat → Int32 → LH → Option LH
 | 0, _, _, _, _ => none
 | n + 1, l0, l1, l2, h => F_Hist_copyFrom_c10 (F_Hist_copyFrom_l10 n) l0 l1 l2 h
theorem F_Hist_copyFrom_l10_ok {d : Nat} {q : LH} (hd : 0 ≤ d) : ∀ (n : Nat) (l0 : Nat) (l1 : Nat) (l2 : Int32) (h : LH), F_Hist_copyFrom_l10 n l0 l1 l2 h = some q → JR d jM_17 10 [.ref l0, .ref l1, .int l2] [] h (jo_v q)
 | 0 => fun _ _ _ _ hq => nomatch (show (none : Option LH) = some q from hq)
 | n + 1 => fun _ _ _ _ hq => F_Hist_copyFrom_c10_ok hd (F_Hist_copyFrom_l10_ok hd n) hq
noncomputable def F_Hist_copyFrom (l0 : Nat) (l1 : Nat) (h : LH) : Option LH :=
 jf_gi h l1 2 1 fun v1 =>
 jf_pi h l0 2 1 v1 fun h2 =>
 F_Hist_copyFrom_l10  jF l0 l1 (0 : Int32) h2
set_option maxRecDepth 100000 in
theorem F_Hist_copyFrom_ok {d : Nat} (hd : 1 ≤ d) {l0 : Nat} {l1 : Nat} {h : LH} {q : LH} : F_Hist_copyFrom l0 l1 h = some q → jl_Sem jt_T jt_Ms d 17 [.ref l0, .ref l1] h (jo_v q) := by
 unfold F_Hist_copyFrom
 exact jr_enter (D := 0) hd jM_17_at rfl rfl rfl (fun d hd =>
  jr_aloadn 0 1 rfl rfl rfl
  (jr_aloadn 1 2 rfl rfl rfl
  (jr_gi 2 5 rfl jg_2_18_1 rfl (fun v1 =>
  jr_pi 5 8 rfl jg_2_18_3 rfl (fun h2 =>
  jr_iconst 8 9 (0 : Int32) rfl jc_i_0 rfl
  (jr_istoren 9 10 [.ref l0, .ref l1, .int (0 : Int32)] rfl rfl rfl rfl
  ((F_Hist_copyFrom_l10_ok hd  jF _ _ _ _))))))))
noncomputable def jM_49 : JMeth := (6, false, 0, jk_49, [], 2)
set_option maxRecDepth 100000 in
theorem jM_49_at : jt_Ms 49 = some jM_49 := rfl
noncomputable def F_Scene_saveTo (l0 : Nat) (l1 : Nat) (h : LH) : Option LH :=
 jf_gr h l0 6 0 fun v1 =>
 jf_ac h v1 (0 : Int32) l1 (0 : Int32) (134 : Int32) fun h2 =>
 some h2
set_option maxRecDepth 100000 in
theorem F_Scene_saveTo_ok {d : Nat} (hd : 1 ≤ d) {l0 : Nat} {l1 : Nat} {h : LH} {q : LH} : F_Scene_saveTo l0 l1 h = some q → jl_Sem jt_T jt_Ms d 49 [.ref l0, .ref l1] h (jo_v q) := by
 unfold F_Scene_saveTo
 exact jr_enter (D := 0) hd jM_49_at rfl rfl rfl (fun d hd =>
  jr_aloadn 0 1 rfl rfl rfl
  (jr_gr 1 4 rfl jg_6_11_2 rfl (fun v1 =>
  jr_iconst 4 5 (0 : Int32) rfl jc_i_0 rfl
  (jr_aloadn 5 6 rfl rfl rfl
  (jr_iconst 6 7 (0 : Int32) rfl jc_i_0 rfl
  (jr_sipush 7 10 (134 : Int32) rfl jc_s_134 rfl
  (jr_ac 10 13 rfl rfl rfl rfl (fun h2 =>
  jr_rv 13 rfl rfl))))))))
noncomputable def jM_18 : JMeth := (2, false, 0, jk_18, [], 2)
set_option maxRecDepth 100000 in
theorem jM_18_at : jt_Ms 18 = some jM_18 := rfl
noncomputable def F_Hist_push_b32 (h : LH) : Option LH :=
 some h
set_option maxRecDepth 100000 in
theorem F_Hist_push_b32_ok {d : Nat} {q : LH} (hd : 1 ≤ d) {u0 : Value} {u1 : Value} {h : LH} : F_Hist_push_b32 h = some q → JR d jM_18 32 [u0, u1] [] h (jo_v q) := by
 unfold F_Hist_push_b32
 exact jr_rv 32 rfl rfl
noncomputable def F_Hist_push (l0 : Nat) (l1 : Nat) (h : LH) : Option LH :=
 jf_gi h l0 2 1 fun v1 =>
 if v1 < (16 : Int32) then
 jf_gr h l0 2 0 fun v2 =>
 jf_gi h l0 2 1 fun v3 =>
 jf_aa h v2 v3 fun v4 =>
 jf_kd h l1 6
 ((F_Scene_saveTo l1 v4 h).bind fun h5 =>
 jf_gi h5 l0 2 1 fun v6 =>
 jf_pi h5 l0 2 1 (v6 + (1 : Int32)) fun h7 =>
 F_Hist_push_b32  h7)
else
 F_Hist_push_b32  h
set_option maxRecDepth 100000 in
theorem F_Hist_push_ok {d : Nat} (hd : 2 ≤ d) {l0 : Nat} {l1 : Nat} {h : LH} {q : LH} : F_Hist_push l0 l1 h = some q → jl_Sem jt_T jt_Ms d 18 [.ref l0, .ref l1] h (jo_v q) := by
 unfold F_Hist_push
 exact jr_enter (D := 1) hd jM_18_at rfl rfl rfl (fun d hd =>
  jr_aloadn 0 1 rfl rfl rfl
  (jr_gi 1 4 rfl jg_2_18_1 rfl (fun v1 =>
  jr_bipush 4 6 (16 : Int32) rfl jc_b_16 rfl
  (jr_icmp_ge 6 32 9 rfl rfl rfl
  ((F_Hist_push_b32_ok hd ))
  (jr_aloadn 9 10 rfl rfl rfl
  (jr_aloadn 10 11 rfl rfl rfl
  (jr_gr 11 14 rfl jg_2_13_2 rfl (fun v2 =>
  jr_aloadn 14 15 rfl rfl rfl
  (jr_gi 15 18 rfl jg_2_18_1 rfl (fun v3 =>
  jr_aa 18 19 rfl rfl (fun v4 =>
  jr_cVv 19 22 [] rfl rfl rfl rfl rfl rfl rfl rfl (as := [.ref v4]) (F_Scene_saveTo_ok (Nat.le_trans (by decide : 1 ≤ 1) hd)) (fun h5 =>
  jr_aloadn 22 23 rfl rfl rfl
  (jr_dup 23 24 rfl rfl rfl
  (jr_gi 24 27 rfl jg_2_18_1 rfl (fun v6 =>
  jr_iconst 27 28 (1 : Int32) rfl jc_i_1 rfl
  (jr_iadd 28 29 rfl rfl
  (jr_pi 29 32 rfl jg_2_18_3 rfl (fun h7 =>
  (F_Hist_push_b32_ok hd )))))))))))))))))))
noncomputable def jM_19 : JMeth := (3, true, 0, jk_19, [], 2)
set_option maxRecDepth 100000 in
theorem jM_19_at : jt_Ms 19 = some jM_19 := rfl
noncomputable def F_Keep_init (l0 : Nat) (l1 : Nat) (h : LH) : Option LH :=
 jf_mn h (5 : Int32) (134 : Int32) fun v1 h2 =>
 jf_pr h2 l0 3 1 v1 fun h3 =>
 jf_pr h3 l0 3 0 l1 fun h4 =>
 some h4
set_option maxRecDepth 100000 in
theorem F_Keep_init_ok {d : Nat} (hd : 1 ≤ d) {l0 : Nat} {l1 : Nat} {h : LH} {q : LH} : F_Keep_init l0 l1 h = some q → jl_Sem jt_T jt_Ms d 19 [.ref l0, .ref l1] h (jo_v q) := by
 unfold F_Keep_init
 exact jr_enter (D := 0) hd jM_19_at rfl rfl rfl (fun d hd =>
  jr_aloadn 0 1 rfl rfl rfl
  (jr_oi 1 4 rfl rfl rfl rfl
  (jr_aloadn 4 5 rfl rfl rfl
  (jr_iconst 5 6 (5 : Int32) rfl jc_i_5 rfl
  (jr_sipush 6 9 (134 : Int32) rfl jc_s_134 rfl
  (jr_mn 9 13 rfl rfl rfl rfl (fun v1 h2 =>
  jr_prF 13 16 rfl rfl jg_3_13_6 rfl (fun h3 =>
  jr_aloadn 16 17 rfl rfl rfl
  (jr_aloadn 17 18 rfl rfl rfl
  (jr_prF 18 21 rfl rfl jg_3_18_6 rfl (fun h4 =>
  jr_rv 21 rfl rfl)))))))))))
noncomputable def jM_21 : JMeth := (3, false, 0, jk_21, [], 5)
set_option maxRecDepth 100000 in
theorem jM_21_at : jt_Ms 21 = some jM_21 := rfl
noncomputable def F_Keep_tryFrom_b172 (R : Nat → Int32 → Int32 → Int32 → LH → Option LH) (h : LH) : Option LH :=
 some h
set_option maxRecDepth 100000 in
theorem F_Keep_tryFrom_b172_ok {d : Nat} {rd : Nat} {R : Nat → Int32 → Int32 → Int32 → LH → Option LH} {q : LH} (hd : 4 + rd ≤ d) (hRR : ∀ d : Nat, rd ≤ d → ∀ (r0 : Nat) (r1 : Int32) (r2 : Int32) (r3 : Int32) (hh : LH) (qq : LH), R r0 r1 r2 r3 hh = some qq → jl_Sem jt_T jt_Ms d 21 [.ref r0, .int r1, .int r2, .int r3] hh (jo_v qq)) (hR : ∀ (r0 : Nat) (r1 : Int32) (r2 : Int32) (r3 : Int32) (hh : LH) (qq : LH), R r0 r1 r2 r3 hh = some qq → jl_Sem jt_T jt_Ms d 21 [.ref r0, .int r1, .int r2, .int r3] hh (jo_v qq)) {u0 : Value} {u1 : Value} {u2 : Value} {u3 : Value} {u4 : Value} {h : LH} : F_Keep_tryFrom_b172 R h = some q → JR d jM_21 172 [u0, u1, u2, u3, u4] [] h (jo_v q) := by
 unfold F_Keep_tryFrom_b172
 exact jr_rv 172 rfl rfl
noncomputable def F_Keep_tryFrom_b166 (R : Nat → Int32 → Int32 → Int32 → LH → Option LH) (k35 : Nat → Int32 → Int32 → Int32 → Int32 → LH → Option LH) (l0 : Nat) (l1 : Int32) (l2 : Int32) (l3 : Int32) (l4 : Int32) (h : LH) : Option LH :=
 k35 l0 l1 l2 l3 (l4 + (1 : Int32)) h
set_option maxRecDepth 100000 in
theorem F_Keep_tryFrom_b166_ok {d : Nat} {rd : Nat} {R : Nat → Int32 → Int32 → Int32 → LH → Option LH} {q : LH} {k35 : Nat → Int32 → Int32 → Int32 → Int32 → LH → Option LH} (hd : 4 + rd ≤ d) (hRR : ∀ d : Nat, rd ≤ d → ∀ (r0 : Nat) (r1 : Int32) (r2 : Int32) (r3 : Int32) (hh : LH) (qq : LH), R r0 r1 r2 r3 hh = some qq → jl_Sem jt_T jt_Ms d 21 [.ref r0, .int r1, .int r2, .int r3] hh (jo_v qq)) (hR : ∀ (r0 : Nat) (r1 : Int32) (r2 : Int32) (r3 : Int32) (hh : LH) (qq : LH), R r0 r1 r2 r3 hh = some qq → jl_Sem jt_T jt_Ms d 21 [.ref r0, .int r1, .int r2, .int r3] hh (jo_v qq)) (hk35 : ∀ (l0 : Nat) (l1 : Int32) (l2 : Int32) (l3 : Int32) (l4 : Int32) (h : LH), k35 l0 l1 l2 l3 l4 h = some q → JR d jM_21 35 [.ref l0, .int l1, .int l2, .int l3, .int l4] [] h (jo_v q)) {l0 : Nat} {l1 : Int32} {l2 : Int32} {l3 : Int32} {l4 : Int32} {h : LH} : F_Keep_tryFrom_b166 R k35 l0 l1 l2 l3 l4 h = some q → JR d jM_21 166 [.ref l0, .int l1, .int l2, .int l3, .int l4] [] h (jo_v q) := by
 unfold F_Keep_tryFrom_b166
 exact jr_iinc 166 169 [.ref l0, .int l1, .int l2, .int l3, .int (l4 + (1 : Int32))] rfl jc_i_1 rfl rfl rfl rfl
  (jr_goto 169 35 rfl rfl
  ((hk35 _ _ _ _ _ _)))
noncomputable def F_Keep_tryFrom_b138 (R : Nat → Int32 → Int32 → Int32 → LH → Option LH) (k35 : Nat → Int32 → Int32 → Int32 → Int32 → LH → Option LH) (l0 : Nat) (l1 : Int32) (l2 : Int32) (l3 : Int32) (l4 : Int32) (s0 : Int32) (s1 : Int32) (h : LH) : Option LH :=
 if s0 = s1 then
 jf_gr h l0 3 0 fun v1 =>
 jf_kd h v1 6
 ((F_Scene_pass v1 h).bind fun h2 =>
 jf_kd h2 l0 3
 ((R l0 (l1 + (1 : Int32)) (l2 + l4) (((10 : Int32) * l3) + l4) h2).bind fun h3 =>
 F_Keep_tryFrom_b166 R k35 l0 l1 l2 l3 l4 h3))
else
 F_Keep_tryFrom_b166 R k35 l0 l1 l2 l3 l4 h
set_option maxRecDepth 100000 in
theorem F_Keep_tryFrom_b138_ok {d : Nat} {rd : Nat} {R : Nat → Int32 → Int32 → Int32 → LH → Option LH} {q : LH} {k35 : Nat → Int32 → Int32 → Int32 → Int32 → LH → Option LH} (hd : 4 + rd ≤ d) (hRR : ∀ d : Nat, rd ≤ d → ∀ (r0 : Nat) (r1 : Int32) (r2 : Int32) (r3 : Int32) (hh : LH) (qq : LH), R r0 r1 r2 r3 hh = some qq → jl_Sem jt_T jt_Ms d 21 [.ref r0, .int r1, .int r2, .int r3] hh (jo_v qq)) (hR : ∀ (r0 : Nat) (r1 : Int32) (r2 : Int32) (r3 : Int32) (hh : LH) (qq : LH), R r0 r1 r2 r3 hh = some qq → jl_Sem jt_T jt_Ms d 21 [.ref r0, .int r1, .int r2, .int r3] hh (jo_v qq)) (hk35 : ∀ (l0 : Nat) (l1 : Int32) (l2 : Int32) (l3 : Int32) (l4 : Int32) (h : LH), k35 l0 l1 l2 l3 l4 h = some q → JR d jM_21 35 [.ref l0, .int l1, .int l2, .int l3, .int l4] [] h (jo_v q)) {l0 : Nat} {l1 : Int32} {l2 : Int32} {l3 : Int32} {l4 : Int32} {s0 : Int32} {s1 : Int32} {h : LH} : F_Keep_tryFrom_b138 R k35 l0 l1 l2 l3 l4 s0 s1 h = some q → JR d jM_21 138 [.ref l0, .int l1, .int l2, .int l3, .int l4] [.int s1, .int s0] h (jo_v q) := by
 unfold F_Keep_tryFrom_b138
 exact jr_icmp_ne 138 166 141 rfl rfl rfl
  ((F_Keep_tryFrom_b166_ok hd hRR hR hk35))
  (jr_aloadn 141 142 rfl rfl rfl
  (jr_gr 142 145 rfl jg_3_18_2 rfl (fun v1 =>
  jr_cVv 145 148 [] rfl rfl rfl rfl rfl rfl rfl rfl (as := []) (F_Scene_pass_ok (Nat.le_trans (by decide : 4 ≤ 4) (Nat.le_trans (Nat.le_add_right _ rd) hd))) (fun h2 =>
  jr_aloadn 148 149 rfl rfl rfl
  (jr_iloadn 149 150 rfl rfl rfl
  (jr_iconst 150 151 (1 : Int32) rfl jc_i_1 rfl
  (jr_iadd 151 152 rfl rfl
  (jr_iloadn 152 153 rfl rfl rfl
  (jr_iload 153 155 rfl rfl rfl
  (jr_iadd 155 156 rfl rfl
  (jr_bipush 156 158 (10 : Int32) rfl jc_b_10 rfl
  (jr_iloadn 158 159 rfl rfl rfl
  (jr_imul 159 160 rfl rfl
  (jr_iload 160 162 rfl rfl rfl
  (jr_iadd 162 163 rfl rfl
  (jr_cVv 163 166 [] rfl rfl rfl rfl rfl rfl rfl rfl (as := [.int (l1 + (1 : Int32)), .int (l2 + l4), .int (((10 : Int32) * l3) + l4)]) (fun hq => hR _ _ _ _ _ _ hq) (fun h3 =>
  (F_Keep_tryFrom_b166_ok hd hRR hR hk35))))))))))))))))))
noncomputable def F_Keep_tryFrom_b97 (R : Nat → Int32 → Int32 → Int32 → LH → Option LH) (k35 : Nat → Int32 → Int32 → Int32 → Int32 → LH → Option LH) (l0 : Nat) (l1 : Int32) (l2 : Int32) (l3 : Int32) (l4 : Int32) (h : LH) : Option LH :=
 jf_gr h l0 3 0 fun v1 =>
 jf_gr h l0 3 1 fun v2 =>
 jf_aa h v2 l1 fun v3 =>
 jf_kd h v1 6
 ((F_Scene_saveTo v1 v3 h).bind fun h4 =>
 jf_gr h4 l0 3 0 fun v5 =>
 jf_gi h4 l0 3 2 fun v6 =>
 jf_kd h4 v5 6
 (jf_bi (F_Scene_isShut v5 v6 h4) fun v7 h8 =>
 jf_gi h8 l0 3 5 fun v9 =>
 if ((v9 >>> (l1 &&& 31)) &&& (1 : Int32)) = (1 : Int32) then
 F_Keep_tryFrom_b138 R k35 l0 l1 l2 l3 l4 v7 (1 : Int32) h8
else
 F_Keep_tryFrom_b138 R k35 l0 l1 l2 l3 l4 v7 (0 : Int32) h8))
set_option maxRecDepth 100000 in
theorem F_Keep_tryFrom_b97_ok {d : Nat} {rd : Nat} {R : Nat → Int32 → Int32 → Int32 → LH → Option LH} {q : LH} {k35 : Nat → Int32 → Int32 → Int32 → Int32 → LH → Option LH} (hd : 4 + rd ≤ d) (hRR : ∀ d : Nat, rd ≤ d → ∀ (r0 : Nat) (r1 : Int32) (r2 : Int32) (r3 : Int32) (hh : LH) (qq : LH), R r0 r1 r2 r3 hh = some qq → jl_Sem jt_T jt_Ms d 21 [.ref r0, .int r1, .int r2, .int r3] hh (jo_v qq)) (hR : ∀ (r0 : Nat) (r1 : Int32) (r2 : Int32) (r3 : Int32) (hh : LH) (qq : LH), R r0 r1 r2 r3 hh = some qq → jl_Sem jt_T jt_Ms d 21 [.ref r0, .int r1, .int r2, .int r3] hh (jo_v qq)) (hk35 : ∀ (l0 : Nat) (l1 : Int32) (l2 : Int32) (l3 : Int32) (l4 : Int32) (h : LH), k35 l0 l1 l2 l3 l4 h = some q → JR d jM_21 35 [.ref l0, .int l1, .int l2, .int l3, .int l4] [] h (jo_v q)) {l0 : Nat} {l1 : Int32} {l2 : Int32} {l3 : Int32} {l4 : Int32} {h : LH} : F_Keep_tryFrom_b97 R k35 l0 l1 l2 l3 l4 h = some q → JR d jM_21 97 [.ref l0, .int l1, .int l2, .int l3, .int l4] [] h (jo_v q) := by
 unfold F_Keep_tryFrom_b97
 exact jr_aloadn 97 98 rfl rfl rfl
  (jr_gr 98 101 rfl jg_3_18_2 rfl (fun v1 =>
  jr_aloadn 101 102 rfl rfl rfl
  (jr_gr 102 105 rfl jg_3_13_2 rfl (fun v2 =>
  jr_iloadn 105 106 rfl rfl rfl
  (jr_aa 106 107 rfl rfl (fun v3 =>
  jr_cVv 107 110 [] rfl rfl rfl rfl rfl rfl rfl rfl (as := [.ref v3]) (F_Scene_saveTo_ok (Nat.le_trans (by decide : 1 ≤ 4) (Nat.le_trans (Nat.le_add_right _ rd) hd))) (fun h4 =>
  jr_aloadn 110 111 rfl rfl rfl
  (jr_gr 111 114 rfl jg_3_18_2 rfl (fun v5 =>
  jr_aloadn 114 115 rfl rfl rfl
  (jr_gi 115 118 rfl jg_3_22_1 rfl (fun v6 =>
  jr_cVi 118 121 [] rfl rfl rfl rfl rfl rfl rfl rfl (as := [.int v6]) (F_Scene_isShut_ok (Nat.le_trans (by decide : 3 ≤ 4) (Nat.le_trans (Nat.le_add_right _ rd) hd))) (fun v7 h8 =>
  jr_aloadn 121 122 rfl rfl rfl
  (jr_gi 122 125 rfl jg_3_38_1 rfl (fun v9 =>
  jr_iloadn 125 126 rfl rfl rfl
  (jr_ishr 126 127 rfl rfl
  (jr_iconst 127 128 (1 : Int32) rfl jc_i_1 rfl
  (jr_iand 128 129 rfl rfl
  (jr_iconst 129 130 (1 : Int32) rfl jc_i_1 rfl
  (jr_icmp_ne 130 137 133 rfl rfl rfl
  (jr_iconst 137 138 (0 : Int32) rfl jc_i_0 rfl
  ((F_Keep_tryFrom_b138_ok hd hRR hR hk35)))
  (jr_iconst 133 134 (1 : Int32) rfl jc_i_1 rfl
  (jr_goto 134 138 rfl rfl
  ((F_Keep_tryFrom_b138_ok hd hRR hR hk35)))))))))))))))))))))))
noncomputable def F_Keep_tryFrom_b60 (R : Nat → Int32 → Int32 → Int32 → LH → Option LH) (k35 : Nat → Int32 → Int32 → Int32 → Int32 → LH → Option LH) (l0 : Nat) (l1 : Int32) (l2 : Int32) (l3 : Int32) (l4 : Int32) (h : LH) : Option LH :=
 jf_gr h l0 3 0 fun v1 =>
 jf_gr h l0 3 1 fun v2 =>
 jf_aa h v2 l1 fun v3 =>
 jf_kd h v1 6
 ((F_Scene_loadFrom v1 v3 h).bind fun h4 =>
 if 0 < l4 then
 jf_gr h4 l0 3 0 fun v5 =>
 jf_gi h4 l0 3 2 fun v6 =>
 jf_gi h4 l0 3 3 fun v7 =>
 jf_kd h4 v5 6
 (jf_bi (F_Scene_lay v5 v6 v7 h4) fun v8 h9 =>
 if v8 = 0 then
 some h9
else
 F_Keep_tryFrom_b97 R k35 l0 l1 l2 l3 l4 h9)
else
 F_Keep_tryFrom_b97 R k35 l0 l1 l2 l3 l4 h4)
set_option maxRecDepth 100000 in
theorem F_Keep_tryFrom_b60_ok {d : Nat} {rd : Nat} {R : Nat → Int32 → Int32 → Int32 → LH → Option LH} {q : LH} {k35 : Nat → Int32 → Int32 → Int32 → Int32 → LH → Option LH} (hd : 4 + rd ≤ d) (hRR : ∀ d : Nat, rd ≤ d → ∀ (r0 : Nat) (r1 : Int32) (r2 : Int32) (r3 : Int32) (hh : LH) (qq : LH), R r0 r1 r2 r3 hh = some qq → jl_Sem jt_T jt_Ms d 21 [.ref r0, .int r1, .int r2, .int r3] hh (jo_v qq)) (hR : ∀ (r0 : Nat) (r1 : Int32) (r2 : Int32) (r3 : Int32) (hh : LH) (qq : LH), R r0 r1 r2 r3 hh = some qq → jl_Sem jt_T jt_Ms d 21 [.ref r0, .int r1, .int r2, .int r3] hh (jo_v qq)) (hk35 : ∀ (l0 : Nat) (l1 : Int32) (l2 : Int32) (l3 : Int32) (l4 : Int32) (h : LH), k35 l0 l1 l2 l3 l4 h = some q → JR d jM_21 35 [.ref l0, .int l1, .int l2, .int l3, .int l4] [] h (jo_v q)) {l0 : Nat} {l1 : Int32} {l2 : Int32} {l3 : Int32} {l4 : Int32} {h : LH} : F_Keep_tryFrom_b60 R k35 l0 l1 l2 l3 l4 h = some q → JR d jM_21 60 [.ref l0, .int l1, .int l2, .int l3, .int l4] [] h (jo_v q) := by
 unfold F_Keep_tryFrom_b60
 exact jr_aloadn 60 61 rfl rfl rfl
  (jr_gr 61 64 rfl jg_3_18_2 rfl (fun v1 =>
  jr_aloadn 64 65 rfl rfl rfl
  (jr_gr 65 68 rfl jg_3_13_2 rfl (fun v2 =>
  jr_iloadn 68 69 rfl rfl rfl
  (jr_aa 69 70 rfl rfl (fun v3 =>
  jr_cVv 70 73 [] rfl rfl rfl rfl rfl rfl rfl rfl (as := [.ref v3]) (F_Scene_loadFrom_ok (Nat.le_trans (by decide : 1 ≤ 4) (Nat.le_trans (Nat.le_add_right _ rd) hd))) (fun h4 =>
  jr_iload 73 75 rfl rfl rfl
  (jr_if_le 75 97 78 rfl rfl rfl
  ((F_Keep_tryFrom_b97_ok hd hRR hR hk35))
  (jr_aloadn 78 79 rfl rfl rfl
  (jr_gr 79 82 rfl jg_3_18_2 rfl (fun v5 =>
  jr_aloadn 82 83 rfl rfl rfl
  (jr_gi 83 86 rfl jg_3_22_1 rfl (fun v6 =>
  jr_aloadn 86 87 rfl rfl rfl
  (jr_gi 87 90 rfl jg_3_26_1 rfl (fun v7 =>
  jr_cVi 90 93 [] rfl rfl rfl rfl rfl rfl rfl rfl (as := [.int v6, .int v7]) (F_Scene_lay_ok (Nat.le_trans (by decide : 2 ≤ 4) (Nat.le_trans (Nat.le_add_right _ rd) hd))) (fun v8 h9 =>
  jr_if_ne 93 97 96 rfl rfl rfl
  ((F_Keep_tryFrom_b97_ok hd hRR hR hk35))
  (jr_rv 96 rfl rfl)))))))))))))))))
noncomputable def F_Keep_tryFrom_c35 (R : Nat → Int32 → Int32 → Int32 → LH → Option LH) (k35 : Nat → Int32 → Int32 → Int32 → Int32 → LH → Option LH) (l0 : Nat) (l1 : Int32) (l2 : Int32) (l3 : Int32) (l4 : Int32) (h : LH) : Option LH :=
 if (2 : Int32) < l4 then
 F_Keep_tryFrom_b172 R  h
else
 jf_gi h l0 3 6 fun v1 =>
 if v1 = (-1 : Int32) then
 F_Keep_tryFrom_b60 R k35 l0 l1 l2 l3 l4 h
else
 jf_gi h l0 3 6 fun v2 =>
 if (l2 + l4) < v2 then
 F_Keep_tryFrom_b60 R k35 l0 l1 l2 l3 l4 h
else
 F_Keep_tryFrom_b172 R  h
set_option maxRecDepth 100000 in
theorem F_Keep_tryFrom_c35_ok {d : Nat} {rd : Nat} {R : Nat → Int32 → Int32 → Int32 → LH → Option LH} {q : LH} {k35 : Nat → Int32 → Int32 → Int32 → Int32 → LH → Option LH} (hd : 4 + rd ≤ d) (hRR : ∀ d : Nat, rd ≤ d → ∀ (r0 : Nat) (r1 : Int32) (r2 : Int32) (r3 : Int32) (hh : LH) (qq : LH), R r0 r1 r2 r3 hh = some qq → jl_Sem jt_T jt_Ms d 21 [.ref r0, .int r1, .int r2, .int r3] hh (jo_v qq)) (hR : ∀ (r0 : Nat) (r1 : Int32) (r2 : Int32) (r3 : Int32) (hh : LH) (qq : LH), R r0 r1 r2 r3 hh = some qq → jl_Sem jt_T jt_Ms d 21 [.ref r0, .int r1, .int r2, .int r3] hh (jo_v qq)) (hk35 : ∀ (l0 : Nat) (l1 : Int32) (l2 : Int32) (l3 : Int32) (l4 : Int32) (h : LH), k35 l0 l1 l2 l3 l4 h = some q → JR d jM_21 35 [.ref l0, .int l1, .int l2, .int l3, .int l4] [] h (jo_v q)) {l0 : Nat} {l1 : Int32} {l2 : Int32} {l3 : Int32} {l4 : Int32} {h : LH} : F_Keep_tryFrom_c35 R k35 l0 l1 l2 l3 l4 h = some q → JR d jM_21 35 [.ref l0, .int l1, .int l2, .int l3, .int l4] [] h (jo_v q) := by
 unfold F_Keep_tryFrom_c35
 exact jr_iload 35 37 rfl rfl rfl
  (jr_iconst 37 38 (2 : Int32) rfl jc_i_2 rfl
  (jr_icmp_gt 38 172 41 rfl rfl rfl
  ((F_Keep_tryFrom_b172_ok hd hRR hR ))
  (jr_aloadn 41 42 rfl rfl rfl
  (jr_gi 42 45 rfl jg_3_41_1 rfl (fun v1 =>
  jr_iconst 45 46 (-1 : Int32) rfl jc_i_m1 rfl
  (jr_icmp_eq 46 60 49 rfl rfl rfl
  ((F_Keep_tryFrom_b60_ok hd hRR hR hk35))
  (jr_iloadn 49 50 rfl rfl rfl
  (jr_iload 50 52 rfl rfl rfl
  (jr_iadd 52 53 rfl rfl
  (jr_aloadn 53 54 rfl rfl rfl
  (jr_gi 54 57 rfl jg_3_41_1 rfl (fun v2 =>
  jr_icmp_ge 57 172 60 rfl rfl rfl
  ((F_Keep_tryFrom_b172_ok hd hRR hR ))
  ((F_Keep_tryFrom_b60_ok hd hRR hR hk35))))))))))))))
noncomputable def F_Keep_tryFrom_l35 (R : Nat → Int32 → Int32 → Int32 → LH → Option LH) : Nat → Nat → Int32 → Int32 → Int32 → Int32 → LH → Option LH
 | 0, _, _, _, _, _, _ => none
 | n + 1, l0, l1, l2, l3, l4, h => F_Keep_tryFrom_c35 R (F_Keep_tryFrom_l35 R n) l0 l1 l2 l3 l4 h
theorem F_Keep_tryFrom_l35_ok {d : Nat} {rd : Nat} {R : Nat → Int32 → Int32 → Int32 → LH → Option LH} {q : LH} (hd : 4 + rd ≤ d) (hRR : ∀ d : Nat, rd ≤ d → ∀ (r0 : Nat) (r1 : Int32) (r2 : Int32) (r3 : Int32) (hh : LH) (qq : LH), R r0 r1 r2 r3 hh = some qq → jl_Sem jt_T jt_Ms d 21 [.ref r0, .int r1, .int r2, .int r3] hh (jo_v qq)) (hR : ∀ (r0 : Nat) (r1 : Int32) (r2 : Int32) (r3 : Int32) (hh : LH) (qq : LH), R r0 r1 r2 r3 hh = some qq → jl_Sem jt_T jt_Ms d 21 [.ref r0, .int r1, .int r2, .int r3] hh (jo_v qq)) : ∀ (n : Nat) (l0 : Nat) (l1 : Int32) (l2 : Int32) (l3 : Int32) (l4 : Int32) (h : LH), F_Keep_tryFrom_l35 R n l0 l1 l2 l3 l4 h = some q → JR d jM_21 35 [.ref l0, .int l1, .int l2, .int l3, .int l4] [] h (jo_v q)
 | 0 => fun _ _ _ _ _ _ hq => nomatch (show (none : Option LH) = some q from hq)
 | n + 1 => fun _ _ _ _ _ _ hq => F_Keep_tryFrom_c35_ok hd hRR hR (F_Keep_tryFrom_l35_ok hd hRR hR n) hq
noncomputable def E_Keep_tryFrom (R : Nat → Int32 → Int32 → Int32 → LH → Option LH) (l0 : Nat) (l1 : Int32) (l2 : Int32) (l3 : Int32) (h : LH) : Option LH :=
 jf_gi h l0 3 4 fun v1 =>
 if l1 < v1 then
 jf_gr h l0 3 0 fun v2 =>
 jf_gr h l0 3 1 fun v3 =>
 jf_aa h v3 l1 fun v4 =>
 jf_kd h v2 6
 ((F_Scene_saveTo v2 v4 h).bind fun h5 =>
 F_Keep_tryFrom_l35 R  jF l0 l1 l2 l3 (0 : Int32) h5)
else
 jf_pi h l0 3 6 l2 fun h6 =>
 jf_pi h6 l0 3 7 l3 fun h7 =>
 some h7
set_option maxRecDepth 100000 in
theorem E_Keep_tryFrom_ok {d : Nat} {rd : Nat} {R : Nat → Int32 → Int32 → Int32 → LH → Option LH} (hd : 5 + rd ≤ d) (hRR : ∀ d : Nat, rd ≤ d → ∀ (r0 : Nat) (r1 : Int32) (r2 : Int32) (r3 : Int32) (hh : LH) (qq : LH), R r0 r1 r2 r3 hh = some qq → jl_Sem jt_T jt_Ms d 21 [.ref r0, .int r1, .int r2, .int r3] hh (jo_v qq)) {l0 : Nat} {l1 : Int32} {l2 : Int32} {l3 : Int32} {h : LH} {q : LH} : E_Keep_tryFrom R l0 l1 l2 l3 h = some q → jl_Sem jt_T jt_Ms d 21 [.ref l0, .int l1, .int l2, .int l3] h (jo_v q) := by
 unfold E_Keep_tryFrom
 exact jr_enter (D := 4 + rd) (Nat.le_trans (Nat.le_of_eq (by omega)) hd) jM_21_at rfl rfl rfl (fun d hd =>
  have hR := hRR d (Nat.le_trans (Nat.le_add_left rd _) hd)
  jr_iloadn 0 1 rfl rfl rfl
  (jr_aloadn 1 2 rfl rfl rfl
  (jr_gi 2 5 rfl jg_3_35_1 rfl (fun v1 =>
  jr_icmp_lt 5 19 8 rfl rfl rfl
  (jr_aloadn 19 20 rfl rfl rfl
  (jr_gr 20 23 rfl jg_3_18_2 rfl (fun v2 =>
  jr_aloadn 23 24 rfl rfl rfl
  (jr_gr 24 27 rfl jg_3_13_2 rfl (fun v3 =>
  jr_iloadn 27 28 rfl rfl rfl
  (jr_aa 28 29 rfl rfl (fun v4 =>
  jr_cVv 29 32 [] rfl rfl rfl rfl rfl rfl rfl rfl (as := [.ref v4]) (F_Scene_saveTo_ok (Nat.le_trans (by decide : 1 ≤ 4) (Nat.le_trans (Nat.le_add_right _ rd) hd))) (fun h5 =>
  jr_iconst 32 33 (0 : Int32) rfl jc_i_0 rfl
  (jr_istore 33 35 [.ref l0, .int l1, .int l2, .int l3, .int (0 : Int32)] rfl rfl rfl rfl
  ((F_Keep_tryFrom_l35_ok hd hRR hR  jF _ _ _ _ _ _)))))))))))
  (jr_aloadn 8 9 rfl rfl rfl
  (jr_iloadn 9 10 rfl rfl rfl
  (jr_pi 10 13 rfl jg_3_41_3 rfl (fun h6 =>
  jr_aloadn 13 14 rfl rfl rfl
  (jr_iloadn 14 15 rfl rfl rfl
  (jr_pi 15 18 rfl jg_3_44_3 rfl (fun h7 =>
  jr_rv 18 rfl rfl)))))))))))
noncomputable def F_Keep_tryFrom : Nat → Nat → Int32 → Int32 → Int32 → LH → Option LH
 | 0, _, _, _, _, _ => none
 | n + 1, l0, l1, l2, l3, h => E_Keep_tryFrom (F_Keep_tryFrom n) l0 l1 l2 l3 h
theorem F_Keep_tryFrom_all : ∀ (n d : Nat), 5 * n ≤ d → ∀ (l0 : Nat) (l1 : Int32) (l2 : Int32) (l3 : Int32) (h : LH) (q : LH), F_Keep_tryFrom n l0 l1 l2 l3 h = some q → jl_Sem jt_T jt_Ms d 21 [.ref l0, .int l1, .int l2, .int l3] h (jo_v q)
 | 0, _, _ => fun _ _ _ _ _ _ hq => nomatch (show (none : Option LH) = some _ from hq)
 | n + 1, d, hd => fun _ _ _ _ _ _ hq => E_Keep_tryFrom_ok (rd := 5 * n) (Nat.le_trans (Nat.le_of_eq (by omega)) hd) (F_Keep_tryFrom_all n) hq
theorem F_Keep_tryFrom_ok (n : Nat) {d : Nat} (hd : 5 * n ≤ d) {l0 : Nat} {l1 : Int32} {l2 : Int32} {l3 : Int32} {h : LH} {q : LH} : F_Keep_tryFrom n l0 l1 l2 l3 h = some q → jl_Sem jt_T jt_Ms d 21 [.ref l0, .int l1, .int l2, .int l3] h (jo_v q) := F_Keep_tryFrom_all n d hd _ _ _ _ _ _
noncomputable def jM_20 : JMeth := (3, false, 0, jk_20, [], 5)
set_option maxRecDepth 100000 in
theorem jM_20_at : jt_Ms 20 = some jM_20 := rfl
noncomputable def F_Keep_search (l0 : Nat) (l1 : Int32) (l2 : Int32) (l3 : Int32) (l4 : Int32) (h : LH) : Option LH :=
 jf_pi h l0 3 2 l1 fun h1 =>
 jf_pi h1 l0 3 3 l2 fun h2 =>
 jf_pi h2 l0 3 4 (if (5 : Int32) < l3 then (5 : Int32) else l3) fun h3 =>
 jf_pi h3 l0 3 5 l4 fun h4 =>
 jf_pi h4 l0 3 6 (-1 : Int32) fun h5 =>
 jf_pi h5 l0 3 7 (-1 : Int32) fun h6 =>
 jf_kd h6 l0 3
 ((F_Keep_tryFrom jE l0 (0 : Int32) (0 : Int32) (0 : Int32) h6).bind fun h7 =>
 some h7)
set_option maxRecDepth 100000 in
theorem F_Keep_search_ok {d : Nat} (hd : 101 ≤ d) {l0 : Nat} {l1 : Int32} {l2 : Int32} {l3 : Int32} {l4 : Int32} {h : LH} {q : LH} : F_Keep_search l0 l1 l2 l3 l4 h = some q → jl_Sem jt_T jt_Ms d 20 [.ref l0, .int l1, .int l2, .int l3, .int l4] h (jo_v q) := by
 unfold F_Keep_search
 exact jr_enter (D := 100) hd jM_20_at rfl rfl rfl (fun d hd =>
  jr_aloadn 0 1 rfl rfl rfl
  (jr_iloadn 1 2 rfl rfl rfl
  (jr_pi 2 5 rfl jg_3_22_3 rfl (fun h1 =>
  jr_aloadn 5 6 rfl rfl rfl
  (jr_iloadn 6 7 rfl rfl rfl
  (jr_pi 7 10 rfl jg_3_26_3 rfl (fun h2 =>
  jr_aloadn 10 11 rfl rfl rfl
  (jr_iloadn 11 12 rfl rfl rfl
  (jr_iconst 12 13 (5 : Int32) rfl jc_i_5 rfl
  (jr_min 13 16 rfl rfl rfl rfl
  (jr_pi 16 19 rfl jg_3_35_3 rfl (fun h3 =>
  jr_aloadn 19 20 rfl rfl rfl
  (jr_iload 20 22 rfl rfl rfl
  (jr_pi 22 25 rfl jg_3_38_3 rfl (fun h4 =>
  jr_aloadn 25 26 rfl rfl rfl
  (jr_iconst 26 27 (-1 : Int32) rfl jc_i_m1 rfl
  (jr_pi 27 30 rfl jg_3_41_3 rfl (fun h5 =>
  jr_aloadn 30 31 rfl rfl rfl
  (jr_iconst 31 32 (-1 : Int32) rfl jc_i_m1 rfl
  (jr_pi 32 35 rfl jg_3_44_3 rfl (fun h6 =>
  jr_aloadn 35 36 rfl rfl rfl
  (jr_iconst 36 37 (0 : Int32) rfl jc_i_0 rfl
  (jr_iconst 37 38 (0 : Int32) rfl jc_i_0 rfl
  (jr_iconst 38 39 (0 : Int32) rfl jc_i_0 rfl
  (jr_cVv 39 42 [] rfl rfl rfl rfl rfl rfl rfl rfl (as := [.int (0 : Int32), .int (0 : Int32), .int (0 : Int32)]) (F_Keep_tryFrom_ok jE (Nat.le_trans (by decide : 5 * jE ≤ 100) hd)) (fun h7 =>
  jr_rv 42 rfl rfl))))))))))))))))))))))))))
noncomputable def jM_24 : JMeth := (4, false, 1, jk_24, [], 2)
set_option maxRecDepth 100000 in
theorem jM_24_at : jt_Ms 24 = some jM_24 := rfl
noncomputable def F_Law_senseCode (l0 : Nat) (l1 : Int32) (h : LH) : Option (Int32 × LH) :=
 some (((-1 : Int32) - l1), h)
set_option maxRecDepth 100000 in
theorem F_Law_senseCode_ok {d : Nat} (hd : 1 ≤ d) {l0 : Nat} {l1 : Int32} {h : LH} {q : (Int32 × LH)} : F_Law_senseCode l0 l1 h = some q → jl_Sem jt_T jt_Ms d 24 [.ref l0, .int l1] h (jo_i q) := by
 unfold F_Law_senseCode
 exact jr_enter (D := 0) hd jM_24_at rfl rfl rfl (fun d hd =>
  jr_iconst 0 1 (-1 : Int32) rfl jc_i_m1 rfl
  (jr_iloadn 1 2 rfl rfl rfl
  (jr_isub 2 3 rfl rfl
  (jr_ri 3 rfl rfl))))
noncomputable def jM_25 : JMeth := (4, false, 0, jk_25, [], 2)
set_option maxRecDepth 100000 in
theorem jM_25_at : jt_Ms 25 = some jM_25 := rfl
noncomputable def F_Law_put_b32 (h : LH) : Option LH :=
 some h
set_option maxRecDepth 100000 in
theorem F_Law_put_b32_ok {d : Nat} {q : LH} (hd : 0 ≤ d) {u0 : Value} {u1 : Value} {h : LH} : F_Law_put_b32 h = some q → JR d jM_25 32 [u0, u1] [] h (jo_v q) := by
 unfold F_Law_put_b32
 exact jr_rv 32 rfl rfl
noncomputable def F_Law_put (l0 : Nat) (l1 : Int32) (h : LH) : Option LH :=
 jf_gi h l0 4 2 fun v1 =>
 jf_gr h l0 4 0 fun v2 =>
 jf_al h v2 fun v3 =>
 if v1 < v3 then
 jf_gr h l0 4 0 fun v4 =>
 jf_gi h l0 4 2 fun v5 =>
 jf_is h v4 v5 l1 fun h6 =>
 jf_gi h6 l0 4 2 fun v7 =>
 jf_pi h6 l0 4 2 (v7 + (1 : Int32)) fun h8 =>
 F_Law_put_b32  h8
else
 F_Law_put_b32  h
set_option maxRecDepth 100000 in
theorem F_Law_put_ok {d : Nat} (hd : 1 ≤ d) {l0 : Nat} {l1 : Int32} {h : LH} {q : LH} : F_Law_put l0 l1 h = some q → jl_Sem jt_T jt_Ms d 25 [.ref l0, .int l1] h (jo_v q) := by
 unfold F_Law_put
 exact jr_enter (D := 0) hd jM_25_at rfl rfl rfl (fun d hd =>
  jr_aloadn 0 1 rfl rfl rfl
  (jr_gi 1 4 rfl jg_4_21_1 rfl (fun v1 =>
  jr_aloadn 4 5 rfl rfl rfl
  (jr_gr 5 8 rfl jg_4_9_2 rfl (fun v2 =>
  jr_al 8 9 rfl rfl (fun v3 =>
  jr_icmp_ge 9 32 12 rfl rfl rfl
  ((F_Law_put_b32_ok hd ))
  (jr_aloadn 12 13 rfl rfl rfl
  (jr_gr 13 16 rfl jg_4_9_2 rfl (fun v4 =>
  jr_aloadn 16 17 rfl rfl rfl
  (jr_gi 17 20 rfl jg_4_21_1 rfl (fun v5 =>
  jr_iloadn 20 21 rfl rfl rfl
  (jr_is 21 22 rfl rfl (fun h6 =>
  jr_aloadn 22 23 rfl rfl rfl
  (jr_dup 23 24 rfl rfl rfl
  (jr_gi 24 27 rfl jg_4_21_1 rfl (fun v7 =>
  jr_iconst 27 28 (1 : Int32) rfl jc_i_1 rfl
  (jr_iadd 28 29 rfl rfl
  (jr_pi 29 32 rfl jg_4_21_3 rfl (fun h8 =>
  (F_Law_put_b32_ok hd ))))))))))))))))))))
noncomputable def jM_23 : JMeth := (4, false, 0, jk_23, [], 1)
set_option maxRecDepth 100000 in
theorem jM_23_at : jt_Ms 23 = some jM_23 := rfl
noncomputable def F_Law_setPlain (l0 : Nat) (h : LH) : Option LH :=
 jf_pi h l0 4 2 (0 : Int32) fun h1 =>
 jf_kd h1 l0 4
 (jf_bi (F_Law_senseCode l0 (0 : Int32) h1) fun v2 h3 =>
 jf_kd h3 l0 4
 ((F_Law_put l0 v2 h3).bind fun h4 =>
 jf_kd h4 l0 4
 ((F_Law_put l0 (9 : Int32) h4).bind fun h5 =>
 jf_kd h5 l0 4
 ((F_Law_put l0 (-12 : Int32) h5).bind fun h6 =>
 some h6))))
set_option maxRecDepth 100000 in
theorem F_Law_setPlain_ok {d : Nat} (hd : 2 ≤ d) {l0 : Nat} {h : LH} {q : LH} : F_Law_setPlain l0 h = some q → jl_Sem jt_T jt_Ms d 23 [.ref l0] h (jo_v q) := by
 unfold F_Law_setPlain
 exact jr_enter (D := 1) hd jM_23_at rfl rfl rfl (fun d hd =>
  jr_aloadn 0 1 rfl rfl rfl
  (jr_iconst 1 2 (0 : Int32) rfl jc_i_0 rfl
  (jr_pi 2 5 rfl jg_4_21_3 rfl (fun h1 =>
  jr_aloadn 5 6 rfl rfl rfl
  (jr_aloadn 6 7 rfl rfl rfl
  (jr_iconst 7 8 (0 : Int32) rfl jc_i_0 rfl
  (jr_cVi 8 11 [.ref l0] rfl rfl rfl rfl rfl rfl rfl rfl (as := [.int (0 : Int32)]) (F_Law_senseCode_ok (Nat.le_trans (by decide : 1 ≤ 1) hd)) (fun v2 h3 =>
  jr_cVv 11 14 [] rfl rfl rfl rfl rfl rfl rfl rfl (as := [.int v2]) (F_Law_put_ok (Nat.le_trans (by decide : 1 ≤ 1) hd)) (fun h4 =>
  jr_aloadn 14 15 rfl rfl rfl
  (jr_bipush 15 17 (9 : Int32) rfl jc_b_9 rfl
  (jr_cVv 17 20 [] rfl rfl rfl rfl rfl rfl rfl rfl (as := [.int (9 : Int32)]) (F_Law_put_ok (Nat.le_trans (by decide : 1 ≤ 1) hd)) (fun h5 =>
  jr_aloadn 20 21 rfl rfl rfl
  (jr_bipush 21 23 (-12 : Int32) rfl jc_b_m12 rfl
  (jr_cVv 23 26 [] rfl rfl rfl rfl rfl rfl rfl rfl (as := [.int (-12 : Int32)]) (F_Law_put_ok (Nat.le_trans (by decide : 1 ≤ 1) hd)) (fun h6 =>
  jr_rv 26 rfl rfl)))))))))))))))
noncomputable def jM_22 : JMeth := (4, true, 0, jk_22, [], 1)
set_option maxRecDepth 100000 in
theorem jM_22_at : jt_Ms 22 = some jM_22 := rfl
noncomputable def F_Law_init (l0 : Nat) (h : LH) : Option LH :=
 jf_na h 20 (150 : Int32) fun v1 h2 =>
 jf_pr h2 l0 4 0 v1 fun h3 =>
 jf_na h3 20 (150 : Int32) fun v4 h5 =>
 jf_pr h5 l0 4 1 v4 fun h6 =>
 jf_kd h6 l0 4
 ((F_Law_setPlain l0 h6).bind fun h7 =>
 some h7)
set_option maxRecDepth 100000 in
theorem F_Law_init_ok {d : Nat} (hd : 3 ≤ d) {l0 : Nat} {h : LH} {q : LH} : F_Law_init l0 h = some q → jl_Sem jt_T jt_Ms d 22 [.ref l0] h (jo_v q) := by
 unfold F_Law_init
 exact jr_enter (D := 2) hd jM_22_at rfl rfl rfl (fun d hd =>
  jr_aloadn 0 1 rfl rfl rfl
  (jr_oi 1 4 rfl rfl rfl rfl
  (jr_aloadn 4 5 rfl rfl rfl
  (jr_sipush 5 8 (150 : Int32) rfl jc_s_150 rfl
  (jr_na 8 10 rfl rfl rfl rfl (fun v1 h2 =>
  jr_prF 10 13 rfl rfl jg_4_9_6 rfl (fun h3 =>
  jr_aloadn 13 14 rfl rfl rfl
  (jr_sipush 14 17 (150 : Int32) rfl jc_s_150 rfl
  (jr_na 17 19 rfl rfl rfl rfl (fun v4 h5 =>
  jr_prF 19 22 rfl rfl jg_4_15_6 rfl (fun h6 =>
  jr_aloadn 22 23 rfl rfl rfl
  (jr_cVv 23 26 [] rfl rfl rfl rfl rfl rfl rfl rfl (as := []) (F_Law_setPlain_ok (Nat.le_trans (by decide : 2 ≤ 2) hd)) (fun h7 =>
  jr_rv 26 rfl rfl)))))))))))))
noncomputable def jM_93 : JMeth := (7, false, 0, jk_93, [], 2)
set_option maxRecDepth 100000 in
theorem jM_93_at : jt_Ms 93 = some jM_93 := rfl
noncomputable def F_Text_failNext (l0 : Nat) (l1 : Int32) (h : LH) : Option LH :=
 jf_kd h l0 7
 (jf_bi (F_Text_next l0 h) fun v1 h2 =>
 jf_gi h2 l0 7 5 fun v3 =>
 jf_kd h2 l0 7
 ((F_Text_failAt l0 l1 v3 h2).bind fun h4 =>
 some h4))
set_option maxRecDepth 100000 in
theorem F_Text_failNext_ok {d : Nat} (hd : 2 ≤ d) {l0 : Nat} {l1 : Int32} {h : LH} {q : LH} : F_Text_failNext l0 l1 h = some q → jl_Sem jt_T jt_Ms d 93 [.ref l0, .int l1] h (jo_v q) := by
 unfold F_Text_failNext
 exact jr_enter (D := 1) hd jM_93_at rfl rfl rfl (fun d hd =>
  jr_aloadn 0 1 rfl rfl rfl
  (jr_cVi 1 4 [] rfl rfl rfl rfl rfl rfl rfl rfl (as := []) (F_Text_next_ok (Nat.le_trans (by decide : 1 ≤ 1) hd)) (fun v1 h2 =>
  jr_pop 4 5 rfl rfl rfl
  (jr_aloadn 5 6 rfl rfl rfl
  (jr_iloadn 6 7 rfl rfl rfl
  (jr_aloadn 7 8 rfl rfl rfl
  (jr_gi 8 11 rfl jg_7_31_1 rfl (fun v3 =>
  jr_cVv 11 14 [] rfl rfl rfl rfl rfl rfl rfl rfl (as := [.int l1, .int v3]) (F_Text_failAt_ok (Nat.le_trans (by decide : 1 ≤ 1) hd)) (fun h4 =>
  jr_rv 14 rfl rfl)))))))))
noncomputable def jM_30 : JMeth := (4, false, 0, jk_30, [], 3)
set_option maxRecDepth 100000 in
theorem jM_30_at : jt_Ms 30 = some jM_30 := rfl
noncomputable def F_Law_readBrackets (R : Nat → Nat → Int32 → LH → Option LH) (l0 : Nat) (l1 : Nat) (l2 : Int32) (h : LH) : Option LH :=
 if l2 < (6 : Int32) then
 jf_kd h l1 7
 ((F_Text_need l1 (40 : Int32) h).bind fun h1 =>
 jf_kd h1 l0 4
 ((R l0 l1 (l2 + (1 : Int32)) h1).bind fun h2 =>
 jf_kd h2 l1 7
 ((F_Text_need l1 (41 : Int32) h2).bind fun h3 =>
 some h3)))
else
 jf_kd h l1 7
 ((F_Text_failNext l1 (3 : Int32) h).bind fun h4 =>
 some h4)
set_option maxRecDepth 100000 in
theorem F_Law_readBrackets_ok {d : Nat} {rd : Nat} {R : Nat → Nat → Int32 → LH → Option LH} (hd : 3 + rd ≤ d) (hRR : ∀ d : Nat, rd ≤ d → ∀ (r0 : Nat) (r1 : Nat) (r2 : Int32) (hh : LH) (qq : LH), R r0 r1 r2 hh = some qq → jl_Sem jt_T jt_Ms d 27 [.ref r0, .ref r1, .int r2] hh (jo_v qq)) {l0 : Nat} {l1 : Nat} {l2 : Int32} {h : LH} {q : LH} : F_Law_readBrackets R l0 l1 l2 h = some q → jl_Sem jt_T jt_Ms d 30 [.ref l0, .ref l1, .int l2] h (jo_v q) := by
 unfold F_Law_readBrackets
 exact jr_enter (D := 2 + rd) (Nat.le_trans (Nat.le_of_eq (by omega)) hd) jM_30_at rfl rfl rfl (fun d hd =>
  have hR := hRR d (Nat.le_trans (Nat.le_add_left rd _) hd)
  jr_iloadn 0 1 rfl rfl rfl
  (jr_bipush 1 3 (6 : Int32) rfl jc_b_6 rfl
  (jr_icmp_lt 3 12 6 rfl rfl rfl
  (jr_aloadn 12 13 rfl rfl rfl
  (jr_bipush 13 15 (40 : Int32) rfl jc_b_40 rfl
  (jr_cVv 15 18 [] rfl rfl rfl rfl rfl rfl rfl rfl (as := [.int (40 : Int32)]) (F_Text_need_ok (Nat.le_trans (by decide : 2 ≤ 2) (Nat.le_trans (Nat.le_add_right _ rd) hd))) (fun h1 =>
  jr_aloadn 18 19 rfl rfl rfl
  (jr_aloadn 19 20 rfl rfl rfl
  (jr_iloadn 20 21 rfl rfl rfl
  (jr_iconst 21 22 (1 : Int32) rfl jc_i_1 rfl
  (jr_iadd 22 23 rfl rfl
  (jr_cVv 23 26 [] rfl rfl rfl rfl rfl rfl rfl rfl (as := [.ref l1, .int (l2 + (1 : Int32))]) (fun hq => hR _ _ _ _ _ hq) (fun h2 =>
  jr_aloadn 26 27 rfl rfl rfl
  (jr_bipush 27 29 (41 : Int32) rfl jc_b_41 rfl
  (jr_cVv 29 32 [] rfl rfl rfl rfl rfl rfl rfl rfl (as := [.int (41 : Int32)]) (F_Text_need_ok (Nat.le_trans (by decide : 2 ≤ 2) (Nat.le_trans (Nat.le_add_right _ rd) hd))) (fun h3 =>
  jr_rv 32 rfl rfl)))))))))))))
  (jr_aloadn 6 7 rfl rfl rfl
  (jr_iconst 7 8 (3 : Int32) rfl jc_i_3 rfl
  (jr_cVv 8 11 [] rfl rfl rfl rfl rfl rfl rfl rfl (as := [.int (3 : Int32)]) (F_Text_failNext_ok (Nat.le_trans (by decide : 2 ≤ 2) (Nat.le_trans (Nat.le_add_right _ rd) hd))) (fun h4 =>
  jr_rv 11 rfl rfl)))))))
noncomputable def jM_31 : JMeth := (4, false, 0, jk_31, [], 4)
set_option maxRecDepth 100000 in
theorem jM_31_at : jt_Ms 31 = some jM_31 := rfl
noncomputable def F_Law_readPair (R : Nat → Nat → Int32 → LH → Option LH) (l0 : Nat) (l1 : Nat) (l2 : Int32) (l3 : Int32) (h : LH) : Option LH :=
 if l2 < (6 : Int32) then
 jf_kd h l1 7
 ((F_Text_need l1 (91 : Int32) h).bind fun h1 =>
 jf_kd h1 l0 4
 ((R l0 l1 (l2 + (1 : Int32)) h1).bind fun h2 =>
 jf_kd h2 l1 7
 ((F_Text_need l1 (44 : Int32) h2).bind fun h3 =>
 jf_kd h3 l0 4
 ((R l0 l1 (l2 + (1 : Int32)) h3).bind fun h4 =>
 jf_kd h4 l1 7
 ((F_Text_need l1 (93 : Int32) h4).bind fun h5 =>
 jf_kd h5 l0 4
 ((F_Law_put l0 l3 h5).bind fun h6 =>
 some h6))))))
else
 jf_kd h l1 7
 ((F_Text_fail l1 (3 : Int32) h).bind fun h7 =>
 some h7)
set_option maxRecDepth 100000 in
theorem F_Law_readPair_ok {d : Nat} {rd : Nat} {R : Nat → Nat → Int32 → LH → Option LH} (hd : 3 + rd ≤ d) (hRR : ∀ d : Nat, rd ≤ d → ∀ (r0 : Nat) (r1 : Nat) (r2 : Int32) (hh : LH) (qq : LH), R r0 r1 r2 hh = some qq → jl_Sem jt_T jt_Ms d 27 [.ref r0, .ref r1, .int r2] hh (jo_v qq)) {l0 : Nat} {l1 : Nat} {l2 : Int32} {l3 : Int32} {h : LH} {q : LH} : F_Law_readPair R l0 l1 l2 l3 h = some q → jl_Sem jt_T jt_Ms d 31 [.ref l0, .ref l1, .int l2, .int l3] h (jo_v q) := by
 unfold F_Law_readPair
 exact jr_enter (D := 2 + rd) (Nat.le_trans (Nat.le_of_eq (by omega)) hd) jM_31_at rfl rfl rfl (fun d hd =>
  have hR := hRR d (Nat.le_trans (Nat.le_add_left rd _) hd)
  jr_iloadn 0 1 rfl rfl rfl
  (jr_bipush 1 3 (6 : Int32) rfl jc_b_6 rfl
  (jr_icmp_lt 3 12 6 rfl rfl rfl
  (jr_aloadn 12 13 rfl rfl rfl
  (jr_bipush 13 15 (91 : Int32) rfl jc_b_91 rfl
  (jr_cVv 15 18 [] rfl rfl rfl rfl rfl rfl rfl rfl (as := [.int (91 : Int32)]) (F_Text_need_ok (Nat.le_trans (by decide : 2 ≤ 2) (Nat.le_trans (Nat.le_add_right _ rd) hd))) (fun h1 =>
  jr_aloadn 18 19 rfl rfl rfl
  (jr_aloadn 19 20 rfl rfl rfl
  (jr_iloadn 20 21 rfl rfl rfl
  (jr_iconst 21 22 (1 : Int32) rfl jc_i_1 rfl
  (jr_iadd 22 23 rfl rfl
  (jr_cVv 23 26 [] rfl rfl rfl rfl rfl rfl rfl rfl (as := [.ref l1, .int (l2 + (1 : Int32))]) (fun hq => hR _ _ _ _ _ hq) (fun h2 =>
  jr_aloadn 26 27 rfl rfl rfl
  (jr_bipush 27 29 (44 : Int32) rfl jc_b_44 rfl
  (jr_cVv 29 32 [] rfl rfl rfl rfl rfl rfl rfl rfl (as := [.int (44 : Int32)]) (F_Text_need_ok (Nat.le_trans (by decide : 2 ≤ 2) (Nat.le_trans (Nat.le_add_right _ rd) hd))) (fun h3 =>
  jr_aloadn 32 33 rfl rfl rfl
  (jr_aloadn 33 34 rfl rfl rfl
  (jr_iloadn 34 35 rfl rfl rfl
  (jr_iconst 35 36 (1 : Int32) rfl jc_i_1 rfl
  (jr_iadd 36 37 rfl rfl
  (jr_cVv 37 40 [] rfl rfl rfl rfl rfl rfl rfl rfl (as := [.ref l1, .int (l2 + (1 : Int32))]) (fun hq => hR _ _ _ _ _ hq) (fun h4 =>
  jr_aloadn 40 41 rfl rfl rfl
  (jr_bipush 41 43 (93 : Int32) rfl jc_b_93 rfl
  (jr_cVv 43 46 [] rfl rfl rfl rfl rfl rfl rfl rfl (as := [.int (93 : Int32)]) (F_Text_need_ok (Nat.le_trans (by decide : 2 ≤ 2) (Nat.le_trans (Nat.le_add_right _ rd) hd))) (fun h5 =>
  jr_aloadn 46 47 rfl rfl rfl
  (jr_iloadn 47 48 rfl rfl rfl
  (jr_cVv 48 51 [] rfl rfl rfl rfl rfl rfl rfl rfl (as := [.int l3]) (F_Law_put_ok (Nat.le_trans (by decide : 1 ≤ 2) (Nat.le_trans (Nat.le_add_right _ rd) hd))) (fun h6 =>
  jr_rv 51 rfl rfl)))))))))))))))))))))))))
  (jr_aloadn 6 7 rfl rfl rfl
  (jr_iconst 7 8 (3 : Int32) rfl jc_i_3 rfl
  (jr_cVv 8 11 [] rfl rfl rfl rfl rfl rfl rfl rfl (as := [.int (3 : Int32)]) (F_Text_fail_ok (Nat.le_trans (by decide : 2 ≤ 2) (Nat.le_trans (Nat.le_add_right _ rd) hd))) (fun h7 =>
  jr_rv 11 rfl rfl)))))))
noncomputable def jM_313 : JMeth := (13, false, 3, jk_313, [], 1)
set_option maxRecDepth 100000 in
theorem jM_313_at : jt_Ms 313 = some jM_313 := rfl
noncomputable def F_Str_coder_b14 (s0 : Int32) (h : LH) : Option (Int32 × LH) :=
 jf_rb s0 (some (s0, h))
set_option maxRecDepth 100000 in
theorem F_Str_coder_b14_ok {d : Nat} {q : (Int32 × LH)} (hd : 0 ≤ d) {s0 : Int32} {u0 : Value} {h : LH} : F_Str_coder_b14 s0 h = some q → JR d jM_313 14 [u0] [.int s0] h (jo_i q) := by
 unfold F_Str_coder_b14
 exact jr_rb 14 rfl rfl
noncomputable def F_Str_coder (l0 : Nat) (h : LH) : Option (Int32 × LH) :=
 if (1 : Int32) = 0 then
 F_Str_coder_b14  (1 : Int32) h
else
 jf_gs h l0 (F_Str_coder_b14  (0 : Int32) h)
set_option maxRecDepth 100000 in
theorem F_Str_coder_ok {d : Nat} (hd : 1 ≤ d) {l0 : Nat} {h : LH} {q : (Int32 × LH)} : F_Str_coder l0 h = some q → jl_Sem jt_T jt_Ms d 313 [.ref l0] h (jo_i q) := by
 unfold F_Str_coder
 exact jr_enter (D := 0) hd jM_313_at rfl rfl rfl (fun d hd =>
  jr_getsi 0 3 rfl rfl rfl rfl
  (jr_if_eq 3 13 6 rfl rfl rfl
  (jr_iconst 13 14 (1 : Int32) rfl jc_i_1 rfl
  ((F_Str_coder_b14_ok hd )))
  (jr_aloadn 6 7 rfl rfl rfl
  (jr_gs1 7 10 rfl rfl rfl (jr_goto 10 14 rfl rfl
  ((F_Str_coder_b14_ok hd )))))))
noncomputable def jM_312 : JMeth := (13, false, 1, jk_312, [], 1)
set_option maxRecDepth 100000 in
theorem jM_312_at : jt_Ms 312 = some jM_312 := rfl
noncomputable def F_Str_length (l0 : Nat) (h : LH) : Option (Int32 × LH) :=
 jf_gs h l0 (jf_al h (l0 + 21) fun v1 =>
 jf_kd h l0 31
 (jf_bi (F_Str_coder l0 h) fun v2 h3 =>
 some ((v1 >>> (v2 &&& 31)), h3)))
set_option maxRecDepth 100000 in
theorem F_Str_length_ok {d : Nat} (hd : 2 ≤ d) {l0 : Nat} {h : LH} {q : (Int32 × LH)} : F_Str_length l0 h = some q → jl_Sem jt_T jt_Ms d 312 [.ref l0] h (jo_i q) := by
 unfold F_Str_length
 exact jr_enter (D := 1) hd jM_312_at rfl rfl rfl (fun d hd =>
  jr_aloadn 0 1 rfl rfl rfl
  (jr_gs0 1 4 rfl rfl rfl (jr_al 4 5 rfl rfl (fun v1 =>
  jr_aloadn 5 6 rfl rfl rfl
  (jr_cVi 6 9 [.int v1] rfl rfl rfl rfl rfl rfl rfl rfl (as := []) (F_Str_coder_ok (Nat.le_trans (by decide : 1 ≤ 1) hd)) (fun v2 h3 =>
  jr_ishr 9 10 rfl rfl
  (jr_ri 10 rfl rfl)))))))
noncomputable def jM_315 : JMeth := (13, false, 2, jk_315, [], 1)
set_option maxRecDepth 100000 in
theorem jM_315_at : jt_Ms 315 = some jM_315 := rfl
noncomputable def F_Str_isLatin1_b18 (s0 : Int32) (h : LH) : Option (Int32 × LH) :=
 jf_rz s0 (some (s0, h))
set_option maxRecDepth 100000 in
theorem F_Str_isLatin1_b18_ok {d : Nat} {q : (Int32 × LH)} (hd : 0 ≤ d) {s0 : Int32} {u0 : Value} {h : LH} : F_Str_isLatin1_b18 s0 h = some q → JR d jM_315 18 [u0] [.int s0] h (jo_i q) := by
 unfold F_Str_isLatin1_b18
 exact jr_rz 18 rfl rfl
noncomputable def F_Str_isLatin1_b17 (h : LH) : Option (Int32 × LH) :=
 F_Str_isLatin1_b18  (0 : Int32) h
set_option maxRecDepth 100000 in
theorem F_Str_isLatin1_b17_ok {d : Nat} {q : (Int32 × LH)} (hd : 0 ≤ d) {u0 : Value} {h : LH} : F_Str_isLatin1_b17 h = some q → JR d jM_315 17 [u0] [] h (jo_i q) := by
 unfold F_Str_isLatin1_b17
 exact jr_iconst 17 18 (0 : Int32) rfl jc_i_0 rfl
  ((F_Str_isLatin1_b18_ok hd ))
noncomputable def F_Str_isLatin1 (l0 : Nat) (h : LH) : Option (Int32 × LH) :=
 if (1 : Int32) = 0 then
 F_Str_isLatin1_b17  h
else
 jf_gs h l0 (if (0 : Int32) = 0 then
 F_Str_isLatin1_b18  (1 : Int32) h
else
 F_Str_isLatin1_b17  h)
set_option maxRecDepth 100000 in
theorem F_Str_isLatin1_ok {d : Nat} (hd : 1 ≤ d) {l0 : Nat} {h : LH} {q : (Int32 × LH)} : F_Str_isLatin1 l0 h = some q → jl_Sem jt_T jt_Ms d 315 [.ref l0] h (jo_i q) := by
 unfold F_Str_isLatin1
 exact jr_enter (D := 0) hd jM_315_at rfl rfl rfl (fun d hd =>
  jr_getsi 0 3 rfl rfl rfl rfl
  (jr_if_eq 3 17 6 rfl rfl rfl
  ((F_Str_isLatin1_b17_ok hd ))
  (jr_aloadn 6 7 rfl rfl rfl
  (jr_gs1 7 10 rfl rfl rfl (jr_if_ne 10 17 13 rfl rfl rfl
  ((F_Str_isLatin1_b17_ok hd ))
  (jr_iconst 13 14 (1 : Int32) rfl jc_i_1 rfl
  (jr_goto 14 18 rfl rfl
  ((F_Str_isLatin1_b18_ok hd )))))))))
noncomputable def jM_319 : JMeth := (16, false, 1, jk_319, [], 3)
set_option maxRecDepth 100000 in
theorem jM_319_at : jt_Ms 319 = some jM_319 := rfl
noncomputable def F_Pre_checkIndex_b9 (l0 : Int32) (l1 : Int32) (h : LH) : Option (Int32 × LH) :=
 none
set_option maxRecDepth 100000 in
theorem F_Pre_checkIndex_b9_ok {d : Nat} {q : (Int32 × LH)} (hd : 0 ≤ d) {l0 : Int32} {l1 : Int32} {h : LH} : F_Pre_checkIndex_b9 l0 l1 h = some q → JR d jM_319 9 [.int l0, .int l1, .retAddr 1] [] h (jo_i q) := by
 unfold F_Pre_checkIndex_b9
 exact (fun hq => nomatch hq)
noncomputable def F_Pre_checkIndex (l0 : Int32) (l1 : Int32) (h : LH) : Option (Int32 × LH) :=
 if l0 < 0 then
 F_Pre_checkIndex_b9  l0 l1 h
else
 if l0 < l1 then
 some (l0, h)
else
 F_Pre_checkIndex_b9  l0 l1 h
set_option maxRecDepth 100000 in
theorem F_Pre_checkIndex_ok {d : Nat} (hd : 1 ≤ d) {l0 : Int32} {l1 : Int32} {h : LH} {q : (Int32 × LH)} : F_Pre_checkIndex l0 l1 h = some q → jl_Sem jt_T jt_Ms d 319 [.int l0, .int l1, .retAddr 1] h (jo_i q) := by
 unfold F_Pre_checkIndex
 exact jr_enter (D := 0) hd jM_319_at rfl rfl rfl (fun d hd =>
  jr_iloadn 0 1 rfl rfl rfl
  (jr_if_lt 1 9 4 rfl rfl rfl
  ((F_Pre_checkIndex_b9_ok hd ))
  (jr_iloadn 4 5 rfl rfl rfl
  (jr_iloadn 5 6 rfl rfl rfl
  (jr_icmp_lt 6 16 9 rfl rfl rfl
  (jr_iloadn 16 17 rfl rfl rfl
  (jr_ri 17 rfl rfl))
  ((F_Pre_checkIndex_b9_ok hd )))))))
noncomputable def jM_316 : JMeth := (13, false, 0, jk_316, [], 2)
set_option maxRecDepth 100000 in
theorem jM_316_at : jt_Ms 316 = some jM_316 := rfl
noncomputable def F_Str_checkIndex (l0 : Int32) (l1 : Int32) (h : LH) : Option LH :=
 jf_bi (F_Pre_checkIndex l0 l1 h) fun v1 h2 =>
 some h2
set_option maxRecDepth 100000 in
theorem F_Str_checkIndex_ok {d : Nat} (hd : 2 ≤ d) {l0 : Int32} {l1 : Int32} {h : LH} {q : LH} : F_Str_checkIndex l0 l1 h = some q → jl_Sem jt_T jt_Ms d 316 [.int l0, .int l1] h (jo_v q) := by
 unfold F_Str_checkIndex
 exact jr_enter (D := 1) hd jM_316_at rfl rfl rfl (fun d hd =>
  jr_iloadn 0 1 rfl rfl rfl
  (jr_iloadn 1 2 rfl rfl rfl
  (jr_getsr 2 5 rfl rfl rfl rfl
  (jr_cSi 5 8 [] rfl rfl rfl rfl rfl rfl rfl (as := [.int l0, .int l1, .retAddr 1]) (F_Pre_checkIndex_ok (Nat.le_trans (by decide : 1 ≤ 1) hd)) (fun v1 h2 =>
  jr_pop 8 9 rfl rfl rfl
  (jr_rv 9 rfl rfl))))))
noncomputable def jM_317 : JMeth := (14, false, 4, jk_317, [], 2)
set_option maxRecDepth 100000 in
theorem jM_317_at : jt_Ms 317 = some jM_317 := rfl
noncomputable def F_SL_charAt (l0 : Nat) (l1 : Int32) (h : LH) : Option (Int32 × LH) :=
 jf_al h l0 fun v1 =>
 (F_Str_checkIndex l1 v1 h).bind fun h2 =>
 jf_ba h2 l0 l1 fun v3 =>
 jf_rc (ji_i2c (v3 &&& (255 : Int32))) (some ((ji_i2c (v3 &&& (255 : Int32))), h2))
set_option maxRecDepth 100000 in
theorem F_SL_charAt_ok {d : Nat} (hd : 3 ≤ d) {l0 : Nat} {l1 : Int32} {h : LH} {q : (Int32 × LH)} : F_SL_charAt l0 l1 h = some q → jl_Sem jt_T jt_Ms d 317 [.ref l0, .int l1] h (jo_i q) := by
 unfold F_SL_charAt
 exact jr_enter (D := 2) hd jM_317_at rfl rfl rfl (fun d hd =>
  jr_iloadn 0 1 rfl rfl rfl
  (jr_aloadn 1 2 rfl rfl rfl
  (jr_al 2 3 rfl rfl (fun v1 =>
  jr_cSv 3 6 [] rfl rfl rfl rfl rfl rfl rfl (as := [.int l1, .int v1]) (F_Str_checkIndex_ok (Nat.le_trans (by decide : 2 ≤ 2) hd)) (fun h2 =>
  jr_aloadn 6 7 rfl rfl rfl
  (jr_iloadn 7 8 rfl rfl rfl
  (jr_ba 8 9 rfl rfl (fun v3 =>
  jr_sipush 9 12 (255 : Int32) rfl jc_s_255 rfl
  (jr_iand 12 13 rfl rfl
  (jr_i2c 13 14 rfl rfl
  (jr_rc 14 rfl rfl)))))))))))
noncomputable def jM_314 : JMeth := (13, false, 4, jk_314, [], 2)
set_option maxRecDepth 100000 in
theorem jM_314_at : jt_Ms 314 = some jM_314 := rfl
noncomputable def F_Str_charAt (l0 : Nat) (l1 : Int32) (h : LH) : Option (Int32 × LH) :=
 jf_kd h l0 31
 (jf_bi (F_Str_isLatin1 l0 h) fun v1 h2 =>
 if v1 = 0 then
 jf_gs h2 l0 (none)
else
 jf_gs h2 l0 (jf_bi (F_SL_charAt (l0 + 21) l1 h2) fun v3 h4 =>
 jf_rc v3 (some (v3, h4))))
set_option maxRecDepth 100000 in
theorem F_Str_charAt_ok {d : Nat} (hd : 4 ≤ d) {l0 : Nat} {l1 : Int32} {h : LH} {q : (Int32 × LH)} : F_Str_charAt l0 l1 h = some q → jl_Sem jt_T jt_Ms d 314 [.ref l0, .int l1] h (jo_i q) := by
 unfold F_Str_charAt
 exact jr_enter (D := 3) hd jM_314_at rfl rfl rfl (fun d hd =>
  jr_aloadn 0 1 rfl rfl rfl
  (jr_cVi 1 4 [] rfl rfl rfl rfl rfl rfl rfl rfl (as := []) (F_Str_isLatin1_ok (Nat.le_trans (by decide : 1 ≤ 3) hd)) (fun v1 h2 =>
  jr_if_eq 4 16 7 rfl rfl rfl
  (jr_aloadn 16 17 rfl rfl rfl
  (jr_gs0 17 20 rfl rfl rfl (jr_iloadn 20 21 rfl rfl rfl
  ((fun hq => nomatch hq)))))
  (jr_aloadn 7 8 rfl rfl rfl
  (jr_gs0 8 11 rfl rfl rfl (jr_iloadn 11 12 rfl rfl rfl
  (jr_cSi 12 15 [] rfl rfl rfl rfl rfl rfl rfl (as := [.ref (l0 + 21), .int l1]) (F_SL_charAt_ok (Nat.le_trans (by decide : 3 ≤ 3) hd)) (fun v3 h4 =>
  jr_rc 15 rfl rfl))))))))
noncomputable def jM_86 : JMeth := (7, false, 2, jk_86, [], 3)
set_option maxRecDepth 100000 in
theorem jM_86_at : jt_Ms 86 = some jM_86 := rfl
noncomputable def F_Text_isWord_b23 (h : LH) : Option (Int32 × LH) :=
 jf_rz (0 : Int32) (some ((0 : Int32), h))
set_option maxRecDepth 100000 in
theorem F_Text_isWord_b23_ok {d : Nat} {q : (Int32 × LH)} (hd : 4 ≤ d) {u0 : Value} {u1 : Value} {u2 : Value} {h : LH} : F_Text_isWord_b23 h = some q → JR d jM_86 23 [u0, u1, u2] [] h (jo_i q) := by
 unfold F_Text_isWord_b23
 exact jr_iconst 23 24 (0 : Int32) rfl jc_i_0 rfl
  (jr_rz 24 rfl rfl)
noncomputable def F_Text_isWord_c27 (k27 : Nat → Nat → Int32 → LH → Option (Int32 × LH)) (l0 : Nat) (l1 : Nat) (l2 : Int32) (h : LH) : Option (Int32 × LH) :=
 jf_kd h l1 31
 (jf_bi (F_Str_length l1 h) fun v1 h2 =>
 if l2 < v1 then
 jf_gr h2 l0 7 0 fun v3 =>
 jf_gi h2 l0 7 6 fun v4 =>
 jf_ba h2 v3 (v4 + l2) fun v5 =>
 jf_kd h2 l1 31
 (jf_bi (F_Str_charAt l1 l2 h2) fun v6 h7 =>
 if v5 = v6 then
 k27 l0 l1 (l2 + (1 : Int32)) h7
else
 jf_rz (0 : Int32) (some ((0 : Int32), h7)))
else
 jf_rz (1 : Int32) (some ((1 : Int32), h2)))
set_option maxRecDepth 100000 in
theorem F_Text_isWord_c27_ok {d : Nat} {q : (Int32 × LH)} {k27 : Nat → Nat → Int32 → LH → Option (Int32 × LH)} (hd : 4 ≤ d) (hk27 : ∀ (l0 : Nat) (l1 : Nat) (l2 : Int32) (h : LH), k27 l0 l1 l2 h = some q → JR d jM_86 27 [.ref l0, .ref l1, .int l2] [] h (jo_i q)) {l0 : Nat} {l1 : Nat} {l2 : Int32} {h : LH} : F_Text_isWord_c27 k27 l0 l1 l2 h = some q → JR d jM_86 27 [.ref l0, .ref l1, .int l2] [] h (jo_i q) := by
 unfold F_Text_isWord_c27
 exact jr_iloadn 27 28 rfl rfl rfl
  (jr_aloadn 28 29 rfl rfl rfl
  (jr_cVi 29 32 [.int l2] rfl rfl rfl rfl rfl rfl rfl rfl (as := []) (F_Str_length_ok (Nat.le_trans (by decide : 2 ≤ 4) hd)) (fun v1 h2 =>
  jr_icmp_ge 32 62 35 rfl rfl rfl
  (jr_iconst 62 63 (1 : Int32) rfl jc_i_1 rfl
  (jr_rz 63 rfl rfl))
  (jr_aloadn 35 36 rfl rfl rfl
  (jr_gr 36 39 rfl jg_7_9_2 rfl (fun v3 =>
  jr_aloadn 39 40 rfl rfl rfl
  (jr_gi 40 43 rfl jg_7_34_1 rfl (fun v4 =>
  jr_iloadn 43 44 rfl rfl rfl
  (jr_iadd 44 45 rfl rfl
  (jr_ba 45 46 rfl rfl (fun v5 =>
  jr_aloadn 46 47 rfl rfl rfl
  (jr_iloadn 47 48 rfl rfl rfl
  (jr_cVi 48 51 [.int v5] rfl rfl rfl rfl rfl rfl rfl rfl (as := [.int l2]) (F_Str_charAt_ok (Nat.le_trans (by decide : 4 ≤ 4) hd)) (fun v6 h7 =>
  jr_icmp_eq 51 56 54 rfl rfl rfl
  (jr_iinc 56 59 [.ref l0, .ref l1, .int (l2 + (1 : Int32))] rfl jc_i_1 rfl rfl rfl rfl
  (jr_goto 59 27 rfl rfl
  ((hk27 _ _ _ _))))
  (jr_iconst 54 55 (0 : Int32) rfl jc_i_0 rfl
  (jr_rz 55 rfl rfl))))))))))))))))
noncomputable def F_Text_isWord_l27 : Nat → Nat → Nat → Int32 → LH → Option (Int32 × LH)
 | 0, _, _, _, _ => none
 | n + 1, l0, l1, l2, h => F_Text_isWord_c27 (F_Text_isWord_l27 n) l0 l1 l2 h
theorem F_Text_isWord_l27_ok {d : Nat} {q : (Int32 × LH)} (hd : 4 ≤ d) : ∀ (n : Nat) (l0 : Nat) (l1 : Nat) (l2 : Int32) (h : LH), F_Text_isWord_l27 n l0 l1 l2 h = some q → JR d jM_86 27 [.ref l0, .ref l1, .int l2] [] h (jo_i q)
 | 0 => fun _ _ _ _ hq => nomatch (show (none : Option (Int32 × LH)) = some q from hq)
 | n + 1 => fun _ _ _ _ hq => F_Text_isWord_c27_ok hd (F_Text_isWord_l27_ok hd n) hq
noncomputable def F_Text_isWord (l0 : Nat) (l1 : Nat) (h : LH) : Option (Int32 × LH) :=
 jf_gi h l0 7 2 fun v1 =>
 if v1 = 0 then
 jf_gi h l0 7 5 fun v2 =>
 jf_gi h l0 7 6 fun v3 =>
 jf_kd h l1 31
 (jf_bi (F_Str_length l1 h) fun v4 h5 =>
 if (v2 - v3) = v4 then
 F_Text_isWord_l27  jF l0 l1 (0 : Int32) h5
else
 F_Text_isWord_b23  h5)
else
 F_Text_isWord_b23  h
set_option maxRecDepth 100000 in
theorem F_Text_isWord_ok {d : Nat} (hd : 5 ≤ d) {l0 : Nat} {l1 : Nat} {h : LH} {q : (Int32 × LH)} : F_Text_isWord l0 l1 h = some q → jl_Sem jt_T jt_Ms d 86 [.ref l0, .ref l1] h (jo_i q) := by
 unfold F_Text_isWord
 exact jr_enter (D := 4) hd jM_86_at rfl rfl rfl (fun d hd =>
  jr_aloadn 0 1 rfl rfl rfl
  (jr_gi 1 4 rfl jg_7_37_1 rfl (fun v1 =>
  jr_if_ne 4 23 7 rfl rfl rfl
  ((F_Text_isWord_b23_ok hd ))
  (jr_aloadn 7 8 rfl rfl rfl
  (jr_gi 8 11 rfl jg_7_31_1 rfl (fun v2 =>
  jr_aloadn 11 12 rfl rfl rfl
  (jr_gi 12 15 rfl jg_7_34_1 rfl (fun v3 =>
  jr_isub 15 16 rfl rfl
  (jr_aloadn 16 17 rfl rfl rfl
  (jr_cVi 17 20 [.int (v2 - v3)] rfl rfl rfl rfl rfl rfl rfl rfl (as := []) (F_Str_length_ok (Nat.le_trans (by decide : 2 ≤ 4) hd)) (fun v4 h5 =>
  jr_icmp_eq 20 25 23 rfl rfl rfl
  (jr_iconst 25 26 (0 : Int32) rfl jc_i_0 rfl
  (jr_istoren 26 27 [.ref l0, .ref l1, .int (0 : Int32)] rfl rfl rfl rfl
  ((F_Text_isWord_l27_ok hd  jF _ _ _ _))))
  ((F_Text_isWord_b23_ok hd )))))))))))))
noncomputable def jM_32 : JMeth := (4, false, 0, jk_32, [], 2)
set_option maxRecDepth 100000 in
theorem jM_32_at : jt_Ms 32 = some jM_32 := rfl
noncomputable def F_Law_readSense_b153 (h : LH) : Option LH :=
 some h
set_option maxRecDepth 100000 in
theorem F_Law_readSense_b153_ok {d : Nat} {q : LH} (hd : 5 ≤ d) {u0 : Value} {u1 : Value} {h : LH} : F_Law_readSense_b153 h = some q → JR d jM_32 153 [u0, u1] [] h (jo_v q) := by
 unfold F_Law_readSense_b153
 exact jr_rv 153 rfl rfl
noncomputable def F_Law_readSense (l0 : Nat) (l1 : Nat) (h : LH) : Option LH :=
 jf_kd h l1 7
 (jf_bi (F_Text_isWord l1 9 h) fun v1 h2 =>
 if v1 = 0 then
 jf_kd h2 l1 7
 (jf_bi (F_Text_isWord l1 10 h2) fun v3 h4 =>
 if v3 = 0 then
 jf_kd h4 l1 7
 (jf_bi (F_Text_isWord l1 3 h4) fun v5 h6 =>
 if v5 = 0 then
 jf_kd h6 l1 7
 (jf_bi (F_Text_isWord l1 4 h6) fun v7 h8 =>
 if v7 = 0 then
 jf_kd h8 l1 7
 (jf_bi (F_Text_isWord l1 11 h8) fun v9 h10 =>
 if v9 = 0 then
 jf_kd h10 l1 7
 (jf_bi (F_Text_isWord l1 1 h10) fun v11 h12 =>
 if v11 = 0 then
 jf_kd h12 l1 7
 (jf_bi (F_Text_isWord l1 12 h12) fun v13 h14 =>
 if v13 = 0 then
 jf_kd h14 l1 7
 ((F_Text_fail l1 (1 : Int32) h14).bind fun h15 =>
 F_Law_readSense_b153  h15)
else
 jf_kd h14 l0 4
 (jf_bi (F_Law_senseCode l0 (6 : Int32) h14) fun v16 h17 =>
 jf_kd h17 l0 4
 ((F_Law_put l0 v16 h17).bind fun h18 =>
 F_Law_readSense_b153  h18)))
else
 jf_kd h12 l0 4
 (jf_bi (F_Law_senseCode l0 (5 : Int32) h12) fun v19 h20 =>
 jf_kd h20 l0 4
 ((F_Law_put l0 v19 h20).bind fun h21 =>
 F_Law_readSense_b153  h21)))
else
 jf_kd h10 l0 4
 (jf_bi (F_Law_senseCode l0 (4 : Int32) h10) fun v22 h23 =>
 jf_kd h23 l0 4
 ((F_Law_put l0 v22 h23).bind fun h24 =>
 F_Law_readSense_b153  h24)))
else
 jf_kd h8 l0 4
 (jf_bi (F_Law_senseCode l0 (3 : Int32) h8) fun v25 h26 =>
 jf_kd h26 l0 4
 ((F_Law_put l0 v25 h26).bind fun h27 =>
 F_Law_readSense_b153  h27)))
else
 jf_kd h6 l0 4
 (jf_bi (F_Law_senseCode l0 (2 : Int32) h6) fun v28 h29 =>
 jf_kd h29 l0 4
 ((F_Law_put l0 v28 h29).bind fun h30 =>
 F_Law_readSense_b153  h30)))
else
 jf_kd h4 l0 4
 (jf_bi (F_Law_senseCode l0 (1 : Int32) h4) fun v31 h32 =>
 jf_kd h32 l0 4
 ((F_Law_put l0 v31 h32).bind fun h33 =>
 F_Law_readSense_b153  h33)))
else
 jf_kd h2 l0 4
 (jf_bi (F_Law_senseCode l0 (0 : Int32) h2) fun v34 h35 =>
 jf_kd h35 l0 4
 ((F_Law_put l0 v34 h35).bind fun h36 =>
 F_Law_readSense_b153  h36)))
set_option maxRecDepth 100000 in
theorem F_Law_readSense_ok {d : Nat} (hd : 6 ≤ d) {l0 : Nat} {l1 : Nat} {h : LH} {q : LH} : F_Law_readSense l0 l1 h = some q → jl_Sem jt_T jt_Ms d 32 [.ref l0, .ref l1] h (jo_v q) := by
 unfold F_Law_readSense
 exact jr_enter (D := 5) hd jM_32_at rfl rfl rfl (fun d hd =>
  jr_aloadn 0 1 rfl rfl rfl
  (jr_ldcs 1 3 rfl rfl rfl rfl
  (jr_cVi 3 6 [] rfl rfl rfl rfl rfl rfl rfl rfl (as := [.ref 9]) (F_Text_isWord_ok (Nat.le_trans (by decide : 5 ≤ 5) hd)) (fun v1 h2 =>
  jr_if_eq 6 21 9 rfl rfl rfl
  (jr_aloadn 21 22 rfl rfl rfl
  (jr_ldcs 22 24 rfl rfl rfl rfl
  (jr_cVi 24 27 [] rfl rfl rfl rfl rfl rfl rfl rfl (as := [.ref 10]) (F_Text_isWord_ok (Nat.le_trans (by decide : 5 ≤ 5) hd)) (fun v3 h4 =>
  jr_if_eq 27 42 30 rfl rfl rfl
  (jr_aloadn 42 43 rfl rfl rfl
  (jr_ldcs 43 45 rfl rfl rfl rfl
  (jr_cVi 45 48 [] rfl rfl rfl rfl rfl rfl rfl rfl (as := [.ref 3]) (F_Text_isWord_ok (Nat.le_trans (by decide : 5 ≤ 5) hd)) (fun v5 h6 =>
  jr_if_eq 48 63 51 rfl rfl rfl
  (jr_aloadn 63 64 rfl rfl rfl
  (jr_ldcs 64 66 rfl rfl rfl rfl
  (jr_cVi 66 69 [] rfl rfl rfl rfl rfl rfl rfl rfl (as := [.ref 4]) (F_Text_isWord_ok (Nat.le_trans (by decide : 5 ≤ 5) hd)) (fun v7 h8 =>
  jr_if_eq 69 84 72 rfl rfl rfl
  (jr_aloadn 84 85 rfl rfl rfl
  (jr_ldcs 85 87 rfl rfl rfl rfl
  (jr_cVi 87 90 [] rfl rfl rfl rfl rfl rfl rfl rfl (as := [.ref 11]) (F_Text_isWord_ok (Nat.le_trans (by decide : 5 ≤ 5) hd)) (fun v9 h10 =>
  jr_if_eq 90 105 93 rfl rfl rfl
  (jr_aloadn 105 106 rfl rfl rfl
  (jr_ldcs 106 108 rfl rfl rfl rfl
  (jr_cVi 108 111 [] rfl rfl rfl rfl rfl rfl rfl rfl (as := [.ref 1]) (F_Text_isWord_ok (Nat.le_trans (by decide : 5 ≤ 5) hd)) (fun v11 h12 =>
  jr_if_eq 111 126 114 rfl rfl rfl
  (jr_aloadn 126 127 rfl rfl rfl
  (jr_ldcs 127 129 rfl rfl rfl rfl
  (jr_cVi 129 132 [] rfl rfl rfl rfl rfl rfl rfl rfl (as := [.ref 12]) (F_Text_isWord_ok (Nat.le_trans (by decide : 5 ≤ 5) hd)) (fun v13 h14 =>
  jr_if_eq 132 148 135 rfl rfl rfl
  (jr_aloadn 148 149 rfl rfl rfl
  (jr_iconst 149 150 (1 : Int32) rfl jc_i_1 rfl
  (jr_cVv 150 153 [] rfl rfl rfl rfl rfl rfl rfl rfl (as := [.int (1 : Int32)]) (F_Text_fail_ok (Nat.le_trans (by decide : 2 ≤ 5) hd)) (fun h15 =>
  (F_Law_readSense_b153_ok hd )))))
  (jr_aloadn 135 136 rfl rfl rfl
  (jr_aloadn 136 137 rfl rfl rfl
  (jr_bipush 137 139 (6 : Int32) rfl jc_b_6 rfl
  (jr_cVi 139 142 [.ref l0] rfl rfl rfl rfl rfl rfl rfl rfl (as := [.int (6 : Int32)]) (F_Law_senseCode_ok (Nat.le_trans (by decide : 1 ≤ 5) hd)) (fun v16 h17 =>
  jr_cVv 142 145 [] rfl rfl rfl rfl rfl rfl rfl rfl (as := [.int v16]) (F_Law_put_ok (Nat.le_trans (by decide : 1 ≤ 5) hd)) (fun h18 =>
  jr_goto 145 153 rfl rfl
  ((F_Law_readSense_b153_ok hd ))))))))))))
  (jr_aloadn 114 115 rfl rfl rfl
  (jr_aloadn 115 116 rfl rfl rfl
  (jr_iconst 116 117 (5 : Int32) rfl jc_i_5 rfl
  (jr_cVi 117 120 [.ref l0] rfl rfl rfl rfl rfl rfl rfl rfl (as := [.int (5 : Int32)]) (F_Law_senseCode_ok (Nat.le_trans (by decide : 1 ≤ 5) hd)) (fun v19 h20 =>
  jr_cVv 120 123 [] rfl rfl rfl rfl rfl rfl rfl rfl (as := [.int v19]) (F_Law_put_ok (Nat.le_trans (by decide : 1 ≤ 5) hd)) (fun h21 =>
  jr_goto 123 153 rfl rfl
  ((F_Law_readSense_b153_ok hd ))))))))))))
  (jr_aloadn 93 94 rfl rfl rfl
  (jr_aloadn 94 95 rfl rfl rfl
  (jr_iconst 95 96 (4 : Int32) rfl jc_i_4 rfl
  (jr_cVi 96 99 [.ref l0] rfl rfl rfl rfl rfl rfl rfl rfl (as := [.int (4 : Int32)]) (F_Law_senseCode_ok (Nat.le_trans (by decide : 1 ≤ 5) hd)) (fun v22 h23 =>
  jr_cVv 99 102 [] rfl rfl rfl rfl rfl rfl rfl rfl (as := [.int v22]) (F_Law_put_ok (Nat.le_trans (by decide : 1 ≤ 5) hd)) (fun h24 =>
  jr_goto 102 153 rfl rfl
  ((F_Law_readSense_b153_ok hd ))))))))))))
  (jr_aloadn 72 73 rfl rfl rfl
  (jr_aloadn 73 74 rfl rfl rfl
  (jr_iconst 74 75 (3 : Int32) rfl jc_i_3 rfl
  (jr_cVi 75 78 [.ref l0] rfl rfl rfl rfl rfl rfl rfl rfl (as := [.int (3 : Int32)]) (F_Law_senseCode_ok (Nat.le_trans (by decide : 1 ≤ 5) hd)) (fun v25 h26 =>
  jr_cVv 78 81 [] rfl rfl rfl rfl rfl rfl rfl rfl (as := [.int v25]) (F_Law_put_ok (Nat.le_trans (by decide : 1 ≤ 5) hd)) (fun h27 =>
  jr_goto 81 153 rfl rfl
  ((F_Law_readSense_b153_ok hd ))))))))))))
  (jr_aloadn 51 52 rfl rfl rfl
  (jr_aloadn 52 53 rfl rfl rfl
  (jr_iconst 53 54 (2 : Int32) rfl jc_i_2 rfl
  (jr_cVi 54 57 [.ref l0] rfl rfl rfl rfl rfl rfl rfl rfl (as := [.int (2 : Int32)]) (F_Law_senseCode_ok (Nat.le_trans (by decide : 1 ≤ 5) hd)) (fun v28 h29 =>
  jr_cVv 57 60 [] rfl rfl rfl rfl rfl rfl rfl rfl (as := [.int v28]) (F_Law_put_ok (Nat.le_trans (by decide : 1 ≤ 5) hd)) (fun h30 =>
  jr_goto 60 153 rfl rfl
  ((F_Law_readSense_b153_ok hd ))))))))))))
  (jr_aloadn 30 31 rfl rfl rfl
  (jr_aloadn 31 32 rfl rfl rfl
  (jr_iconst 32 33 (1 : Int32) rfl jc_i_1 rfl
  (jr_cVi 33 36 [.ref l0] rfl rfl rfl rfl rfl rfl rfl rfl (as := [.int (1 : Int32)]) (F_Law_senseCode_ok (Nat.le_trans (by decide : 1 ≤ 5) hd)) (fun v31 h32 =>
  jr_cVv 36 39 [] rfl rfl rfl rfl rfl rfl rfl rfl (as := [.int v31]) (F_Law_put_ok (Nat.le_trans (by decide : 1 ≤ 5) hd)) (fun h33 =>
  jr_goto 39 153 rfl rfl
  ((F_Law_readSense_b153_ok hd ))))))))))))
  (jr_aloadn 9 10 rfl rfl rfl
  (jr_aloadn 10 11 rfl rfl rfl
  (jr_iconst 11 12 (0 : Int32) rfl jc_i_0 rfl
  (jr_cVi 12 15 [.ref l0] rfl rfl rfl rfl rfl rfl rfl rfl (as := [.int (0 : Int32)]) (F_Law_senseCode_ok (Nat.le_trans (by decide : 1 ≤ 5) hd)) (fun v34 h35 =>
  jr_cVv 15 18 [] rfl rfl rfl rfl rfl rfl rfl rfl (as := [.int v34]) (F_Law_put_ok (Nat.le_trans (by decide : 1 ≤ 5) hd)) (fun h36 =>
  jr_goto 18 153 rfl rfl
  ((F_Law_readSense_b153_ok hd ))))))))))))
noncomputable def jM_85 : JMeth := (7, false, 0, jk_85, [], 1)
set_option maxRecDepth 100000 in
theorem jM_85_at : jt_Ms 85 = some jM_85 := rfl
noncomputable def F_Text_word_b72 (h : LH) : Option LH :=
 some h
set_option maxRecDepth 100000 in
theorem F_Text_word_b72_ok {d : Nat} {q : LH} (hd : 1 ≤ d) {u0 : Value} {h : LH} : F_Text_word_b72 h = some q → JR d jM_85 72 [u0] [] h (jo_v q) := by
 unfold F_Text_word_b72
 exact jr_rv 72 rfl rfl
noncomputable def F_Text_word_c13 (k13 : Nat → LH → Option LH) (l0 : Nat) (h : LH) : Option LH :=
 jf_gi h l0 7 2 fun v1 =>
 if v1 = 0 then
 jf_gi h l0 7 5 fun v2 =>
 jf_gi h l0 7 4 fun v3 =>
 if v2 < v3 then
 jf_gr h l0 7 0 fun v4 =>
 jf_gi h l0 7 5 fun v5 =>
 jf_ba h v4 v5 fun v6 =>
 if v6 < (97 : Int32) then
 F_Text_word_b72  h
else
 jf_gr h l0 7 0 fun v7 =>
 jf_gi h l0 7 5 fun v8 =>
 jf_ba h v7 v8 fun v9 =>
 if (122 : Int32) < v9 then
 F_Text_word_b72  h
else
 jf_gi h l0 7 5 fun v10 =>
 jf_pi h l0 7 5 (v10 + (1 : Int32)) fun h11 =>
 k13 l0 h11
else
 F_Text_word_b72  h
else
 F_Text_word_b72  h
set_option maxRecDepth 100000 in
theorem F_Text_word_c13_ok {d : Nat} {q : LH} {k13 : Nat → LH → Option LH} (hd : 1 ≤ d) (hk13 : ∀ (l0 : Nat) (h : LH), k13 l0 h = some q → JR d jM_85 13 [.ref l0] [] h (jo_v q)) {l0 : Nat} {h : LH} : F_Text_word_c13 k13 l0 h = some q → JR d jM_85 13 [.ref l0] [] h (jo_v q) := by
 unfold F_Text_word_c13
 exact jr_aloadn 13 14 rfl rfl rfl
  (jr_gi 14 17 rfl jg_7_37_1 rfl (fun v1 =>
  jr_if_ne 17 72 20 rfl rfl rfl
  ((F_Text_word_b72_ok hd ))
  (jr_aloadn 20 21 rfl rfl rfl
  (jr_gi 21 24 rfl jg_7_31_1 rfl (fun v2 =>
  jr_aloadn 24 25 rfl rfl rfl
  (jr_gi 25 28 rfl jg_7_28_1 rfl (fun v3 =>
  jr_icmp_ge 28 72 31 rfl rfl rfl
  ((F_Text_word_b72_ok hd ))
  (jr_aloadn 31 32 rfl rfl rfl
  (jr_gr 32 35 rfl jg_7_9_2 rfl (fun v4 =>
  jr_aloadn 35 36 rfl rfl rfl
  (jr_gi 36 39 rfl jg_7_31_1 rfl (fun v5 =>
  jr_ba 39 40 rfl rfl (fun v6 =>
  jr_bipush 40 42 (97 : Int32) rfl jc_b_97 rfl
  (jr_icmp_lt 42 72 45 rfl rfl rfl
  ((F_Text_word_b72_ok hd ))
  (jr_aloadn 45 46 rfl rfl rfl
  (jr_gr 46 49 rfl jg_7_9_2 rfl (fun v7 =>
  jr_aloadn 49 50 rfl rfl rfl
  (jr_gi 50 53 rfl jg_7_31_1 rfl (fun v8 =>
  jr_ba 53 54 rfl rfl (fun v9 =>
  jr_bipush 54 56 (122 : Int32) rfl jc_b_122 rfl
  (jr_icmp_gt 56 72 59 rfl rfl rfl
  ((F_Text_word_b72_ok hd ))
  (jr_aloadn 59 60 rfl rfl rfl
  (jr_dup 60 61 rfl rfl rfl
  (jr_gi 61 64 rfl jg_7_31_1 rfl (fun v10 =>
  jr_iconst 64 65 (1 : Int32) rfl jc_i_1 rfl
  (jr_iadd 65 66 rfl rfl
  (jr_pi 66 69 rfl jg_7_31_3 rfl (fun h11 =>
  jr_goto 69 13 rfl rfl
  ((hk13 _ _))))))))))))))))))))))))))))))
noncomputable def F_Text_word_l13 : Nat → Nat → LH → Option LH
 | 0, _, _ => none
 | n + 1, l0, h => F_Text_word_c13 (F_Text_word_l13 n) l0 h
theorem F_Text_word_l13_ok {d : Nat} {q : LH} (hd : 1 ≤ d) : ∀ (n : Nat) (l0 : Nat) (h : LH), F_Text_word_l13 n l0 h = some q → JR d jM_85 13 [.ref l0] [] h (jo_v q)
 | 0 => fun _ _ hq => nomatch (show (none : Option LH) = some q from hq)
 | n + 1 => fun _ _ hq => F_Text_word_c13_ok hd (F_Text_word_l13_ok hd n) hq
noncomputable def F_Text_word (l0 : Nat) (h : LH) : Option LH :=
 jf_kd h l0 7
 (jf_bi (F_Text_next l0 h) fun v1 h2 =>
 jf_gi h2 l0 7 5 fun v3 =>
 jf_pi h2 l0 7 6 v3 fun h4 =>
 F_Text_word_l13  jF l0 h4)
set_option maxRecDepth 100000 in
theorem F_Text_word_ok {d : Nat} (hd : 2 ≤ d) {l0 : Nat} {h : LH} {q : LH} : F_Text_word l0 h = some q → jl_Sem jt_T jt_Ms d 85 [.ref l0] h (jo_v q) := by
 unfold F_Text_word
 exact jr_enter (D := 1) hd jM_85_at rfl rfl rfl (fun d hd =>
  jr_aloadn 0 1 rfl rfl rfl
  (jr_cVi 1 4 [] rfl rfl rfl rfl rfl rfl rfl rfl (as := []) (F_Text_next_ok (Nat.le_trans (by decide : 1 ≤ 1) hd)) (fun v1 h2 =>
  jr_pop 4 5 rfl rfl rfl
  (jr_aloadn 5 6 rfl rfl rfl
  (jr_aloadn 6 7 rfl rfl rfl
  (jr_gi 7 10 rfl jg_7_31_1 rfl (fun v3 =>
  jr_pi 10 13 rfl jg_7_34_3 rfl (fun h4 =>
  (F_Text_word_l13_ok hd  jF _ _)))))))))
noncomputable def jM_92 : JMeth := (7, false, 2, jk_92, [], 2)
set_option maxRecDepth 100000 in
theorem jM_92_at : jt_Ms 92 = some jM_92 := rfl
noncomputable def F_Text_isNumberNext_b22 (s0 : Int32) (h : LH) : Option (Int32 × LH) :=
 jf_rz s0 (some (s0, h))
set_option maxRecDepth 100000 in
theorem F_Text_isNumberNext_b22_ok {d : Nat} {q : (Int32 × LH)} (hd : 1 ≤ d) {s0 : Int32} {u0 : Value} {u1 : Value} {h : LH} : F_Text_isNumberNext_b22 s0 h = some q → JR d jM_92 22 [u0, u1] [.int s0] h (jo_i q) := by
 unfold F_Text_isNumberNext_b22
 exact jr_rz 22 rfl rfl
noncomputable def F_Text_isNumberNext_b21 (h : LH) : Option (Int32 × LH) :=
 F_Text_isNumberNext_b22  (0 : Int32) h
set_option maxRecDepth 100000 in
theorem F_Text_isNumberNext_b21_ok {d : Nat} {q : (Int32 × LH)} (hd : 1 ≤ d) {u0 : Value} {u1 : Value} {h : LH} : F_Text_isNumberNext_b21 h = some q → JR d jM_92 21 [u0, u1] [] h (jo_i q) := by
 unfold F_Text_isNumberNext_b21
 exact jr_iconst 21 22 (0 : Int32) rfl jc_i_0 rfl
  ((F_Text_isNumberNext_b22_ok hd ))
noncomputable def F_Text_isNumberNext (l0 : Nat) (h : LH) : Option (Int32 × LH) :=
 jf_kd h l0 7
 (jf_bi (F_Text_next l0 h) fun v1 h2 =>
 if v1 < (48 : Int32) then
 F_Text_isNumberNext_b21  h2
else
 if (57 : Int32) < v1 then
 F_Text_isNumberNext_b21  h2
else
 F_Text_isNumberNext_b22  (1 : Int32) h2)
set_option maxRecDepth 100000 in
theorem F_Text_isNumberNext_ok {d : Nat} (hd : 2 ≤ d) {l0 : Nat} {h : LH} {q : (Int32 × LH)} : F_Text_isNumberNext l0 h = some q → jl_Sem jt_T jt_Ms d 92 [.ref l0] h (jo_i q) := by
 unfold F_Text_isNumberNext
 exact jr_enter (D := 1) hd jM_92_at rfl rfl rfl (fun d hd =>
  jr_aloadn 0 1 rfl rfl rfl
  (jr_cVi 1 4 [] rfl rfl rfl rfl rfl rfl rfl rfl (as := []) (F_Text_next_ok (Nat.le_trans (by decide : 1 ≤ 1) hd)) (fun v1 h2 =>
  jr_istoren 4 5 [.ref l0, .int v1] rfl rfl rfl rfl
  (jr_iloadn 5 6 rfl rfl rfl
  (jr_bipush 6 8 (48 : Int32) rfl jc_b_48 rfl
  (jr_icmp_lt 8 21 11 rfl rfl rfl
  ((F_Text_isNumberNext_b21_ok hd ))
  (jr_iloadn 11 12 rfl rfl rfl
  (jr_bipush 12 14 (57 : Int32) rfl jc_b_57 rfl
  (jr_icmp_gt 14 21 17 rfl rfl rfl
  ((F_Text_isNumberNext_b21_ok hd ))
  (jr_iconst 17 18 (1 : Int32) rfl jc_i_1 rfl
  (jr_goto 18 22 rfl rfl
  ((F_Text_isNumberNext_b22_ok hd )))))))))))))
noncomputable def jM_29 : JMeth := (4, false, 0, jk_29, [], 3)
set_option maxRecDepth 100000 in
theorem jM_29_at : jt_Ms 29 = some jM_29 := rfl
noncomputable def F_Law_readUnit_b89 (R : Nat → Nat → Int32 → LH → Option LH) (h : LH) : Option LH :=
 some h
set_option maxRecDepth 100000 in
theorem F_Law_readUnit_b89_ok {d : Nat} {rd : Nat} {R : Nat → Nat → Int32 → LH → Option LH} {q : LH} (hd : 6 + rd ≤ d) (hRR : ∀ d : Nat, rd ≤ d → ∀ (r0 : Nat) (r1 : Nat) (r2 : Int32) (hh : LH) (qq : LH), R r0 r1 r2 hh = some qq → jl_Sem jt_T jt_Ms d 27 [.ref r0, .ref r1, .int r2] hh (jo_v qq)) (hR : ∀ (r0 : Nat) (r1 : Nat) (r2 : Int32) (hh : LH) (qq : LH), R r0 r1 r2 hh = some qq → jl_Sem jt_T jt_Ms d 27 [.ref r0, .ref r1, .int r2] hh (jo_v qq)) {u0 : Value} {u1 : Value} {u2 : Value} {h : LH} : F_Law_readUnit_b89 R h = some q → JR d jM_29 89 [u0, u1, u2] [] h (jo_v q) := by
 unfold F_Law_readUnit_b89
 exact jr_rv 89 rfl rfl
noncomputable def F_Law_readUnit (R : Nat → Nat → Int32 → LH → Option LH) (l0 : Nat) (l1 : Nat) (l2 : Int32) (h : LH) : Option LH :=
 jf_kd h l1 7
 (jf_bi (F_Text_isNumberNext l1 h) fun v1 h2 =>
 if v1 = 0 then
 jf_kd h2 l1 7
 (jf_bi (F_Text_next l1 h2) fun v3 h4 =>
 if v3 = (40 : Int32) then
 jf_kd h4 l0 4
 ((F_Law_readBrackets R l0 l1 l2 h4).bind fun h13 =>
 F_Law_readUnit_b89 R  h13)
else
 jf_kd h4 l1 7
 ((F_Text_word l1 h4).bind fun h5 =>
 jf_kd h5 l1 7
 (jf_bi (F_Text_isWord l1 7 h5) fun v6 h7 =>
 if v6 = 0 then
 jf_kd h7 l1 7
 (jf_bi (F_Text_isWord l1 8 h7) fun v8 h9 =>
 if v8 = 0 then
 jf_kd h9 l0 4
 ((F_Law_readSense l0 l1 h9).bind fun h10 =>
 F_Law_readUnit_b89 R  h10)
else
 jf_kd h9 l0 4
 ((F_Law_readPair R l0 l1 l2 (-16 : Int32) h9).bind fun h11 =>
 F_Law_readUnit_b89 R  h11))
else
 jf_kd h7 l0 4
 ((F_Law_readPair R l0 l1 l2 (-15 : Int32) h7).bind fun h12 =>
 F_Law_readUnit_b89 R  h12))))
else
 jf_kd h2 l1 7
 (jf_bi (F_Text_number l1 (0 : Int32) (999 : Int32) h2) fun v14 h15 =>
 jf_kd h15 l0 4
 ((F_Law_put l0 v14 h15).bind fun h16 =>
 F_Law_readUnit_b89 R  h16)))
set_option maxRecDepth 100000 in
theorem F_Law_readUnit_ok {d : Nat} {rd : Nat} {R : Nat → Nat → Int32 → LH → Option LH} (hd : 7 + rd ≤ d) (hRR : ∀ d : Nat, rd ≤ d → ∀ (r0 : Nat) (r1 : Nat) (r2 : Int32) (hh : LH) (qq : LH), R r0 r1 r2 hh = some qq → jl_Sem jt_T jt_Ms d 27 [.ref r0, .ref r1, .int r2] hh (jo_v qq)) {l0 : Nat} {l1 : Nat} {l2 : Int32} {h : LH} {q : LH} : F_Law_readUnit R l0 l1 l2 h = some q → jl_Sem jt_T jt_Ms d 29 [.ref l0, .ref l1, .int l2] h (jo_v q) := by
 unfold F_Law_readUnit
 exact jr_enter (D := 6 + rd) (Nat.le_trans (Nat.le_of_eq (by omega)) hd) jM_29_at rfl rfl rfl (fun d hd =>
  have hR := hRR d (Nat.le_trans (Nat.le_add_left rd _) hd)
  jr_aloadn 0 1 rfl rfl rfl
  (jr_cVi 1 4 [] rfl rfl rfl rfl rfl rfl rfl rfl (as := []) (F_Text_isNumberNext_ok (Nat.le_trans (by decide : 2 ≤ 6) (Nat.le_trans (Nat.le_add_right _ rd) hd))) (fun v1 h2 =>
  jr_if_eq 4 22 7 rfl rfl rfl
  (jr_aloadn 22 23 rfl rfl rfl
  (jr_cVi 23 26 [] rfl rfl rfl rfl rfl rfl rfl rfl (as := []) (F_Text_next_ok (Nat.le_trans (by decide : 1 ≤ 6) (Nat.le_trans (Nat.le_add_right _ rd) hd))) (fun v3 h4 =>
  jr_bipush 26 28 (40 : Int32) rfl jc_b_40 rfl
  (jr_icmp_ne 28 40 31 rfl rfl rfl
  (jr_aloadn 40 41 rfl rfl rfl
  (jr_cVv 41 44 [] rfl rfl rfl rfl rfl rfl rfl rfl (as := []) (F_Text_word_ok (Nat.le_trans (by decide : 2 ≤ 6) (Nat.le_trans (Nat.le_add_right _ rd) hd))) (fun h5 =>
  jr_aloadn 44 45 rfl rfl rfl
  (jr_ldcs 45 47 rfl rfl rfl rfl
  (jr_cVi 47 50 [] rfl rfl rfl rfl rfl rfl rfl rfl (as := [.ref 7]) (F_Text_isWord_ok (Nat.le_trans (by decide : 5 ≤ 6) (Nat.le_trans (Nat.le_add_right _ rd) hd))) (fun v6 h7 =>
  jr_if_eq 50 64 53 rfl rfl rfl
  (jr_aloadn 64 65 rfl rfl rfl
  (jr_ldcs 65 67 rfl rfl rfl rfl
  (jr_cVi 67 70 [] rfl rfl rfl rfl rfl rfl rfl rfl (as := [.ref 8]) (F_Text_isWord_ok (Nat.le_trans (by decide : 5 ≤ 6) (Nat.le_trans (Nat.le_add_right _ rd) hd))) (fun v8 h9 =>
  jr_if_eq 70 84 73 rfl rfl rfl
  (jr_aloadn 84 85 rfl rfl rfl
  (jr_aloadn 85 86 rfl rfl rfl
  (jr_cVv 86 89 [] rfl rfl rfl rfl rfl rfl rfl rfl (as := [.ref l1]) (F_Law_readSense_ok (Nat.le_trans (by decide : 6 ≤ 6) (Nat.le_trans (Nat.le_add_right _ rd) hd))) (fun h10 =>
  (F_Law_readUnit_b89_ok hd hRR hR )))))
  (jr_aloadn 73 74 rfl rfl rfl
  (jr_aloadn 74 75 rfl rfl rfl
  (jr_iloadn 75 76 rfl rfl rfl
  (jr_bipush 76 78 (-16 : Int32) rfl jc_b_m16 rfl
  (jr_cVv 78 81 [] rfl rfl rfl rfl rfl rfl rfl rfl (as := [.ref l1, .int l2, .int (-16 : Int32)]) (F_Law_readPair_ok (rd := rd) (Nat.le_trans (Nat.add_le_add_right (by decide : 3 ≤ 6) rd) hd) hRR) (fun h11 =>
  jr_goto 81 89 rfl rfl
  ((F_Law_readUnit_b89_ok hd hRR hR ))))))))))))
  (jr_aloadn 53 54 rfl rfl rfl
  (jr_aloadn 54 55 rfl rfl rfl
  (jr_iloadn 55 56 rfl rfl rfl
  (jr_bipush 56 58 (-15 : Int32) rfl jc_b_m15 rfl
  (jr_cVv 58 61 [] rfl rfl rfl rfl rfl rfl rfl rfl (as := [.ref l1, .int l2, .int (-15 : Int32)]) (F_Law_readPair_ok (rd := rd) (Nat.le_trans (Nat.add_le_add_right (by decide : 3 ≤ 6) rd) hd) hRR) (fun h12 =>
  jr_goto 61 89 rfl rfl
  ((F_Law_readUnit_b89_ok hd hRR hR ))))))))))))))
  (jr_aloadn 31 32 rfl rfl rfl
  (jr_aloadn 32 33 rfl rfl rfl
  (jr_iloadn 33 34 rfl rfl rfl
  (jr_cVv 34 37 [] rfl rfl rfl rfl rfl rfl rfl rfl (as := [.ref l1, .int l2]) (F_Law_readBrackets_ok (rd := rd) (Nat.le_trans (Nat.add_le_add_right (by decide : 3 ≤ 6) rd) hd) hRR) (fun h13 =>
  jr_goto 37 89 rfl rfl
  ((F_Law_readUnit_b89_ok hd hRR hR )))))))))))
  (jr_aloadn 7 8 rfl rfl rfl
  (jr_aloadn 8 9 rfl rfl rfl
  (jr_iconst 9 10 (0 : Int32) rfl jc_i_0 rfl
  (jr_sipush 10 13 (999 : Int32) rfl jc_s_999 rfl
  (jr_cVi 13 16 [.ref l0] rfl rfl rfl rfl rfl rfl rfl rfl (as := [.int (0 : Int32), .int (999 : Int32)]) (F_Text_number_ok (Nat.le_trans (by decide : 3 ≤ 6) (Nat.le_trans (Nat.le_add_right _ rd) hd))) (fun v14 h15 =>
  jr_cVv 16 19 [] rfl rfl rfl rfl rfl rfl rfl rfl (as := [.int v14]) (F_Law_put_ok (Nat.le_trans (by decide : 1 ≤ 6) (Nat.le_trans (Nat.le_add_right _ rd) hd))) (fun h16 =>
  jr_goto 19 89 rfl rfl
  ((F_Law_readUnit_b89_ok hd hRR hR ))))))))))))
noncomputable def jM_94 : JMeth := (7, false, 2, jk_94, [], 2)
set_option maxRecDepth 100000 in
theorem jM_94_at : jt_Ms 94 = some jM_94 := rfl
noncomputable def F_Text_take (l0 : Nat) (l1 : Int32) (h : LH) : Option (Int32 × LH) :=
 jf_kd h l0 7
 (jf_bi (F_Text_next l0 h) fun v1 h2 =>
 if v1 = l1 then
 jf_gi h2 l0 7 5 fun v3 =>
 jf_pi h2 l0 7 5 (v3 + (1 : Int32)) fun h4 =>
 jf_rz (1 : Int32) (some ((1 : Int32), h4))
else
 jf_rz (0 : Int32) (some ((0 : Int32), h2)))
set_option maxRecDepth 100000 in
theorem F_Text_take_ok {d : Nat} (hd : 2 ≤ d) {l0 : Nat} {l1 : Int32} {h : LH} {q : (Int32 × LH)} : F_Text_take l0 l1 h = some q → jl_Sem jt_T jt_Ms d 94 [.ref l0, .int l1] h (jo_i q) := by
 unfold F_Text_take
 exact jr_enter (D := 1) hd jM_94_at rfl rfl rfl (fun d hd =>
  jr_aloadn 0 1 rfl rfl rfl
  (jr_cVi 1 4 [] rfl rfl rfl rfl rfl rfl rfl rfl (as := []) (F_Text_next_ok (Nat.le_trans (by decide : 1 ≤ 1) hd)) (fun v1 h2 =>
  jr_iloadn 4 5 rfl rfl rfl
  (jr_icmp_eq 5 10 8 rfl rfl rfl
  (jr_aloadn 10 11 rfl rfl rfl
  (jr_dup 11 12 rfl rfl rfl
  (jr_gi 12 15 rfl jg_7_31_1 rfl (fun v3 =>
  jr_iconst 15 16 (1 : Int32) rfl jc_i_1 rfl
  (jr_iadd 16 17 rfl rfl
  (jr_pi 17 20 rfl jg_7_31_3 rfl (fun h4 =>
  jr_iconst 20 21 (1 : Int32) rfl jc_i_1 rfl
  (jr_rz 21 rfl rfl))))))))
  (jr_iconst 8 9 (0 : Int32) rfl jc_i_0 rfl
  (jr_rz 9 rfl rfl))))))
noncomputable def jM_28 : JMeth := (4, false, 0, jk_28, [], 4)
set_option maxRecDepth 100000 in
theorem jM_28_at : jt_Ms 28 = some jM_28 := rfl
noncomputable def F_Law_readProduct_b64 (R : Nat → Nat → Int32 → LH → Option LH) (k8 : Nat → Nat → Int32 → Int32 → LH → Option LH) (l0 : Nat) (l1 : Nat) (l2 : Int32) (l3 : Int32) (h : LH) : Option LH :=
 k8 l0 l1 l2 (l3 + (1 : Int32)) h
set_option maxRecDepth 100000 in
theorem F_Law_readProduct_b64_ok {d : Nat} {rd : Nat} {R : Nat → Nat → Int32 → LH → Option LH} {q : LH} {k8 : Nat → Nat → Int32 → Int32 → LH → Option LH} (hd : 7 + rd ≤ d) (hRR : ∀ d : Nat, rd ≤ d → ∀ (r0 : Nat) (r1 : Nat) (r2 : Int32) (hh : LH) (qq : LH), R r0 r1 r2 hh = some qq → jl_Sem jt_T jt_Ms d 27 [.ref r0, .ref r1, .int r2] hh (jo_v qq)) (hR : ∀ (r0 : Nat) (r1 : Nat) (r2 : Int32) (hh : LH) (qq : LH), R r0 r1 r2 hh = some qq → jl_Sem jt_T jt_Ms d 27 [.ref r0, .ref r1, .int r2] hh (jo_v qq)) (hk8 : ∀ (l0 : Nat) (l1 : Nat) (l2 : Int32) (l3 : Int32) (h : LH), k8 l0 l1 l2 l3 h = some q → JR d jM_28 8 [.ref l0, .ref l1, .int l2, .int l3] [] h (jo_v q)) {l0 : Nat} {l1 : Nat} {l2 : Int32} {l3 : Int32} {h : LH} : F_Law_readProduct_b64 R k8 l0 l1 l2 l3 h = some q → JR d jM_28 64 [.ref l0, .ref l1, .int l2, .int l3] [] h (jo_v q) := by
 unfold F_Law_readProduct_b64
 exact jr_iinc 64 67 [.ref l0, .ref l1, .int l2, .int (l3 + (1 : Int32))] rfl jc_i_1 rfl rfl rfl rfl
  (jr_goto 67 8 rfl rfl
  ((hk8 _ _ _ _ _)))
noncomputable def F_Law_readProduct_c8 (R : Nat → Nat → Int32 → LH → Option LH) (k8 : Nat → Nat → Int32 → Int32 → LH → Option LH) (l0 : Nat) (l1 : Nat) (l2 : Int32) (l3 : Int32) (h : LH) : Option LH :=
 if l3 < (150 : Int32) then
 jf_kd h l1 7
 (jf_bi (F_Text_take l1 (42 : Int32) h) fun v1 h2 =>
 if v1 = 0 then
 jf_kd h2 l1 7
 (jf_bi (F_Text_take l1 (47 : Int32) h2) fun v3 h4 =>
 if v3 = 0 then
 some h4
else
 jf_kd h4 l0 4
 ((F_Law_readUnit R l0 l1 l2 h4).bind fun h5 =>
 jf_kd h5 l0 4
 ((F_Law_put l0 (-14 : Int32) h5).bind fun h6 =>
 F_Law_readProduct_b64 R k8 l0 l1 l2 l3 h6)))
else
 jf_kd h2 l0 4
 ((F_Law_readUnit R l0 l1 l2 h2).bind fun h7 =>
 jf_kd h7 l0 4
 ((F_Law_put l0 (-13 : Int32) h7).bind fun h8 =>
 F_Law_readProduct_b64 R k8 l0 l1 l2 l3 h8)))
else
 some h
set_option maxRecDepth 100000 in
theorem F_Law_readProduct_c8_ok {d : Nat} {rd : Nat} {R : Nat → Nat → Int32 → LH → Option LH} {q : LH} {k8 : Nat → Nat → Int32 → Int32 → LH → Option LH} (hd : 7 + rd ≤ d) (hRR : ∀ d : Nat, rd ≤ d → ∀ (r0 : Nat) (r1 : Nat) (r2 : Int32) (hh : LH) (qq : LH), R r0 r1 r2 hh = some qq → jl_Sem jt_T jt_Ms d 27 [.ref r0, .ref r1, .int r2] hh (jo_v qq)) (hR : ∀ (r0 : Nat) (r1 : Nat) (r2 : Int32) (hh : LH) (qq : LH), R r0 r1 r2 hh = some qq → jl_Sem jt_T jt_Ms d 27 [.ref r0, .ref r1, .int r2] hh (jo_v qq)) (hk8 : ∀ (l0 : Nat) (l1 : Nat) (l2 : Int32) (l3 : Int32) (h : LH), k8 l0 l1 l2 l3 h = some q → JR d jM_28 8 [.ref l0, .ref l1, .int l2, .int l3] [] h (jo_v q)) {l0 : Nat} {l1 : Nat} {l2 : Int32} {l3 : Int32} {h : LH} : F_Law_readProduct_c8 R k8 l0 l1 l2 l3 h = some q → JR d jM_28 8 [.ref l0, .ref l1, .int l2, .int l3] [] h (jo_v q) := by
 unfold F_Law_readProduct_c8
 exact jr_iloadn 8 9 rfl rfl rfl
  (jr_sipush 9 12 (150 : Int32) rfl jc_s_150 rfl
  (jr_icmp_ge 12 70 15 rfl rfl rfl
  (jr_rv 70 rfl rfl)
  (jr_aloadn 15 16 rfl rfl rfl
  (jr_bipush 16 18 (42 : Int32) rfl jc_b_42 rfl
  (jr_cVi 18 21 [] rfl rfl rfl rfl rfl rfl rfl rfl (as := [.int (42 : Int32)]) (F_Text_take_ok (Nat.le_trans (by decide : 2 ≤ 7) (Nat.le_trans (Nat.le_add_right _ rd) hd))) (fun v1 h2 =>
  jr_if_eq 21 39 24 rfl rfl rfl
  (jr_aloadn 39 40 rfl rfl rfl
  (jr_bipush 40 42 (47 : Int32) rfl jc_b_47 rfl
  (jr_cVi 42 45 [] rfl rfl rfl rfl rfl rfl rfl rfl (as := [.int (47 : Int32)]) (F_Text_take_ok (Nat.le_trans (by decide : 2 ≤ 7) (Nat.le_trans (Nat.le_add_right _ rd) hd))) (fun v3 h4 =>
  jr_if_eq 45 63 48 rfl rfl rfl
  (jr_rv 63 rfl rfl)
  (jr_aloadn 48 49 rfl rfl rfl
  (jr_aloadn 49 50 rfl rfl rfl
  (jr_iloadn 50 51 rfl rfl rfl
  (jr_cVv 51 54 [] rfl rfl rfl rfl rfl rfl rfl rfl (as := [.ref l1, .int l2]) (F_Law_readUnit_ok (rd := rd) (Nat.le_trans (Nat.add_le_add_right (by decide : 7 ≤ 7) rd) hd) hRR) (fun h5 =>
  jr_aloadn 54 55 rfl rfl rfl
  (jr_bipush 55 57 (-14 : Int32) rfl jc_b_m14 rfl
  (jr_cVv 57 60 [] rfl rfl rfl rfl rfl rfl rfl rfl (as := [.int (-14 : Int32)]) (F_Law_put_ok (Nat.le_trans (by decide : 1 ≤ 7) (Nat.le_trans (Nat.le_add_right _ rd) hd))) (fun h6 =>
  jr_goto 60 64 rfl rfl
  ((F_Law_readProduct_b64_ok hd hRR hR hk8))))))))))))))
  (jr_aloadn 24 25 rfl rfl rfl
  (jr_aloadn 25 26 rfl rfl rfl
  (jr_iloadn 26 27 rfl rfl rfl
  (jr_cVv 27 30 [] rfl rfl rfl rfl rfl rfl rfl rfl (as := [.ref l1, .int l2]) (F_Law_readUnit_ok (rd := rd) (Nat.le_trans (Nat.add_le_add_right (by decide : 7 ≤ 7) rd) hd) hRR) (fun h7 =>
  jr_aloadn 30 31 rfl rfl rfl
  (jr_bipush 31 33 (-13 : Int32) rfl jc_b_m13 rfl
  (jr_cVv 33 36 [] rfl rfl rfl rfl rfl rfl rfl rfl (as := [.int (-13 : Int32)]) (F_Law_put_ok (Nat.le_trans (by decide : 1 ≤ 7) (Nat.le_trans (Nat.le_add_right _ rd) hd))) (fun h8 =>
  jr_goto 36 64 rfl rfl
  ((F_Law_readProduct_b64_ok hd hRR hR hk8))))))))))))))))
noncomputable def F_Law_readProduct_l8 (R : Nat → Nat → Int32 → LH → Option LH) : Nat → Nat → Nat → Int32 → Int32 → LH → Option LH
 | 0, _, _, _, _, _ => none
 | n + 1, l0, l1, l2, l3, h => F_Law_readProduct_c8 R (F_Law_readProduct_l8 R n) l0 l1 l2 l3 h
theorem F_Law_readProduct_l8_ok {d : Nat} {rd : Nat} {R : Nat → Nat → Int32 → LH → Option LH} {q : LH} (hd : 7 + rd ≤ d) (hRR : ∀ d : Nat, rd ≤ d → ∀ (r0 : Nat) (r1 : Nat) (r2 : Int32) (hh : LH) (qq : LH), R r0 r1 r2 hh = some qq → jl_Sem jt_T jt_Ms d 27 [.ref r0, .ref r1, .int r2] hh (jo_v qq)) (hR : ∀ (r0 : Nat) (r1 : Nat) (r2 : Int32) (hh : LH) (qq : LH), R r0 r1 r2 hh = some qq → jl_Sem jt_T jt_Ms d 27 [.ref r0, .ref r1, .int r2] hh (jo_v qq)) : ∀ (n : Nat) (l0 : Nat) (l1 : Nat) (l2 : Int32) (l3 : Int32) (h : LH), F_Law_readProduct_l8 R n l0 l1 l2 l3 h = some q → JR d jM_28 8 [.ref l0, .ref l1, .int l2, .int l3] [] h (jo_v q)
 | 0 => fun _ _ _ _ _ hq => nomatch (show (none : Option LH) = some q from hq)
 | n + 1 => fun _ _ _ _ _ hq => F_Law_readProduct_c8_ok hd hRR hR (F_Law_readProduct_l8_ok hd hRR hR n) hq
noncomputable def F_Law_readProduct (R : Nat → Nat → Int32 → LH → Option LH) (l0 : Nat) (l1 : Nat) (l2 : Int32) (h : LH) : Option LH :=
 jf_kd h l0 4
 ((F_Law_readUnit R l0 l1 l2 h).bind fun h1 =>
 F_Law_readProduct_l8 R  jF l0 l1 l2 (0 : Int32) h1)
set_option maxRecDepth 100000 in
theorem F_Law_readProduct_ok {d : Nat} {rd : Nat} {R : Nat → Nat → Int32 → LH → Option LH} (hd : 8 + rd ≤ d) (hRR : ∀ d : Nat, rd ≤ d → ∀ (r0 : Nat) (r1 : Nat) (r2 : Int32) (hh : LH) (qq : LH), R r0 r1 r2 hh = some qq → jl_Sem jt_T jt_Ms d 27 [.ref r0, .ref r1, .int r2] hh (jo_v qq)) {l0 : Nat} {l1 : Nat} {l2 : Int32} {h : LH} {q : LH} : F_Law_readProduct R l0 l1 l2 h = some q → jl_Sem jt_T jt_Ms d 28 [.ref l0, .ref l1, .int l2] h (jo_v q) := by
 unfold F_Law_readProduct
 exact jr_enter (D := 7 + rd) (Nat.le_trans (Nat.le_of_eq (by omega)) hd) jM_28_at rfl rfl rfl (fun d hd =>
  have hR := hRR d (Nat.le_trans (Nat.le_add_left rd _) hd)
  jr_aloadn 0 1 rfl rfl rfl
  (jr_aloadn 1 2 rfl rfl rfl
  (jr_iloadn 2 3 rfl rfl rfl
  (jr_cVv 3 6 [] rfl rfl rfl rfl rfl rfl rfl rfl (as := [.ref l1, .int l2]) (F_Law_readUnit_ok (rd := rd) (Nat.le_trans (Nat.add_le_add_right (by decide : 7 ≤ 7) rd) hd) hRR) (fun h1 =>
  jr_iconst 6 7 (0 : Int32) rfl jc_i_0 rfl
  (jr_istoren 7 8 [.ref l0, .ref l1, .int l2, .int (0 : Int32)] rfl rfl rfl rfl
  ((F_Law_readProduct_l8_ok hd hRR hR  jF _ _ _ _ _))))))))
noncomputable def jM_27 : JMeth := (4, false, 0, jk_27, [], 4)
set_option maxRecDepth 100000 in
theorem jM_27_at : jt_Ms 27 = some jM_27 := rfl
noncomputable def F_Law_readSum_b64 (R : Nat → Nat → Int32 → LH → Option LH) (k8 : Nat → Nat → Int32 → Int32 → LH → Option LH) (l0 : Nat) (l1 : Nat) (l2 : Int32) (l3 : Int32) (h : LH) : Option LH :=
 k8 l0 l1 l2 (l3 + (1 : Int32)) h
set_option maxRecDepth 100000 in
theorem F_Law_readSum_b64_ok {d : Nat} {rd : Nat} {R : Nat → Nat → Int32 → LH → Option LH} {q : LH} {k8 : Nat → Nat → Int32 → Int32 → LH → Option LH} (hd : 8 + rd ≤ d) (hRR : ∀ d : Nat, rd ≤ d → ∀ (r0 : Nat) (r1 : Nat) (r2 : Int32) (hh : LH) (qq : LH), R r0 r1 r2 hh = some qq → jl_Sem jt_T jt_Ms d 27 [.ref r0, .ref r1, .int r2] hh (jo_v qq)) (hR : ∀ (r0 : Nat) (r1 : Nat) (r2 : Int32) (hh : LH) (qq : LH), R r0 r1 r2 hh = some qq → jl_Sem jt_T jt_Ms d 27 [.ref r0, .ref r1, .int r2] hh (jo_v qq)) (hk8 : ∀ (l0 : Nat) (l1 : Nat) (l2 : Int32) (l3 : Int32) (h : LH), k8 l0 l1 l2 l3 h = some q → JR d jM_27 8 [.ref l0, .ref l1, .int l2, .int l3] [] h (jo_v q)) {l0 : Nat} {l1 : Nat} {l2 : Int32} {l3 : Int32} {h : LH} : F_Law_readSum_b64 R k8 l0 l1 l2 l3 h = some q → JR d jM_27 64 [.ref l0, .ref l1, .int l2, .int l3] [] h (jo_v q) := by
 unfold F_Law_readSum_b64
 exact jr_iinc 64 67 [.ref l0, .ref l1, .int l2, .int (l3 + (1 : Int32))] rfl jc_i_1 rfl rfl rfl rfl
  (jr_goto 67 8 rfl rfl
  ((hk8 _ _ _ _ _)))
noncomputable def F_Law_readSum_c8 (R : Nat → Nat → Int32 → LH → Option LH) (k8 : Nat → Nat → Int32 → Int32 → LH → Option LH) (l0 : Nat) (l1 : Nat) (l2 : Int32) (l3 : Int32) (h : LH) : Option LH :=
 if l3 < (150 : Int32) then
 jf_kd h l1 7
 (jf_bi (F_Text_take l1 (43 : Int32) h) fun v1 h2 =>
 if v1 = 0 then
 jf_kd h2 l1 7
 (jf_bi (F_Text_take l1 (45 : Int32) h2) fun v3 h4 =>
 if v3 = 0 then
 some h4
else
 jf_kd h4 l0 4
 ((F_Law_readProduct R l0 l1 l2 h4).bind fun h5 =>
 jf_kd h5 l0 4
 ((F_Law_put l0 (-12 : Int32) h5).bind fun h6 =>
 F_Law_readSum_b64 R k8 l0 l1 l2 l3 h6)))
else
 jf_kd h2 l0 4
 ((F_Law_readProduct R l0 l1 l2 h2).bind fun h7 =>
 jf_kd h7 l0 4
 ((F_Law_put l0 (-11 : Int32) h7).bind fun h8 =>
 F_Law_readSum_b64 R k8 l0 l1 l2 l3 h8)))
else
 some h
set_option maxRecDepth 100000 in
theorem F_Law_readSum_c8_ok {d : Nat} {rd : Nat} {R : Nat → Nat → Int32 → LH → Option LH} {q : LH} {k8 : Nat → Nat → Int32 → Int32 → LH → Option LH} (hd : 8 + rd ≤ d) (hRR : ∀ d : Nat, rd ≤ d → ∀ (r0 : Nat) (r1 : Nat) (r2 : Int32) (hh : LH) (qq : LH), R r0 r1 r2 hh = some qq → jl_Sem jt_T jt_Ms d 27 [.ref r0, .ref r1, .int r2] hh (jo_v qq)) (hR : ∀ (r0 : Nat) (r1 : Nat) (r2 : Int32) (hh : LH) (qq : LH), R r0 r1 r2 hh = some qq → jl_Sem jt_T jt_Ms d 27 [.ref r0, .ref r1, .int r2] hh (jo_v qq)) (hk8 : ∀ (l0 : Nat) (l1 : Nat) (l2 : Int32) (l3 : Int32) (h : LH), k8 l0 l1 l2 l3 h = some q → JR d jM_27 8 [.ref l0, .ref l1, .int l2, .int l3] [] h (jo_v q)) {l0 : Nat} {l1 : Nat} {l2 : Int32} {l3 : Int32} {h : LH} : F_Law_readSum_c8 R k8 l0 l1 l2 l3 h = some q → JR d jM_27 8 [.ref l0, .ref l1, .int l2, .int l3] [] h (jo_v q) := by
 unfold F_Law_readSum_c8
 exact jr_iloadn 8 9 rfl rfl rfl
  (jr_sipush 9 12 (150 : Int32) rfl jc_s_150 rfl
  (jr_icmp_ge 12 70 15 rfl rfl rfl
  (jr_rv 70 rfl rfl)
  (jr_aloadn 15 16 rfl rfl rfl
  (jr_bipush 16 18 (43 : Int32) rfl jc_b_43 rfl
  (jr_cVi 18 21 [] rfl rfl rfl rfl rfl rfl rfl rfl (as := [.int (43 : Int32)]) (F_Text_take_ok (Nat.le_trans (by decide : 2 ≤ 8) (Nat.le_trans (Nat.le_add_right _ rd) hd))) (fun v1 h2 =>
  jr_if_eq 21 39 24 rfl rfl rfl
  (jr_aloadn 39 40 rfl rfl rfl
  (jr_bipush 40 42 (45 : Int32) rfl jc_b_45 rfl
  (jr_cVi 42 45 [] rfl rfl rfl rfl rfl rfl rfl rfl (as := [.int (45 : Int32)]) (F_Text_take_ok (Nat.le_trans (by decide : 2 ≤ 8) (Nat.le_trans (Nat.le_add_right _ rd) hd))) (fun v3 h4 =>
  jr_if_eq 45 63 48 rfl rfl rfl
  (jr_rv 63 rfl rfl)
  (jr_aloadn 48 49 rfl rfl rfl
  (jr_aloadn 49 50 rfl rfl rfl
  (jr_iloadn 50 51 rfl rfl rfl
  (jr_cVv 51 54 [] rfl rfl rfl rfl rfl rfl rfl rfl (as := [.ref l1, .int l2]) (F_Law_readProduct_ok (rd := rd) (Nat.le_trans (Nat.add_le_add_right (by decide : 8 ≤ 8) rd) hd) hRR) (fun h5 =>
  jr_aloadn 54 55 rfl rfl rfl
  (jr_bipush 55 57 (-12 : Int32) rfl jc_b_m12 rfl
  (jr_cVv 57 60 [] rfl rfl rfl rfl rfl rfl rfl rfl (as := [.int (-12 : Int32)]) (F_Law_put_ok (Nat.le_trans (by decide : 1 ≤ 8) (Nat.le_trans (Nat.le_add_right _ rd) hd))) (fun h6 =>
  jr_goto 60 64 rfl rfl
  ((F_Law_readSum_b64_ok hd hRR hR hk8))))))))))))))
  (jr_aloadn 24 25 rfl rfl rfl
  (jr_aloadn 25 26 rfl rfl rfl
  (jr_iloadn 26 27 rfl rfl rfl
  (jr_cVv 27 30 [] rfl rfl rfl rfl rfl rfl rfl rfl (as := [.ref l1, .int l2]) (F_Law_readProduct_ok (rd := rd) (Nat.le_trans (Nat.add_le_add_right (by decide : 8 ≤ 8) rd) hd) hRR) (fun h7 =>
  jr_aloadn 30 31 rfl rfl rfl
  (jr_bipush 31 33 (-11 : Int32) rfl jc_b_m11 rfl
  (jr_cVv 33 36 [] rfl rfl rfl rfl rfl rfl rfl rfl (as := [.int (-11 : Int32)]) (F_Law_put_ok (Nat.le_trans (by decide : 1 ≤ 8) (Nat.le_trans (Nat.le_add_right _ rd) hd))) (fun h8 =>
  jr_goto 36 64 rfl rfl
  ((F_Law_readSum_b64_ok hd hRR hR hk8))))))))))))))))
noncomputable def F_Law_readSum_l8 (R : Nat → Nat → Int32 → LH → Option LH) : Nat → Nat → Nat → Int32 → Int32 → LH → Option LH
 | 0, _, _, _, _, _ => none
 | n + 1, l0, l1, l2, l3, h => F_Law_readSum_c8 R (F_Law_readSum_l8 R n) l0 l1 l2 l3 h
theorem F_Law_readSum_l8_ok {d : Nat} {rd : Nat} {R : Nat → Nat → Int32 → LH → Option LH} {q : LH} (hd : 8 + rd ≤ d) (hRR : ∀ d : Nat, rd ≤ d → ∀ (r0 : Nat) (r1 : Nat) (r2 : Int32) (hh : LH) (qq : LH), R r0 r1 r2 hh = some qq → jl_Sem jt_T jt_Ms d 27 [.ref r0, .ref r1, .int r2] hh (jo_v qq)) (hR : ∀ (r0 : Nat) (r1 : Nat) (r2 : Int32) (hh : LH) (qq : LH), R r0 r1 r2 hh = some qq → jl_Sem jt_T jt_Ms d 27 [.ref r0, .ref r1, .int r2] hh (jo_v qq)) : ∀ (n : Nat) (l0 : Nat) (l1 : Nat) (l2 : Int32) (l3 : Int32) (h : LH), F_Law_readSum_l8 R n l0 l1 l2 l3 h = some q → JR d jM_27 8 [.ref l0, .ref l1, .int l2, .int l3] [] h (jo_v q)
 | 0 => fun _ _ _ _ _ hq => nomatch (show (none : Option LH) = some q from hq)
 | n + 1 => fun _ _ _ _ _ hq => F_Law_readSum_c8_ok hd hRR hR (F_Law_readSum_l8_ok hd hRR hR n) hq
noncomputable def E_Law_readSum (R : Nat → Nat → Int32 → LH → Option LH) (l0 : Nat) (l1 : Nat) (l2 : Int32) (h : LH) : Option LH :=
 jf_kd h l0 4
 ((F_Law_readProduct R l0 l1 l2 h).bind fun h1 =>
 F_Law_readSum_l8 R  jF l0 l1 l2 (0 : Int32) h1)
set_option maxRecDepth 100000 in
theorem E_Law_readSum_ok {d : Nat} {rd : Nat} {R : Nat → Nat → Int32 → LH → Option LH} (hd : 9 + rd ≤ d) (hRR : ∀ d : Nat, rd ≤ d → ∀ (r0 : Nat) (r1 : Nat) (r2 : Int32) (hh : LH) (qq : LH), R r0 r1 r2 hh = some qq → jl_Sem jt_T jt_Ms d 27 [.ref r0, .ref r1, .int r2] hh (jo_v qq)) {l0 : Nat} {l1 : Nat} {l2 : Int32} {h : LH} {q : LH} : E_Law_readSum R l0 l1 l2 h = some q → jl_Sem jt_T jt_Ms d 27 [.ref l0, .ref l1, .int l2] h (jo_v q) := by
 unfold E_Law_readSum
 exact jr_enter (D := 8 + rd) (Nat.le_trans (Nat.le_of_eq (by omega)) hd) jM_27_at rfl rfl rfl (fun d hd =>
  have hR := hRR d (Nat.le_trans (Nat.le_add_left rd _) hd)
  jr_aloadn 0 1 rfl rfl rfl
  (jr_aloadn 1 2 rfl rfl rfl
  (jr_iloadn 2 3 rfl rfl rfl
  (jr_cVv 3 6 [] rfl rfl rfl rfl rfl rfl rfl rfl (as := [.ref l1, .int l2]) (F_Law_readProduct_ok (rd := rd) (Nat.le_trans (Nat.add_le_add_right (by decide : 8 ≤ 8) rd) hd) hRR) (fun h1 =>
  jr_iconst 6 7 (0 : Int32) rfl jc_i_0 rfl
  (jr_istoren 7 8 [.ref l0, .ref l1, .int l2, .int (0 : Int32)] rfl rfl rfl rfl
  ((F_Law_readSum_l8_ok hd hRR hR  jF _ _ _ _ _))))))))
noncomputable def F_Law_readSum : Nat → Nat → Nat → Int32 → LH → Option LH
 | 0, _, _, _, _ => none
 | n + 1, l0, l1, l2, h => E_Law_readSum (F_Law_readSum n) l0 l1 l2 h
theorem F_Law_readSum_all : ∀ (n d : Nat), 9 * n ≤ d → ∀ (l0 : Nat) (l1 : Nat) (l2 : Int32) (h : LH) (q : LH), F_Law_readSum n l0 l1 l2 h = some q → jl_Sem jt_T jt_Ms d 27 [.ref l0, .ref l1, .int l2] h (jo_v q)
 | 0, _, _ => fun _ _ _ _ _ hq => nomatch (show (none : Option LH) = some _ from hq)
 | n + 1, d, hd => fun _ _ _ _ _ hq => E_Law_readSum_ok (rd := 9 * n) (Nat.le_trans (Nat.le_of_eq (by omega)) hd) (F_Law_readSum_all n) hq
theorem F_Law_readSum_ok (n : Nat) {d : Nat} (hd : 9 * n ≤ d) {l0 : Nat} {l1 : Nat} {l2 : Int32} {h : LH} {q : LH} : F_Law_readSum n l0 l1 l2 h = some q → jl_Sem jt_T jt_Ms d 27 [.ref l0, .ref l1, .int l2] h (jo_v q) := F_Law_readSum_all n d hd _ _ _ _ _
noncomputable def jM_26 : JMeth := (4, false, 0, jk_26, [], 2)
set_option maxRecDepth 100000 in
theorem jM_26_at : jt_Ms 26 = some jM_26 := rfl
noncomputable def F_Law_readFrom_b24 (h : LH) : Option LH :=
 some h
set_option maxRecDepth 100000 in
theorem F_Law_readFrom_b24_ok {d : Nat} {q : LH} (hd : 180 ≤ d) {u0 : Value} {u1 : Value} {h : LH} : F_Law_readFrom_b24 h = some q → JR d jM_26 24 [u0, u1] [] h (jo_v q) := by
 unfold F_Law_readFrom_b24
 exact jr_rv 24 rfl rfl
noncomputable def F_Law_readFrom (l0 : Nat) (l1 : Nat) (h : LH) : Option LH :=
 jf_pi h l0 4 2 (0 : Int32) fun h1 =>
 jf_kd h1 l0 4
 ((F_Law_readSum jE l0 l1 (0 : Int32) h1).bind fun h2 =>
 jf_kd h2 l1 7
 (jf_bi (F_Text_next l1 h2) fun v3 h4 =>
 if v3 = (-1 : Int32) then
 F_Law_readFrom_b24  h4
else
 jf_kd h4 l1 7
 ((F_Text_failNext l1 (1 : Int32) h4).bind fun h5 =>
 F_Law_readFrom_b24  h5)))
set_option maxRecDepth 100000 in
theorem F_Law_readFrom_ok {d : Nat} (hd : 181 ≤ d) {l0 : Nat} {l1 : Nat} {h : LH} {q : LH} : F_Law_readFrom l0 l1 h = some q → jl_Sem jt_T jt_Ms d 26 [.ref l0, .ref l1] h (jo_v q) := by
 unfold F_Law_readFrom
 exact jr_enter (D := 180) hd jM_26_at rfl rfl rfl (fun d hd =>
  jr_aloadn 0 1 rfl rfl rfl
  (jr_iconst 1 2 (0 : Int32) rfl jc_i_0 rfl
  (jr_pi 2 5 rfl jg_4_21_3 rfl (fun h1 =>
  jr_aloadn 5 6 rfl rfl rfl
  (jr_aloadn 6 7 rfl rfl rfl
  (jr_iconst 7 8 (0 : Int32) rfl jc_i_0 rfl
  (jr_cVv 8 11 [] rfl rfl rfl rfl rfl rfl rfl rfl (as := [.ref l1, .int (0 : Int32)]) (F_Law_readSum_ok jE (Nat.le_trans (by decide : 9 * jE ≤ 180) hd)) (fun h2 =>
  jr_aloadn 11 12 rfl rfl rfl
  (jr_cVi 12 15 [] rfl rfl rfl rfl rfl rfl rfl rfl (as := []) (F_Text_next_ok (Nat.le_trans (by decide : 1 ≤ 180) hd)) (fun v3 h4 =>
  jr_iconst 15 16 (-1 : Int32) rfl jc_i_m1 rfl
  (jr_icmp_eq 16 24 19 rfl rfl rfl
  ((F_Law_readFrom_b24_ok hd ))
  (jr_aloadn 19 20 rfl rfl rfl
  (jr_iconst 20 21 (1 : Int32) rfl jc_i_1 rfl
  (jr_cVv 21 24 [] rfl rfl rfl rfl rfl rfl rfl rfl (as := [.int (1 : Int32)]) (F_Text_failNext_ok (Nat.le_trans (by decide : 2 ≤ 180) hd)) (fun h5 =>
  (F_Law_readFrom_b24_ok hd ))))))))))))))))
noncomputable def jM_35 : JMeth := (5, true, 0, jk_35, [], 1)
set_option maxRecDepth 100000 in
theorem jM_35_at : jt_Ms 35 = some jM_35 := rfl
noncomputable def F_Prog_init (l0 : Nat) (h : LH) : Option LH :=
 jf_na h 20 (450 : Int32) fun v1 h2 =>
 jf_pr h2 l0 5 0 v1 fun h3 =>
 some h3
set_option maxRecDepth 100000 in
theorem F_Prog_init_ok {d : Nat} (hd : 1 ≤ d) {l0 : Nat} {h : LH} {q : LH} : F_Prog_init l0 h = some q → jl_Sem jt_T jt_Ms d 35 [.ref l0] h (jo_v q) := by
 unfold F_Prog_init
 exact jr_enter (D := 0) hd jM_35_at rfl rfl rfl (fun d hd =>
  jr_aloadn 0 1 rfl rfl rfl
  (jr_oi 1 4 rfl rfl rfl rfl
  (jr_aloadn 4 5 rfl rfl rfl
  (jr_sipush 5 8 (450 : Int32) rfl jc_s_450 rfl
  (jr_na 8 10 rfl rfl rfl rfl (fun v1 h2 =>
  jr_prF 10 13 rfl rfl jg_5_11_6 rfl (fun h3 =>
  jr_rv 13 rfl rfl)))))))
noncomputable def jM_39 : JMeth := (5, false, 0, jk_39, [], 4)
set_option maxRecDepth 100000 in
theorem jM_39_at : jt_Ms 39 = some jM_39 := rfl
noncomputable def F_Prog_put_b58 (h : LH) : Option LH :=
 some h
set_option maxRecDepth 100000 in
theorem F_Prog_put_b58_ok {d : Nat} {q : LH} (hd : 0 ≤ d) {u0 : Value} {u1 : Value} {u2 : Value} {u3 : Value} {h : LH} : F_Prog_put_b58 h = some q → JR d jM_39 58 [u0, u1, u2, u3] [] h (jo_v q) := by
 unfold F_Prog_put_b58
 exact jr_rv 58 rfl rfl
noncomputable def F_Prog_put (l0 : Nat) (l1 : Int32) (l2 : Int32) (l3 : Int32) (h : LH) : Option LH :=
 jf_gi h l0 5 1 fun v1 =>
 jf_gr h l0 5 0 fun v2 =>
 jf_al h v2 fun v3 =>
 if v3 < (v1 + (3 : Int32)) then
 F_Prog_put_b58  h
else
 jf_gr h l0 5 0 fun v4 =>
 jf_gi h l0 5 1 fun v5 =>
 jf_is h v4 v5 l1 fun h6 =>
 jf_gr h6 l0 5 0 fun v7 =>
 jf_gi h6 l0 5 1 fun v8 =>
 jf_is h6 v7 (v8 + (1 : Int32)) l2 fun h9 =>
 jf_gr h9 l0 5 0 fun v10 =>
 jf_gi h9 l0 5 1 fun v11 =>
 jf_is h9 v10 (v11 + (2 : Int32)) l3 fun h12 =>
 jf_gi h12 l0 5 1 fun v13 =>
 jf_pi h12 l0 5 1 (v13 + (3 : Int32)) fun h14 =>
 F_Prog_put_b58  h14
set_option maxRecDepth 100000 in
theorem F_Prog_put_ok {d : Nat} (hd : 1 ≤ d) {l0 : Nat} {l1 : Int32} {l2 : Int32} {l3 : Int32} {h : LH} {q : LH} : F_Prog_put l0 l1 l2 l3 h = some q → jl_Sem jt_T jt_Ms d 39 [.ref l0, .int l1, .int l2, .int l3] h (jo_v q) := by
 unfold F_Prog_put
 exact jr_enter (D := 0) hd jM_39_at rfl rfl rfl (fun d hd =>
  jr_aloadn 0 1 rfl rfl rfl
  (jr_gi 1 4 rfl jg_5_15_1 rfl (fun v1 =>
  jr_iconst 4 5 (3 : Int32) rfl jc_i_3 rfl
  (jr_iadd 5 6 rfl rfl
  (jr_aloadn 6 7 rfl rfl rfl
  (jr_gr 7 10 rfl jg_5_11_2 rfl (fun v2 =>
  jr_al 10 11 rfl rfl (fun v3 =>
  jr_icmp_gt 11 58 14 rfl rfl rfl
  ((F_Prog_put_b58_ok hd ))
  (jr_aloadn 14 15 rfl rfl rfl
  (jr_gr 15 18 rfl jg_5_11_2 rfl (fun v4 =>
  jr_aloadn 18 19 rfl rfl rfl
  (jr_gi 19 22 rfl jg_5_15_1 rfl (fun v5 =>
  jr_iloadn 22 23 rfl rfl rfl
  (jr_is 23 24 rfl rfl (fun h6 =>
  jr_aloadn 24 25 rfl rfl rfl
  (jr_gr 25 28 rfl jg_5_11_2 rfl (fun v7 =>
  jr_aloadn 28 29 rfl rfl rfl
  (jr_gi 29 32 rfl jg_5_15_1 rfl (fun v8 =>
  jr_iconst 32 33 (1 : Int32) rfl jc_i_1 rfl
  (jr_iadd 33 34 rfl rfl
  (jr_iloadn 34 35 rfl rfl rfl
  (jr_is 35 36 rfl rfl (fun h9 =>
  jr_aloadn 36 37 rfl rfl rfl
  (jr_gr 37 40 rfl jg_5_11_2 rfl (fun v10 =>
  jr_aloadn 40 41 rfl rfl rfl
  (jr_gi 41 44 rfl jg_5_15_1 rfl (fun v11 =>
  jr_iconst 44 45 (2 : Int32) rfl jc_i_2 rfl
  (jr_iadd 45 46 rfl rfl
  (jr_iloadn 46 47 rfl rfl rfl
  (jr_is 47 48 rfl rfl (fun h12 =>
  jr_aloadn 48 49 rfl rfl rfl
  (jr_dup 49 50 rfl rfl rfl
  (jr_gi 50 53 rfl jg_5_15_1 rfl (fun v13 =>
  jr_iconst 53 54 (3 : Int32) rfl jc_i_3 rfl
  (jr_iadd 54 55 rfl rfl
  (jr_pi 55 58 rfl jg_5_15_3 rfl (fun h14 =>
  (F_Prog_put_b58_ok hd ))))))))))))))))))))))))))))))))))))))
noncomputable def jM_40 : JMeth := (5, false, 0, jk_40, [], 5)
set_option maxRecDepth 100000 in
theorem jM_40_at : jt_Ms 40 = some jM_40 := rfl
noncomputable def F_Prog_readAgain_b77 (R : Nat → Nat → Nat → Int32 → LH → Option LH) (h : LH) : Option LH :=
 some h
set_option maxRecDepth 100000 in
theorem F_Prog_readAgain_b77_ok {d : Nat} {rd : Nat} {R : Nat → Nat → Nat → Int32 → LH → Option LH} {q : LH} (hd : 3 + rd ≤ d) (hRR : ∀ d : Nat, rd ≤ d → ∀ (r0 : Nat) (r1 : Nat) (r2 : Nat) (r3 : Int32) (hh : LH) (qq : LH), R r0 r1 r2 r3 hh = some qq → jl_Sem jt_T jt_Ms d 37 [.ref r0, .ref r1, .ref r2, .int r3] hh (jo_v qq)) (hR : ∀ (r0 : Nat) (r1 : Nat) (r2 : Nat) (r3 : Int32) (hh : LH) (qq : LH), R r0 r1 r2 r3 hh = some qq → jl_Sem jt_T jt_Ms d 37 [.ref r0, .ref r1, .ref r2, .int r3] hh (jo_v qq)) {u0 : Value} {u1 : Value} {u2 : Value} {u3 : Value} {u4 : Value} {h : LH} : F_Prog_readAgain_b77 R h = some q → JR d jM_40 77 [u0, u1, u2, u3, u4] [] h (jo_v q) := by
 unfold F_Prog_readAgain_b77
 exact jr_rv 77 rfl rfl
noncomputable def F_Prog_readAgain (R : Nat → Nat → Nat → Int32 → LH → Option LH) (l0 : Nat) (l1 : Nat) (l2 : Nat) (l3 : Int32) (h : LH) : Option LH :=
 if l3 < (6 : Int32) then
 jf_gi h l0 5 1 fun v1 =>
 jf_kd h l1 7
 (jf_bi (F_Text_number l1 (0 : Int32) (30 : Int32) h) fun v2 h3 =>
 jf_kd h3 l0 5
 ((F_Prog_put l0 (4 : Int32) v2 (0 : Int32) h3).bind fun h4 =>
 jf_kd h4 l1 7
 ((F_Text_need l1 (91 : Int32) h4).bind fun h5 =>
 jf_kd h5 l0 5
 ((R l0 l1 l2 (l3 + (1 : Int32)) h5).bind fun h6 =>
 jf_kd h6 l1 7
 ((F_Text_need l1 (93 : Int32) h6).bind fun h7 =>
 jf_gr h7 l0 5 0 fun v8 =>
 jf_al h7 v8 fun v9 =>
 if v9 < (v1 + (3 : Int32)) then
 F_Prog_readAgain_b77 R  h7
else
 jf_gr h7 l0 5 0 fun v10 =>
 jf_gi h7 l0 5 1 fun v11 =>
 jf_is h7 v10 (v1 + (2 : Int32)) v11 fun h12 =>
 F_Prog_readAgain_b77 R  h12)))))
else
 jf_kd h l1 7
 ((F_Text_fail l1 (3 : Int32) h).bind fun h13 =>
 some h13)
set_option maxRecDepth 100000 in
theorem F_Prog_readAgain_ok {d : Nat} {rd : Nat} {R : Nat → Nat → Nat → Int32 → LH → Option LH} (hd : 4 + rd ≤ d) (hRR : ∀ d : Nat, rd ≤ d → ∀ (r0 : Nat) (r1 : Nat) (r2 : Nat) (r3 : Int32) (hh : LH) (qq : LH), R r0 r1 r2 r3 hh = some qq → jl_Sem jt_T jt_Ms d 37 [.ref r0, .ref r1, .ref r2, .int r3] hh (jo_v qq)) {l0 : Nat} {l1 : Nat} {l2 : Nat} {l3 : Int32} {h : LH} {q : LH} : F_Prog_readAgain R l0 l1 l2 l3 h = some q → jl_Sem jt_T jt_Ms d 40 [.ref l0, .ref l1, .ref l2, .int l3] h (jo_v q) := by
 unfold F_Prog_readAgain
 exact jr_enter (D := 3 + rd) (Nat.le_trans (Nat.le_of_eq (by omega)) hd) jM_40_at rfl rfl rfl (fun d hd =>
  have hR := hRR d (Nat.le_trans (Nat.le_add_left rd _) hd)
  jr_iloadn 0 1 rfl rfl rfl
  (jr_bipush 1 3 (6 : Int32) rfl jc_b_6 rfl
  (jr_icmp_lt 3 12 6 rfl rfl rfl
  (jr_aloadn 12 13 rfl rfl rfl
  (jr_gi 13 16 rfl jg_5_15_1 rfl (fun v1 =>
  jr_istore 16 18 [.ref l0, .ref l1, .ref l2, .int l3, .int v1] rfl rfl rfl rfl
  (jr_aloadn 18 19 rfl rfl rfl
  (jr_iconst 19 20 (4 : Int32) rfl jc_i_4 rfl
  (jr_aloadn 20 21 rfl rfl rfl
  (jr_iconst 21 22 (0 : Int32) rfl jc_i_0 rfl
  (jr_bipush 22 24 (30 : Int32) rfl jc_b_30 rfl
  (jr_cVi 24 27 [.int (4 : Int32), .ref l0] rfl rfl rfl rfl rfl rfl rfl rfl (as := [.int (0 : Int32), .int (30 : Int32)]) (F_Text_number_ok (Nat.le_trans (by decide : 3 ≤ 3) (Nat.le_trans (Nat.le_add_right _ rd) hd))) (fun v2 h3 =>
  jr_iconst 27 28 (0 : Int32) rfl jc_i_0 rfl
  (jr_cVv 28 31 [] rfl rfl rfl rfl rfl rfl rfl rfl (as := [.int (4 : Int32), .int v2, .int (0 : Int32)]) (F_Prog_put_ok (Nat.le_trans (by decide : 1 ≤ 3) (Nat.le_trans (Nat.le_add_right _ rd) hd))) (fun h4 =>
  jr_aloadn 31 32 rfl rfl rfl
  (jr_bipush 32 34 (91 : Int32) rfl jc_b_91 rfl
  (jr_cVv 34 37 [] rfl rfl rfl rfl rfl rfl rfl rfl (as := [.int (91 : Int32)]) (F_Text_need_ok (Nat.le_trans (by decide : 2 ≤ 3) (Nat.le_trans (Nat.le_add_right _ rd) hd))) (fun h5 =>
  jr_aloadn 37 38 rfl rfl rfl
  (jr_aloadn 38 39 rfl rfl rfl
  (jr_aloadn 39 40 rfl rfl rfl
  (jr_iloadn 40 41 rfl rfl rfl
  (jr_iconst 41 42 (1 : Int32) rfl jc_i_1 rfl
  (jr_iadd 42 43 rfl rfl
  (jr_cVv 43 46 [] rfl rfl rfl rfl rfl rfl rfl rfl (as := [.ref l1, .ref l2, .int (l3 + (1 : Int32))]) (fun hq => hR _ _ _ _ _ _ hq) (fun h6 =>
  jr_aloadn 46 47 rfl rfl rfl
  (jr_bipush 47 49 (93 : Int32) rfl jc_b_93 rfl
  (jr_cVv 49 52 [] rfl rfl rfl rfl rfl rfl rfl rfl (as := [.int (93 : Int32)]) (F_Text_need_ok (Nat.le_trans (by decide : 2 ≤ 3) (Nat.le_trans (Nat.le_add_right _ rd) hd))) (fun h7 =>
  jr_iload 52 54 rfl rfl rfl
  (jr_iconst 54 55 (3 : Int32) rfl jc_i_3 rfl
  (jr_iadd 55 56 rfl rfl
  (jr_aloadn 56 57 rfl rfl rfl
  (jr_gr 57 60 rfl jg_5_11_2 rfl (fun v8 =>
  jr_al 60 61 rfl rfl (fun v9 =>
  jr_icmp_gt 61 77 64 rfl rfl rfl
  ((F_Prog_readAgain_b77_ok hd hRR hR ))
  (jr_aloadn 64 65 rfl rfl rfl
  (jr_gr 65 68 rfl jg_5_11_2 rfl (fun v10 =>
  jr_iload 68 70 rfl rfl rfl
  (jr_iconst 70 71 (2 : Int32) rfl jc_i_2 rfl
  (jr_iadd 71 72 rfl rfl
  (jr_aloadn 72 73 rfl rfl rfl
  (jr_gi 73 76 rfl jg_5_15_1 rfl (fun v11 =>
  jr_is 76 77 rfl rfl (fun h12 =>
  (F_Prog_readAgain_b77_ok hd hRR hR )))))))))))))))))))))))))))))))))))))))))
  (jr_aloadn 6 7 rfl rfl rfl
  (jr_iconst 7 8 (3 : Int32) rfl jc_i_3 rfl
  (jr_cVv 8 11 [] rfl rfl rfl rfl rfl rfl rfl rfl (as := [.int (3 : Int32)]) (F_Text_fail_ok (Nat.le_trans (by decide : 2 ≤ 3) (Nat.le_trans (Nat.le_add_right _ rd) hd))) (fun h13 =>
  jr_rv 11 rfl rfl)))))))
noncomputable def jM_38 : JMeth := (5, false, 0, jk_38, [], 5)
set_option maxRecDepth 100000 in
theorem jM_38_at : jt_Ms 38 = some jM_38 := rfl
noncomputable def F_Prog_readStep_b119 (R : Nat → Nat → Nat → Int32 → LH → Option LH) (h : LH) : Option LH :=
 some h
set_option maxRecDepth 100000 in
theorem F_Prog_readStep_b119_ok {d : Nat} {rd : Nat} {R : Nat → Nat → Nat → Int32 → LH → Option LH} {q : LH} (hd : 5 + rd ≤ d) (hRR : ∀ d : Nat, rd ≤ d → ∀ (r0 : Nat) (r1 : Nat) (r2 : Nat) (r3 : Int32) (hh : LH) (qq : LH), R r0 r1 r2 r3 hh = some qq → jl_Sem jt_T jt_Ms d 37 [.ref r0, .ref r1, .ref r2, .int r3] hh (jo_v qq)) (hR : ∀ (r0 : Nat) (r1 : Nat) (r2 : Nat) (r3 : Int32) (hh : LH) (qq : LH), R r0 r1 r2 r3 hh = some qq → jl_Sem jt_T jt_Ms d 37 [.ref r0, .ref r1, .ref r2, .int r3] hh (jo_v qq)) {u0 : Value} {u1 : Value} {u2 : Value} {u3 : Value} {u4 : Value} {h : LH} : F_Prog_readStep_b119 R h = some q → JR d jM_38 119 [u0, u1, u2, u3, u4] [] h (jo_v q) := by
 unfold F_Prog_readStep_b119
 exact jr_rv 119 rfl rfl
noncomputable def F_Prog_readStep (R : Nat → Nat → Nat → Int32 → LH → Option LH) (l0 : Nat) (l1 : Nat) (l2 : Nat) (l3 : Int32) (h : LH) : Option LH :=
 jf_kd h l1 7
 ((F_Text_word l1 h).bind fun h1 =>
 jf_kd h1 l1 7
 (jf_bi (F_Text_isWord l1 13 h1) fun v2 h3 =>
 if v2 = 0 then
 jf_kd h3 l1 7
 (jf_bi (F_Text_isWord l1 14 h3) fun v4 h5 =>
 if v4 = 0 then
 jf_kd h5 l1 7
 (jf_bi (F_Text_isWord l1 11 h5) fun v6 h7 =>
 if v6 = 0 then
 jf_kd h7 l1 7
 (jf_bi (F_Text_isWord l1 15 h7) fun v8 h9 =>
 if v8 = 0 then
 jf_kd h9 l1 7
 ((F_Text_fail l1 (1 : Int32) h9).bind fun h10 =>
 F_Prog_readStep_b119 R  h10)
else
 jf_kd h9 l0 5
 ((F_Prog_readAgain R l0 l1 l2 l3 h9).bind fun h11 =>
 F_Prog_readStep_b119 R  h11))
else
 jf_kd h7 l0 5
 ((F_Prog_put l0 (3 : Int32) (0 : Int32) (0 : Int32) h7).bind fun h12 =>
 F_Prog_readStep_b119 R  h12))
else
 jf_gi h5 l2 8 0 fun v13 =>
 jf_kd h5 l1 7
 (jf_bi (F_Text_number l1 (0 : Int32) (v13 - (1 : Int32)) h5) fun v14 h15 =>
 jf_kd h15 l0 5
 ((F_Prog_put l0 (2 : Int32) v14 (0 : Int32) h15).bind fun h16 =>
 F_Prog_readStep_b119 R  h16)))
else
 jf_gi h3 l2 8 0 fun v17 =>
 jf_kd h3 l1 7
 (jf_bi (F_Text_number l1 (0 : Int32) (v17 - (1 : Int32)) h3) fun v18 h19 =>
 jf_gi h19 l2 8 1 fun v20 =>
 jf_kd h19 l1 7
 (jf_bi (F_Text_number l1 (0 : Int32) (v20 - (1 : Int32)) h19) fun v21 h22 =>
 jf_kd h22 l0 5
 ((F_Prog_put l0 (1 : Int32) v18 v21 h22).bind fun h23 =>
 F_Prog_readStep_b119 R  h23)))))
set_option maxRecDepth 100000 in
theorem F_Prog_readStep_ok {d : Nat} {rd : Nat} {R : Nat → Nat → Nat → Int32 → LH → Option LH} (hd : 6 + rd ≤ d) (hRR : ∀ d : Nat, rd ≤ d → ∀ (r0 : Nat) (r1 : Nat) (r2 : Nat) (r3 : Int32) (hh : LH) (qq : LH), R r0 r1 r2 r3 hh = some qq → jl_Sem jt_T jt_Ms d 37 [.ref r0, .ref r1, .ref r2, .int r3] hh (jo_v qq)) {l0 : Nat} {l1 : Nat} {l2 : Nat} {l3 : Int32} {h : LH} {q : LH} : F_Prog_readStep R l0 l1 l2 l3 h = some q → jl_Sem jt_T jt_Ms d 38 [.ref l0, .ref l1, .ref l2, .int l3] h (jo_v q) := by
 unfold F_Prog_readStep
 exact jr_enter (D := 5 + rd) (Nat.le_trans (Nat.le_of_eq (by omega)) hd) jM_38_at rfl rfl rfl (fun d hd =>
  have hR := hRR d (Nat.le_trans (Nat.le_add_left rd _) hd)
  jr_aloadn 0 1 rfl rfl rfl
  (jr_cVv 1 4 [] rfl rfl rfl rfl rfl rfl rfl rfl (as := []) (F_Text_word_ok (Nat.le_trans (by decide : 2 ≤ 5) (Nat.le_trans (Nat.le_add_right _ rd) hd))) (fun h1 =>
  jr_aloadn 4 5 rfl rfl rfl
  (jr_ldcs 5 7 rfl rfl rfl rfl
  (jr_cVi 7 10 [] rfl rfl rfl rfl rfl rfl rfl rfl (as := [.ref 13]) (F_Text_isWord_ok (Nat.le_trans (by decide : 5 ≤ 5) (Nat.le_trans (Nat.le_add_right _ rd) hd))) (fun v2 h3 =>
  jr_if_eq 10 47 13 rfl rfl rfl
  (jr_aloadn 47 48 rfl rfl rfl
  (jr_ldcs 48 50 rfl rfl rfl rfl
  (jr_cVi 50 53 [] rfl rfl rfl rfl rfl rfl rfl rfl (as := [.ref 14]) (F_Text_isWord_ok (Nat.le_trans (by decide : 5 ≤ 5) (Nat.le_trans (Nat.le_add_right _ rd) hd))) (fun v4 h5 =>
  jr_if_eq 53 76 56 rfl rfl rfl
  (jr_aloadn 76 77 rfl rfl rfl
  (jr_ldcs 77 79 rfl rfl rfl rfl
  (jr_cVi 79 82 [] rfl rfl rfl rfl rfl rfl rfl rfl (as := [.ref 11]) (F_Text_isWord_ok (Nat.le_trans (by decide : 5 ≤ 5) (Nat.le_trans (Nat.le_add_right _ rd) hd))) (fun v6 h7 =>
  jr_if_eq 82 95 85 rfl rfl rfl
  (jr_aloadn 95 96 rfl rfl rfl
  (jr_ldcs 96 98 rfl rfl rfl rfl
  (jr_cVi 98 101 [] rfl rfl rfl rfl rfl rfl rfl rfl (as := [.ref 15]) (F_Text_isWord_ok (Nat.le_trans (by decide : 5 ≤ 5) (Nat.le_trans (Nat.le_add_right _ rd) hd))) (fun v8 h9 =>
  jr_if_eq 101 114 104 rfl rfl rfl
  (jr_aloadn 114 115 rfl rfl rfl
  (jr_iconst 115 116 (1 : Int32) rfl jc_i_1 rfl
  (jr_cVv 116 119 [] rfl rfl rfl rfl rfl rfl rfl rfl (as := [.int (1 : Int32)]) (F_Text_fail_ok (Nat.le_trans (by decide : 2 ≤ 5) (Nat.le_trans (Nat.le_add_right _ rd) hd))) (fun h10 =>
  (F_Prog_readStep_b119_ok hd hRR hR )))))
  (jr_aloadn 104 105 rfl rfl rfl
  (jr_aloadn 105 106 rfl rfl rfl
  (jr_aloadn 106 107 rfl rfl rfl
  (jr_iloadn 107 108 rfl rfl rfl
  (jr_cVv 108 111 [] rfl rfl rfl rfl rfl rfl rfl rfl (as := [.ref l1, .ref l2, .int l3]) (F_Prog_readAgain_ok (rd := rd) (Nat.le_trans (Nat.add_le_add_right (by decide : 4 ≤ 5) rd) hd) hRR) (fun h11 =>
  jr_goto 111 119 rfl rfl
  ((F_Prog_readStep_b119_ok hd hRR hR ))))))))))))
  (jr_aloadn 85 86 rfl rfl rfl
  (jr_iconst 86 87 (3 : Int32) rfl jc_i_3 rfl
  (jr_iconst 87 88 (0 : Int32) rfl jc_i_0 rfl
  (jr_iconst 88 89 (0 : Int32) rfl jc_i_0 rfl
  (jr_cVv 89 92 [] rfl rfl rfl rfl rfl rfl rfl rfl (as := [.int (3 : Int32), .int (0 : Int32), .int (0 : Int32)]) (F_Prog_put_ok (Nat.le_trans (by decide : 1 ≤ 5) (Nat.le_trans (Nat.le_add_right _ rd) hd))) (fun h12 =>
  jr_goto 92 119 rfl rfl
  ((F_Prog_readStep_b119_ok hd hRR hR ))))))))))))
  (jr_aloadn 56 57 rfl rfl rfl
  (jr_iconst 57 58 (2 : Int32) rfl jc_i_2 rfl
  (jr_aloadn 58 59 rfl rfl rfl
  (jr_iconst 59 60 (0 : Int32) rfl jc_i_0 rfl
  (jr_aloadn 60 61 rfl rfl rfl
  (jr_gi 61 64 rfl jg_5_49_1 rfl (fun v13 =>
  jr_iconst 64 65 (1 : Int32) rfl jc_i_1 rfl
  (jr_isub 65 66 rfl rfl
  (jr_cVi 66 69 [.int (2 : Int32), .ref l0] rfl rfl rfl rfl rfl rfl rfl rfl (as := [.int (0 : Int32), .int (v13 - (1 : Int32))]) (F_Text_number_ok (Nat.le_trans (by decide : 3 ≤ 5) (Nat.le_trans (Nat.le_add_right _ rd) hd))) (fun v14 h15 =>
  jr_iconst 69 70 (0 : Int32) rfl jc_i_0 rfl
  (jr_cVv 70 73 [] rfl rfl rfl rfl rfl rfl rfl rfl (as := [.int (2 : Int32), .int v14, .int (0 : Int32)]) (F_Prog_put_ok (Nat.le_trans (by decide : 1 ≤ 5) (Nat.le_trans (Nat.le_add_right _ rd) hd))) (fun h16 =>
  jr_goto 73 119 rfl rfl
  ((F_Prog_readStep_b119_ok hd hRR hR ))))))))))))))))))
  (jr_aloadn 13 14 rfl rfl rfl
  (jr_iconst 14 15 (0 : Int32) rfl jc_i_0 rfl
  (jr_aloadn 15 16 rfl rfl rfl
  (jr_gi 16 19 rfl jg_5_49_1 rfl (fun v17 =>
  jr_iconst 19 20 (1 : Int32) rfl jc_i_1 rfl
  (jr_isub 20 21 rfl rfl
  (jr_cVi 21 24 [] rfl rfl rfl rfl rfl rfl rfl rfl (as := [.int (0 : Int32), .int (v17 - (1 : Int32))]) (F_Text_number_ok (Nat.le_trans (by decide : 3 ≤ 5) (Nat.le_trans (Nat.le_add_right _ rd) hd))) (fun v18 h19 =>
  jr_istore 24 26 [.ref l0, .ref l1, .ref l2, .int l3, .int v18] rfl rfl rfl rfl
  (jr_aloadn 26 27 rfl rfl rfl
  (jr_iconst 27 28 (1 : Int32) rfl jc_i_1 rfl
  (jr_iload 28 30 rfl rfl rfl
  (jr_aloadn 30 31 rfl rfl rfl
  (jr_iconst 31 32 (0 : Int32) rfl jc_i_0 rfl
  (jr_aloadn 32 33 rfl rfl rfl
  (jr_gi 33 36 rfl jg_5_58_1 rfl (fun v20 =>
  jr_iconst 36 37 (1 : Int32) rfl jc_i_1 rfl
  (jr_isub 37 38 rfl rfl
  (jr_cVi 38 41 [.int v18, .int (1 : Int32), .ref l0] rfl rfl rfl rfl rfl rfl rfl rfl (as := [.int (0 : Int32), .int (v20 - (1 : Int32))]) (F_Text_number_ok (Nat.le_trans (by decide : 3 ≤ 5) (Nat.le_trans (Nat.le_add_right _ rd) hd))) (fun v21 h22 =>
  jr_cVv 41 44 [] rfl rfl rfl rfl rfl rfl rfl rfl (as := [.int (1 : Int32), .int v18, .int v21]) (F_Prog_put_ok (Nat.le_trans (by decide : 1 ≤ 5) (Nat.le_trans (Nat.le_add_right _ rd) hd))) (fun h23 =>
  jr_goto 44 119 rfl rfl
  ((F_Prog_readStep_b119_ok hd hRR hR ))))))))))))))))))))))))))))
noncomputable def jM_37 : JMeth := (5, false, 0, jk_37, [], 6)
set_option maxRecDepth 100000 in
theorem jM_37_at : jt_Ms 37 = some jM_37 := rfl
noncomputable def F_Prog_readSteps_b30 (R : Nat → Nat → Nat → Int32 → LH → Option LH) (h : LH) : Option LH :=
 some h
set_option maxRecDepth 100000 in
theorem F_Prog_readSteps_b30_ok {d : Nat} {rd : Nat} {R : Nat → Nat → Nat → Int32 → LH → Option LH} {q : LH} (hd : 6 + rd ≤ d) (hRR : ∀ d : Nat, rd ≤ d → ∀ (r0 : Nat) (r1 : Nat) (r2 : Nat) (r3 : Int32) (hh : LH) (qq : LH), R r0 r1 r2 r3 hh = some qq → jl_Sem jt_T jt_Ms d 37 [.ref r0, .ref r1, .ref r2, .int r3] hh (jo_v qq)) (hR : ∀ (r0 : Nat) (r1 : Nat) (r2 : Nat) (r3 : Int32) (hh : LH) (qq : LH), R r0 r1 r2 r3 hh = some qq → jl_Sem jt_T jt_Ms d 37 [.ref r0, .ref r1, .ref r2, .int r3] hh (jo_v qq)) {u0 : Value} {u1 : Value} {u2 : Value} {u3 : Value} {u4 : Value} {u5 : Value} {h : LH} : F_Prog_readSteps_b30 R h = some q → JR d jM_37 30 [u0, u1, u2, u3, u4, u5] [] h (jo_v q) := by
 unfold F_Prog_readSteps_b30
 exact jr_rv 30 rfl rfl
noncomputable def F_Prog_readSteps_c3 (R : Nat → Nat → Nat → Int32 → LH → Option LH) (k3 : Nat → Nat → Nat → Int32 → Int32 → LH → Option LH) (l0 : Nat) (l1 : Nat) (l2 : Nat) (l3 : Int32) (l4 : Int32) (h : LH) : Option LH :=
 if l4 < (150 : Int32) then
 jf_kd h l1 7
 (jf_bi (F_Text_next l1 h) fun v1 h2 =>
 if v1 = (-1 : Int32) then
 F_Prog_readSteps_b30 R  h2
else
 if v1 = (93 : Int32) then
 F_Prog_readSteps_b30 R  h2
else
 jf_kd h2 l0 5
 ((F_Prog_readStep R l0 l1 l2 l3 h2).bind fun h3 =>
 jf_kd h3 l1 7
 ((F_Text_need l1 (59 : Int32) h3).bind fun h4 =>
 k3 l0 l1 l2 l3 (l4 + (1 : Int32)) h4)))
else
 some h
set_option maxRecDepth 100000 in
theorem F_Prog_readSteps_c3_ok {d : Nat} {rd : Nat} {R : Nat → Nat → Nat → Int32 → LH → Option LH} {q : LH} {k3 : Nat → Nat → Nat → Int32 → Int32 → LH → Option LH} (hd : 6 + rd ≤ d) (hRR : ∀ d : Nat, rd ≤ d → ∀ (r0 : Nat) (r1 : Nat) (r2 : Nat) (r3 : Int32) (hh : LH) (qq : LH), R r0 r1 r2 r3 hh = some qq → jl_Sem jt_T jt_Ms d 37 [.ref r0, .ref r1, .ref r2, .int r3] hh (jo_v qq)) (hR : ∀ (r0 : Nat) (r1 : Nat) (r2 : Nat) (r3 : Int32) (hh : LH) (qq : LH), R r0 r1 r2 r3 hh = some qq → jl_Sem jt_T jt_Ms d 37 [.ref r0, .ref r1, .ref r2, .int r3] hh (jo_v qq)) (hk3 : ∀ (l0 : Nat) (l1 : Nat) (l2 : Nat) (l3 : Int32) (l4 : Int32) (u5 : Value) (h : LH), k3 l0 l1 l2 l3 l4 h = some q → JR d jM_37 3 [.ref l0, .ref l1, .ref l2, .int l3, .int l4, u5] [] h (jo_v q)) {l0 : Nat} {l1 : Nat} {l2 : Nat} {l3 : Int32} {l4 : Int32} {u5 : Value} {h : LH} : F_Prog_readSteps_c3 R k3 l0 l1 l2 l3 l4 h = some q → JR d jM_37 3 [.ref l0, .ref l1, .ref l2, .int l3, .int l4, u5] [] h (jo_v q) := by
 unfold F_Prog_readSteps_c3
 exact jr_iload 3 5 rfl rfl rfl
  (jr_sipush 5 8 (150 : Int32) rfl jc_s_150 rfl
  (jr_icmp_ge 8 50 11 rfl rfl rfl
  (jr_rv 50 rfl rfl)
  (jr_aloadn 11 12 rfl rfl rfl
  (jr_cVi 12 15 [] rfl rfl rfl rfl rfl rfl rfl rfl (as := []) (F_Text_next_ok (Nat.le_trans (by decide : 1 ≤ 6) (Nat.le_trans (Nat.le_add_right _ rd) hd))) (fun v1 h2 =>
  jr_istore 15 17 [.ref l0, .ref l1, .ref l2, .int l3, .int l4, .int v1] rfl rfl rfl rfl
  (jr_iload 17 19 rfl rfl rfl
  (jr_iconst 19 20 (-1 : Int32) rfl jc_i_m1 rfl
  (jr_icmp_eq 20 30 23 rfl rfl rfl
  ((F_Prog_readSteps_b30_ok hd hRR hR ))
  (jr_iload 23 25 rfl rfl rfl
  (jr_bipush 25 27 (93 : Int32) rfl jc_b_93 rfl
  (jr_icmp_ne 27 31 30 rfl rfl rfl
  (jr_aloadn 31 32 rfl rfl rfl
  (jr_aloadn 32 33 rfl rfl rfl
  (jr_aloadn 33 34 rfl rfl rfl
  (jr_iloadn 34 35 rfl rfl rfl
  (jr_cVv 35 38 [] rfl rfl rfl rfl rfl rfl rfl rfl (as := [.ref l1, .ref l2, .int l3]) (F_Prog_readStep_ok (rd := rd) (Nat.le_trans (Nat.add_le_add_right (by decide : 6 ≤ 6) rd) hd) hRR) (fun h3 =>
  jr_aloadn 38 39 rfl rfl rfl
  (jr_bipush 39 41 (59 : Int32) rfl jc_b_59 rfl
  (jr_cVv 41 44 [] rfl rfl rfl rfl rfl rfl rfl rfl (as := [.int (59 : Int32)]) (F_Text_need_ok (Nat.le_trans (by decide : 2 ≤ 6) (Nat.le_trans (Nat.le_add_right _ rd) hd))) (fun h4 =>
  jr_iinc 44 47 [.ref l0, .ref l1, .ref l2, .int l3, .int (l4 + (1 : Int32)), .int v1] rfl jc_i_1 rfl rfl rfl rfl
  (jr_goto 47 3 rfl rfl
  ((hk3 _ _ _ _ _ _ _))))))))))))
  ((F_Prog_readSteps_b30_ok hd hRR hR )))))))))))))
noncomputable def F_Prog_readSteps_l3 (R : Nat → Nat → Nat → Int32 → LH → Option LH) : Nat → Nat → Nat → Nat → Int32 → Int32 → LH → Option LH
 | 0, _, _, _, _, _, _ => none
 | n + 1, l0, l1, l2, l3, l4, h => F_Prog_readSteps_c3 R (F_Prog_readSteps_l3 R n) l0 l1 l2 l3 l4 h
theorem F_Prog_readSteps_l3_ok {d : Nat} {rd : Nat} {R : Nat → Nat → Nat → Int32 → LH → Option LH} {q : LH} (hd : 6 + rd ≤ d) (hRR : ∀ d : Nat, rd ≤ d → ∀ (r0 : Nat) (r1 : Nat) (r2 : Nat) (r3 : Int32) (hh : LH) (qq : LH), R r0 r1 r2 r3 hh = some qq → jl_Sem jt_T jt_Ms d 37 [.ref r0, .ref r1, .ref r2, .int r3] hh (jo_v qq)) (hR : ∀ (r0 : Nat) (r1 : Nat) (r2 : Nat) (r3 : Int32) (hh : LH) (qq : LH), R r0 r1 r2 r3 hh = some qq → jl_Sem jt_T jt_Ms d 37 [.ref r0, .ref r1, .ref r2, .int r3] hh (jo_v qq)) : ∀ (n : Nat) (l0 : Nat) (l1 : Nat) (l2 : Nat) (l3 : Int32) (l4 : Int32) (u5 : Value) (h : LH), F_Prog_readSteps_l3 R n l0 l1 l2 l3 l4 h = some q → JR d jM_37 3 [.ref l0, .ref l1, .ref l2, .int l3, .int l4, u5] [] h (jo_v q)
 | 0 => fun _ _ _ _ _ _ _ hq => nomatch (show (none : Option LH) = some q from hq)
 | n + 1 => fun _ _ _ _ _ _ _ hq => F_Prog_readSteps_c3_ok hd hRR hR (F_Prog_readSteps_l3_ok hd hRR hR n) hq
noncomputable def E_Prog_readSteps (R : Nat → Nat → Nat → Int32 → LH → Option LH) (l0 : Nat) (l1 : Nat) (l2 : Nat) (l3 : Int32) (h : LH) : Option LH :=
 F_Prog_readSteps_l3 R  jF l0 l1 l2 l3 (0 : Int32) h
set_option maxRecDepth 100000 in
theorem E_Prog_readSteps_ok {d : Nat} {rd : Nat} {R : Nat → Nat → Nat → Int32 → LH → Option LH} (hd : 7 + rd ≤ d) (hRR : ∀ d : Nat, rd ≤ d → ∀ (r0 : Nat) (r1 : Nat) (r2 : Nat) (r3 : Int32) (hh : LH) (qq : LH), R r0 r1 r2 r3 hh = some qq → jl_Sem jt_T jt_Ms d 37 [.ref r0, .ref r1, .ref r2, .int r3] hh (jo_v qq)) {l0 : Nat} {l1 : Nat} {l2 : Nat} {l3 : Int32} {h : LH} {q : LH} : E_Prog_readSteps R l0 l1 l2 l3 h = some q → jl_Sem jt_T jt_Ms d 37 [.ref l0, .ref l1, .ref l2, .int l3] h (jo_v q) := by
 unfold E_Prog_readSteps
 exact jr_enter (D := 6 + rd) (Nat.le_trans (Nat.le_of_eq (by omega)) hd) jM_37_at rfl rfl rfl (fun d hd =>
  have hR := hRR d (Nat.le_trans (Nat.le_add_left rd _) hd)
  jr_iconst 0 1 (0 : Int32) rfl jc_i_0 rfl
  (jr_istore 1 3 [.ref l0, .ref l1, .ref l2, .int l3, .int (0 : Int32), .retAddr 0] rfl rfl rfl rfl
  ((F_Prog_readSteps_l3_ok hd hRR hR  jF _ _ _ _ _ _ _))))
noncomputable def F_Prog_readSteps : Nat → Nat → Nat → Nat → Int32 → LH → Option LH
 | 0, _, _, _, _, _ => none
 | n + 1, l0, l1, l2, l3, h => E_Prog_readSteps (F_Prog_readSteps n) l0 l1 l2 l3 h
theorem F_Prog_readSteps_all : ∀ (n d : Nat), 7 * n ≤ d → ∀ (l0 : Nat) (l1 : Nat) (l2 : Nat) (l3 : Int32) (h : LH) (q : LH), F_Prog_readSteps n l0 l1 l2 l3 h = some q → jl_Sem jt_T jt_Ms d 37 [.ref l0, .ref l1, .ref l2, .int l3] h (jo_v q)
 | 0, _, _ => fun _ _ _ _ _ _ hq => nomatch (show (none : Option LH) = some _ from hq)
 | n + 1, d, hd => fun _ _ _ _ _ _ hq => E_Prog_readSteps_ok (rd := 7 * n) (Nat.le_trans (Nat.le_of_eq (by omega)) hd) (F_Prog_readSteps_all n) hq
theorem F_Prog_readSteps_ok (n : Nat) {d : Nat} (hd : 7 * n ≤ d) {l0 : Nat} {l1 : Nat} {l2 : Nat} {l3 : Int32} {h : LH} {q : LH} : F_Prog_readSteps n l0 l1 l2 l3 h = some q → jl_Sem jt_T jt_Ms d 37 [.ref l0, .ref l1, .ref l2, .int l3] h (jo_v q) := F_Prog_readSteps_all n d hd _ _ _ _ _ _
noncomputable def jM_36 : JMeth := (5, false, 0, jk_36, [], 3)
set_option maxRecDepth 100000 in
theorem jM_36_at : jt_Ms 36 = some jM_36 := rfl
noncomputable def F_Prog_readFrom_b25 (h : LH) : Option LH :=
 some h
set_option maxRecDepth 100000 in
theorem F_Prog_readFrom_b25_ok {d : Nat} {q : LH} (hd : 140 ≤ d) {u0 : Value} {u1 : Value} {u2 : Value} {h : LH} : F_Prog_readFrom_b25 h = some q → JR d jM_36 25 [u0, u1, u2] [] h (jo_v q) := by
 unfold F_Prog_readFrom_b25
 exact jr_rv 25 rfl rfl
noncomputable def F_Prog_readFrom (l0 : Nat) (l1 : Nat) (l2 : Nat) (h : LH) : Option LH :=
 jf_pi h l0 5 1 (0 : Int32) fun h1 =>
 jf_kd h1 l0 5
 ((F_Prog_readSteps jE l0 l1 l2 (0 : Int32) h1).bind fun h2 =>
 jf_kd h2 l1 7
 (jf_bi (F_Text_next l1 h2) fun v3 h4 =>
 if v3 = (-1 : Int32) then
 F_Prog_readFrom_b25  h4
else
 jf_kd h4 l1 7
 ((F_Text_failNext l1 (1 : Int32) h4).bind fun h5 =>
 F_Prog_readFrom_b25  h5)))
set_option maxRecDepth 100000 in
theorem F_Prog_readFrom_ok {d : Nat} (hd : 141 ≤ d) {l0 : Nat} {l1 : Nat} {l2 : Nat} {h : LH} {q : LH} : F_Prog_readFrom l0 l1 l2 h = some q → jl_Sem jt_T jt_Ms d 36 [.ref l0, .ref l1, .ref l2] h (jo_v q) := by
 unfold F_Prog_readFrom
 exact jr_enter (D := 140) hd jM_36_at rfl rfl rfl (fun d hd =>
  jr_aloadn 0 1 rfl rfl rfl
  (jr_iconst 1 2 (0 : Int32) rfl jc_i_0 rfl
  (jr_pi 2 5 rfl jg_5_15_3 rfl (fun h1 =>
  jr_aloadn 5 6 rfl rfl rfl
  (jr_aloadn 6 7 rfl rfl rfl
  (jr_aloadn 7 8 rfl rfl rfl
  (jr_iconst 8 9 (0 : Int32) rfl jc_i_0 rfl
  (jr_cVv 9 12 [] rfl rfl rfl rfl rfl rfl rfl rfl (as := [.ref l1, .ref l2, .int (0 : Int32)]) (F_Prog_readSteps_ok jE (Nat.le_trans (by decide : 7 * jE ≤ 140) hd)) (fun h2 =>
  jr_aloadn 12 13 rfl rfl rfl
  (jr_cVi 13 16 [] rfl rfl rfl rfl rfl rfl rfl rfl (as := []) (F_Text_next_ok (Nat.le_trans (by decide : 1 ≤ 140) hd)) (fun v3 h4 =>
  jr_iconst 16 17 (-1 : Int32) rfl jc_i_m1 rfl
  (jr_icmp_eq 17 25 20 rfl rfl rfl
  ((F_Prog_readFrom_b25_ok hd ))
  (jr_aloadn 20 21 rfl rfl rfl
  (jr_iconst 21 22 (1 : Int32) rfl jc_i_1 rfl
  (jr_cVv 22 25 [] rfl rfl rfl rfl rfl rfl rfl rfl (as := [.int (1 : Int32)]) (F_Text_failNext_ok (Nat.le_trans (by decide : 2 ≤ 140) hd)) (fun h5 =>
  (F_Prog_readFrom_b25_ok hd )))))))))))))))))
noncomputable def jM_53 : JMeth := (6, false, 2, jk_53, [], 2)
set_option maxRecDepth 100000 in
theorem jM_53_at : jt_Ms 53 = some jM_53 := rfl
noncomputable def F_Scene_quench (l0 : Nat) (l1 : Int32) (h : LH) : Option (Int32 × LH) :=
 jf_kd h l0 6
 (jf_bi (F_Scene_burning l0 l1 h) fun v1 h2 =>
 if 0 < v1 then
 jf_gr h2 l0 6 0 fun v3 =>
 jf_is h2 v3 ((17 : Int32) + l1) (0 : Int32) fun h4 =>
 jf_pz h4 l0 6 4 (0 : Int32) fun h5 =>
 jf_rz (1 : Int32) (some ((1 : Int32), h5))
else
 jf_rz (0 : Int32) (some ((0 : Int32), h2)))
set_option maxRecDepth 100000 in
theorem F_Scene_quench_ok {d : Nat} (hd : 2 ≤ d) {l0 : Nat} {l1 : Int32} {h : LH} {q : (Int32 × LH)} : F_Scene_quench l0 l1 h = some q → jl_Sem jt_T jt_Ms d 53 [.ref l0, .int l1] h (jo_i q) := by
 unfold F_Scene_quench
 exact jr_enter (D := 1) hd jM_53_at rfl rfl rfl (fun d hd =>
  jr_aloadn 0 1 rfl rfl rfl
  (jr_iloadn 1 2 rfl rfl rfl
  (jr_cVi 2 5 [] rfl rfl rfl rfl rfl rfl rfl rfl (as := [.int l1]) (F_Scene_burning_ok (Nat.le_trans (by decide : 1 ≤ 1) hd)) (fun v1 h2 =>
  jr_if_gt 5 10 8 rfl rfl rfl
  (jr_aloadn 10 11 rfl rfl rfl
  (jr_gr 11 14 rfl jg_6_11_2 rfl (fun v3 =>
  jr_bipush 14 16 (17 : Int32) rfl jc_b_17 rfl
  (jr_iloadn 16 17 rfl rfl rfl
  (jr_iadd 17 18 rfl rfl
  (jr_iconst 18 19 (0 : Int32) rfl jc_i_0 rfl
  (jr_is 19 20 rfl rfl (fun h4 =>
  jr_aloadn 20 21 rfl rfl rfl
  (jr_iconst 21 22 (0 : Int32) rfl jc_i_0 rfl
  (jr_pz 22 25 rfl jg_6_47_4 rfl (fun h5 =>
  jr_iconst 25 26 (1 : Int32) rfl jc_i_1 rfl
  (jr_rz 26 rfl rfl))))))))))))
  (jr_iconst 8 9 (0 : Int32) rfl jc_i_0 rfl
  (jr_rz 9 rfl rfl))))))
noncomputable def jM_43 : JMeth := (5, false, 2, jk_43, [], 5)
set_option maxRecDepth 100000 in
theorem jM_43_at : jt_Ms 43 = some jM_43 := rfl
noncomputable def F_Prog_canDo (l0 : Nat) (l1 : Nat) (l2 : Int32) (l3 : Int32) (l4 : Int32) (h : LH) : Option (Int32 × LH) :=
 if l2 = (1 : Int32) then
 jf_kd h l1 6
 (jf_bi (F_Scene_lay l1 l3 l4 h) fun v6 h7 =>
 jf_rz v6 (some (v6, h7)))
else
 if l2 = (2 : Int32) then
 jf_kd h l1 6
 (jf_bi (F_Scene_quench l1 l3 h) fun v4 h5 =>
 jf_rz v4 (some (v4, h5)))
else
 jf_kd h l1 6
 (jf_bi (F_Scene_hourNow l1 h) fun v1 h2 =>
 if v1 < (1000 : Int32) then
 jf_kd h2 l1 6
 ((F_Scene_pass l1 h2).bind fun h3 =>
 jf_rz (1 : Int32) (some ((1 : Int32), h3)))
else
 jf_rz (0 : Int32) (some ((0 : Int32), h2)))
set_option maxRecDepth 100000 in
theorem F_Prog_canDo_ok {d : Nat} (hd : 5 ≤ d) {l0 : Nat} {l1 : Nat} {l2 : Int32} {l3 : Int32} {l4 : Int32} {h : LH} {q : (Int32 × LH)} : F_Prog_canDo l0 l1 l2 l3 l4 h = some q → jl_Sem jt_T jt_Ms d 43 [.ref l0, .ref l1, .int l2, .int l3, .int l4] h (jo_i q) := by
 unfold F_Prog_canDo
 exact jr_enter (D := 4) hd jM_43_at rfl rfl rfl (fun d hd =>
  jr_iloadn 0 1 rfl rfl rfl
  (jr_iconst 1 2 (1 : Int32) rfl jc_i_1 rfl
  (jr_icmp_ne 2 13 5 rfl rfl rfl
  (jr_iloadn 13 14 rfl rfl rfl
  (jr_iconst 14 15 (2 : Int32) rfl jc_i_2 rfl
  (jr_icmp_ne 15 24 18 rfl rfl rfl
  (jr_aloadn 24 25 rfl rfl rfl
  (jr_cVi 25 28 [] rfl rfl rfl rfl rfl rfl rfl rfl (as := []) (F_Scene_hourNow_ok (Nat.le_trans (by decide : 1 ≤ 4) hd)) (fun v1 h2 =>
  jr_sipush 28 31 (1000 : Int32) rfl jc_s_1000 rfl
  (jr_icmp_lt 31 36 34 rfl rfl rfl
  (jr_aloadn 36 37 rfl rfl rfl
  (jr_cVv 37 40 [] rfl rfl rfl rfl rfl rfl rfl rfl (as := []) (F_Scene_pass_ok (Nat.le_trans (by decide : 4 ≤ 4) hd)) (fun h3 =>
  jr_iconst 40 41 (1 : Int32) rfl jc_i_1 rfl
  (jr_rz 41 rfl rfl))))
  (jr_iconst 34 35 (0 : Int32) rfl jc_i_0 rfl
  (jr_rz 35 rfl rfl))))))
  (jr_aloadn 18 19 rfl rfl rfl
  (jr_iloadn 19 20 rfl rfl rfl
  (jr_cVi 20 23 [] rfl rfl rfl rfl rfl rfl rfl rfl (as := [.int l3]) (F_Scene_quench_ok (Nat.le_trans (by decide : 2 ≤ 4) hd)) (fun v4 h5 =>
  jr_rz 23 rfl rfl)))))))
  (jr_aloadn 5 6 rfl rfl rfl
  (jr_iloadn 6 7 rfl rfl rfl
  (jr_iload 7 9 rfl rfl rfl
  (jr_cVi 9 12 [] rfl rfl rfl rfl rfl rfl rfl rfl (as := [.int l3, .int l4]) (F_Scene_lay_ok (Nat.le_trans (by decide : 2 ≤ 4) hd)) (fun v6 h7 =>
  jr_rz 12 rfl rfl))))))))
noncomputable def jM_42 : JMeth := (5, false, 0, jk_42, [], 8)
set_option maxRecDepth 100000 in
theorem jM_42_at : jt_Ms 42 = some jM_42 := rfl
noncomputable def F_Prog_runSteps_b186 (R : Nat → Nat → Int32 → Int32 → Int32 → LH → Option LH) (h : LH) : Option LH :=
 some h
set_option maxRecDepth 100000 in
theorem F_Prog_runSteps_b186_ok {d : Nat} {rd : Nat} {R : Nat → Nat → Int32 → Int32 → Int32 → LH → Option LH} {q : LH} (hd : 5 + rd ≤ d) (hRR : ∀ d : Nat, rd ≤ d → ∀ (r0 : Nat) (r1 : Nat) (r2 : Int32) (r3 : Int32) (r4 : Int32) (hh : LH) (qq : LH), R r0 r1 r2 r3 r4 hh = some qq → jl_Sem jt_T jt_Ms d 42 [.ref r0, .ref r1, .int r2, .int r3, .int r4] hh (jo_v qq)) (hR : ∀ (r0 : Nat) (r1 : Nat) (r2 : Int32) (r3 : Int32) (r4 : Int32) (hh : LH) (qq : LH), R r0 r1 r2 r3 r4 hh = some qq → jl_Sem jt_T jt_Ms d 42 [.ref r0, .ref r1, .int r2, .int r3, .int r4] hh (jo_v qq)) {u0 : Value} {u1 : Value} {u2 : Value} {u3 : Value} {u4 : Value} {u5 : Value} {u6 : Value} {u7 : Value} {h : LH} : F_Prog_runSteps_b186 R h = some q → JR d jM_42 186 [u0, u1, u2, u3, u4, u5, u6, u7] [] h (jo_v q) := by
 unfold F_Prog_runSteps_b186
 exact jr_rv 186 rfl rfl
noncomputable def F_Prog_runSteps_b179 (R : Nat → Nat → Int32 → Int32 → Int32 → LH → Option LH) (k11 : Nat → Nat → Int32 → Int32 → Int32 → LH → Option LH) (l0 : Nat) (l1 : Nat) (l3 : Int32) (l4 : Int32) (l6 : Int32) (h : LH) : Option LH :=
 k11 l0 l1 l3 l4 l6 h
set_option maxRecDepth 100000 in
theorem F_Prog_runSteps_b179_ok {d : Nat} {rd : Nat} {R : Nat → Nat → Int32 → Int32 → Int32 → LH → Option LH} {q : LH} {k11 : Nat → Nat → Int32 → Int32 → Int32 → LH → Option LH} (hd : 5 + rd ≤ d) (hRR : ∀ d : Nat, rd ≤ d → ∀ (r0 : Nat) (r1 : Nat) (r2 : Int32) (r3 : Int32) (r4 : Int32) (hh : LH) (qq : LH), R r0 r1 r2 r3 r4 hh = some qq → jl_Sem jt_T jt_Ms d 42 [.ref r0, .ref r1, .int r2, .int r3, .int r4] hh (jo_v qq)) (hR : ∀ (r0 : Nat) (r1 : Nat) (r2 : Int32) (r3 : Int32) (r4 : Int32) (hh : LH) (qq : LH), R r0 r1 r2 r3 r4 hh = some qq → jl_Sem jt_T jt_Ms d 42 [.ref r0, .ref r1, .int r2, .int r3, .int r4] hh (jo_v qq)) (hk11 : ∀ (l0 : Nat) (l1 : Nat) (l3 : Int32) (l4 : Int32) (l5 : Int32) (u2 : Value) (u6 : Value) (u7 : Value) (h : LH), k11 l0 l1 l3 l4 l5 h = some q → JR d jM_42 11 [.ref l0, .ref l1, u2, .int l3, .int l4, .int l5, u6, u7] [] h (jo_v q)) {l0 : Nat} {l1 : Nat} {l3 : Int32} {l4 : Int32} {l6 : Int32} {u2 : Value} {u5 : Value} {u7 : Value} {h : LH} : F_Prog_runSteps_b179 R k11 l0 l1 l3 l4 l6 h = some q → JR d jM_42 179 [.ref l0, .ref l1, u2, .int l3, .int l4, u5, .int l6, u7] [] h (jo_v q) := by
 unfold F_Prog_runSteps_b179
 exact jr_iload 179 181 rfl rfl rfl
  (jr_istore 181 183 [.ref l0, .ref l1, u2, .int l3, .int l4, .int l6, .int l6, u7] rfl rfl rfl rfl
  (jr_goto 183 11 rfl rfl
  ((hk11 _ _ _ _ _ _ _ _ _))))
noncomputable def F_Prog_runSteps_b120 (R : Nat → Nat → Int32 → Int32 → Int32 → LH → Option LH) (k11 : Nat → Nat → Int32 → Int32 → Int32 → LH → Option LH) (l0 : Nat) (l1 : Nat) (l3 : Int32) (l4 : Int32) (l6 : Int32) (h : LH) : Option LH :=
 F_Prog_runSteps_b179 R k11 l0 l1 l3 l4 l6 h
set_option maxRecDepth 100000 in
theorem F_Prog_runSteps_b120_ok {d : Nat} {rd : Nat} {R : Nat → Nat → Int32 → Int32 → Int32 → LH → Option LH} {q : LH} {k11 : Nat → Nat → Int32 → Int32 → Int32 → LH → Option LH} (hd : 5 + rd ≤ d) (hRR : ∀ d : Nat, rd ≤ d → ∀ (r0 : Nat) (r1 : Nat) (r2 : Int32) (r3 : Int32) (r4 : Int32) (hh : LH) (qq : LH), R r0 r1 r2 r3 r4 hh = some qq → jl_Sem jt_T jt_Ms d 42 [.ref r0, .ref r1, .int r2, .int r3, .int r4] hh (jo_v qq)) (hR : ∀ (r0 : Nat) (r1 : Nat) (r2 : Int32) (r3 : Int32) (r4 : Int32) (hh : LH) (qq : LH), R r0 r1 r2 r3 r4 hh = some qq → jl_Sem jt_T jt_Ms d 42 [.ref r0, .ref r1, .int r2, .int r3, .int r4] hh (jo_v qq)) (hk11 : ∀ (l0 : Nat) (l1 : Nat) (l3 : Int32) (l4 : Int32) (l5 : Int32) (u2 : Value) (u6 : Value) (u7 : Value) (h : LH), k11 l0 l1 l3 l4 l5 h = some q → JR d jM_42 11 [.ref l0, .ref l1, u2, .int l3, .int l4, .int l5, u6, u7] [] h (jo_v q)) {l0 : Nat} {l1 : Nat} {l3 : Int32} {l4 : Int32} {l6 : Int32} {u2 : Value} {u5 : Value} {u7 : Value} {h : LH} : F_Prog_runSteps_b120 R k11 l0 l1 l3 l4 l6 h = some q → JR d jM_42 120 [.ref l0, .ref l1, u2, .int l3, .int l4, u5, .int l6, u7] [] h (jo_v q) := by
 unfold F_Prog_runSteps_b120
 exact jr_goto 120 179 rfl rfl
  ((F_Prog_runSteps_b179_ok hd hRR hR hk11))
noncomputable def F_Prog_runSteps_c75 (R : Nat → Nat → Int32 → Int32 → Int32 → LH → Option LH) (k11 : Nat → Nat → Int32 → Int32 → Int32 → LH → Option LH) (k75 : Nat → Nat → Int32 → Int32 → Int32 → Int32 → Int32 → LH → Option LH) (l0 : Nat) (l1 : Nat) (l3 : Int32) (l4 : Int32) (l5 : Int32) (l6 : Int32) (l7 : Int32) (h : LH) : Option LH :=
 jf_gr h l0 5 0 fun v1 =>
 jf_ia h v1 (l5 + (1 : Int32)) fun v2 =>
 if l7 < v2 then
 jf_gi h l0 5 2 fun v3 =>
 if v3 < (200 : Int32) then
 jf_kd h l0 5
 ((R l0 l1 (l5 + (3 : Int32)) l6 (l4 + (1 : Int32)) h).bind fun h4 =>
 k75 l0 l1 l3 l4 l5 l6 (l7 + (1 : Int32)) h4)
else
 F_Prog_runSteps_b120 R k11 l0 l1 l3 l4 l6 h
else
 F_Prog_runSteps_b120 R k11 l0 l1 l3 l4 l6 h
set_option maxRecDepth 100000 in
theorem F_Prog_runSteps_c75_ok {d : Nat} {rd : Nat} {R : Nat → Nat → Int32 → Int32 → Int32 → LH → Option LH} {q : LH} {k11 : Nat → Nat → Int32 → Int32 → Int32 → LH → Option LH} {k75 : Nat → Nat → Int32 → Int32 → Int32 → Int32 → Int32 → LH → Option LH} (hd : 5 + rd ≤ d) (hRR : ∀ d : Nat, rd ≤ d → ∀ (r0 : Nat) (r1 : Nat) (r2 : Int32) (r3 : Int32) (r4 : Int32) (hh : LH) (qq : LH), R r0 r1 r2 r3 r4 hh = some qq → jl_Sem jt_T jt_Ms d 42 [.ref r0, .ref r1, .int r2, .int r3, .int r4] hh (jo_v qq)) (hR : ∀ (r0 : Nat) (r1 : Nat) (r2 : Int32) (r3 : Int32) (r4 : Int32) (hh : LH) (qq : LH), R r0 r1 r2 r3 r4 hh = some qq → jl_Sem jt_T jt_Ms d 42 [.ref r0, .ref r1, .int r2, .int r3, .int r4] hh (jo_v qq)) (hk11 : ∀ (l0 : Nat) (l1 : Nat) (l3 : Int32) (l4 : Int32) (l5 : Int32) (u2 : Value) (u6 : Value) (u7 : Value) (h : LH), k11 l0 l1 l3 l4 l5 h = some q → JR d jM_42 11 [.ref l0, .ref l1, u2, .int l3, .int l4, .int l5, u6, u7] [] h (jo_v q)) (hk75 : ∀ (l0 : Nat) (l1 : Nat) (l3 : Int32) (l4 : Int32) (l5 : Int32) (l6 : Int32) (l7 : Int32) (u2 : Value) (h : LH), k75 l0 l1 l3 l4 l5 l6 l7 h = some q → JR d jM_42 75 [.ref l0, .ref l1, u2, .int l3, .int l4, .int l5, .int l6, .int l7] [] h (jo_v q)) {l0 : Nat} {l1 : Nat} {l3 : Int32} {l4 : Int32} {l5 : Int32} {l6 : Int32} {l7 : Int32} {u2 : Value} {h : LH} : F_Prog_runSteps_c75 R k11 k75 l0 l1 l3 l4 l5 l6 l7 h = some q → JR d jM_42 75 [.ref l0, .ref l1, u2, .int l3, .int l4, .int l5, .int l6, .int l7] [] h (jo_v q) := by
 unfold F_Prog_runSteps_c75
 exact jr_iload 75 77 rfl rfl rfl
  (jr_aloadn 77 78 rfl rfl rfl
  (jr_gr 78 81 rfl jg_5_11_2 rfl (fun v1 =>
  jr_iload 81 83 rfl rfl rfl
  (jr_iconst 83 84 (1 : Int32) rfl jc_i_1 rfl
  (jr_iadd 84 85 rfl rfl
  (jr_ia 85 86 rfl rfl (fun v2 =>
  jr_icmp_ge 86 120 89 rfl rfl rfl
  ((F_Prog_runSteps_b120_ok hd hRR hR hk11))
  (jr_aloadn 89 90 rfl rfl rfl
  (jr_gi 90 93 rfl jg_5_77_1 rfl (fun v3 =>
  jr_sipush 93 96 (200 : Int32) rfl jc_s_200 rfl
  (jr_icmp_ge 96 120 99 rfl rfl rfl
  ((F_Prog_runSteps_b120_ok hd hRR hR hk11))
  (jr_aloadn 99 100 rfl rfl rfl
  (jr_aloadn 100 101 rfl rfl rfl
  (jr_iload 101 103 rfl rfl rfl
  (jr_iconst 103 104 (3 : Int32) rfl jc_i_3 rfl
  (jr_iadd 104 105 rfl rfl
  (jr_iload 105 107 rfl rfl rfl
  (jr_iload 107 109 rfl rfl rfl
  (jr_iconst 109 110 (1 : Int32) rfl jc_i_1 rfl
  (jr_iadd 110 111 rfl rfl
  (jr_cVv 111 114 [] rfl rfl rfl rfl rfl rfl rfl rfl (as := [.ref l1, .int (l5 + (3 : Int32)), .int l6, .int (l4 + (1 : Int32))]) (fun hq => hR _ _ _ _ _ _ _ hq) (fun h4 =>
  jr_iinc 114 117 [.ref l0, .ref l1, u2, .int l3, .int l4, .int l5, .int l6, .int (l7 + (1 : Int32))] rfl jc_i_1 rfl rfl rfl rfl
  (jr_goto 117 75 rfl rfl
  ((hk75 _ _ _ _ _ _ _ _ _)))))))))))))))))))))))))
noncomputable def F_Prog_runSteps_l75 (R : Nat → Nat → Int32 → Int32 → Int32 → LH → Option LH) (k11 : Nat → Nat → Int32 → Int32 → Int32 → LH → Option LH) : Nat → Nat → Nat → Int32 → Int32 → Int32 → Int32 → Int32 → LH → Option LH
 | 0, _, _, _, _, _, _, _, _ => none
 | n + 1, l0, l1, l3, l4, l5, l6, l7, h => F_Prog_runSteps_c75 R k11 (F_Prog_runSteps_l75 R k11 n) l0 l1 l3 l4 l5 l6 l7 h
theorem F_Prog_runSteps_l75_ok {d : Nat} {rd : Nat} {R : Nat → Nat → Int32 → Int32 → Int32 → LH → Option LH} {q : LH} {k11 : Nat → Nat → Int32 → Int32 → Int32 → LH → Option LH} (hd : 5 + rd ≤ d) (hRR : ∀ d : Nat, rd ≤ d → ∀ (r0 : Nat) (r1 : Nat) (r2 : Int32) (r3 : Int32) (r4 : Int32) (hh : LH) (qq : LH), R r0 r1 r2 r3 r4 hh = some qq → jl_Sem jt_T jt_Ms d 42 [.ref r0, .ref r1, .int r2, .int r3, .int r4] hh (jo_v qq)) (hR : ∀ (r0 : Nat) (r1 : Nat) (r2 : Int32) (r3 : Int32) (r4 : Int32) (hh : LH) (qq : LH), R r0 r1 r2 r3 r4 hh = some qq → jl_Sem jt_T jt_Ms d 42 [.ref r0, .ref r1, .int r2, .int r3, .int r4] hh (jo_v qq)) (hk11 : ∀ (l0 : Nat) (l1 : Nat) (l3 : Int32) (l4 : Int32) (l5 : Int32) (u2 : Value) (u6 : Value) (u7 : Value) (h : LH), k11 l0 l1 l3 l4 l5 h = some q → JR d jM_42 11 [.ref l0, .ref l1, u2, .int l3, .int l4, .int l5, u6, u7] [] h (jo_v q)) : ∀ (n : Nat) (l0 : Nat) (l1 : Nat) (l3 : Int32) (l4 : Int32) (l5 : Int32) (l6 : Int32) (l7 : Int32) (u2 : Value) (h : LH), F_Prog_runSteps_l75 R k11 n l0 l1 l3 l4 l5 l6 l7 h = some q → JR d jM_42 75 [.ref l0, .ref l1, u2, .int l3, .int l4, .int l5, .int l6, .int l7] [] h (jo_v q)
 | 0 => fun _ _ _ _ _ _ _ _ _ hq => nomatch (show (none : Option LH) = some q from hq)
 | n + 1 => fun _ _ _ _ _ _ _ _ _ hq => F_Prog_runSteps_c75_ok hd hRR hR hk11 (F_Prog_runSteps_l75_ok hd hRR hR hk11 n) hq
noncomputable def F_Prog_runSteps_c11 (R : Nat → Nat → Int32 → Int32 → Int32 → LH → Option LH) (k11 : Nat → Nat → Int32 → Int32 → Int32 → LH → Option LH) (l0 : Nat) (l1 : Nat) (l3 : Int32) (l4 : Int32) (l5 : Int32) (h : LH) : Option LH :=
 if l3 < (l5 + (3 : Int32)) then
 F_Prog_runSteps_b186 R  h
else
 jf_gi h l0 5 2 fun v1 =>
 if v1 < (200 : Int32) then
 jf_gi h l0 5 2 fun v2 =>
 jf_pi h l0 5 2 (v2 + (1 : Int32)) fun h3 =>
 jf_let (l5 + (3 : Int32)) fun v4 =>
 jf_gr h3 l0 5 0 fun v5 =>
 jf_ia h3 v5 l5 fun v6 =>
 if v6 = (4 : Int32) then
 jf_gr h3 l0 5 0 fun v19 =>
 jf_ia h3 v19 (l5 + (2 : Int32)) fun v20 =>
 jf_let (if v4 < v20 then v20 else v4) fun v21 =>
 F_Prog_runSteps_l75 R k11 jF l0 l1 l3 l4 l5 v21 (0 : Int32) h3
else
 jf_gr h3 l0 5 0 fun v7 =>
 jf_ia h3 v7 l5 fun v8 =>
 jf_gr h3 l0 5 0 fun v9 =>
 jf_ia h3 v9 (l5 + (1 : Int32)) fun v10 =>
 jf_gr h3 l0 5 0 fun v11 =>
 jf_ia h3 v11 (l5 + (2 : Int32)) fun v12 =>
 jf_kd h3 l0 5
 (jf_bi (F_Prog_canDo l0 l1 v8 v10 v12 h3) fun v13 h14 =>
 if v13 = 0 then
 jf_gi h14 l0 5 4 fun v15 =>
 jf_pi h14 l0 5 4 (v15 + (1 : Int32)) fun h16 =>
 F_Prog_runSteps_b179 R k11 l0 l1 l3 l4 v4 h16
else
 jf_gi h14 l0 5 3 fun v17 =>
 jf_pi h14 l0 5 3 (v17 + (1 : Int32)) fun h18 =>
 F_Prog_runSteps_b179 R k11 l0 l1 l3 l4 v4 h18)
else
 F_Prog_runSteps_b186 R  h
set_option maxRecDepth 100000 in
theorem F_Prog_runSteps_c11_ok {d : Nat} {rd : Nat} {R : Nat → Nat → Int32 → Int32 → Int32 → LH → Option LH} {q : LH} {k11 : Nat → Nat → Int32 → Int32 → Int32 → LH → Option LH} (hd : 5 + rd ≤ d) (hRR : ∀ d : Nat, rd ≤ d → ∀ (r0 : Nat) (r1 : Nat) (r2 : Int32) (r3 : Int32) (r4 : Int32) (hh : LH) (qq : LH), R r0 r1 r2 r3 r4 hh = some qq → jl_Sem jt_T jt_Ms d 42 [.ref r0, .ref r1, .int r2, .int r3, .int r4] hh (jo_v qq)) (hR : ∀ (r0 : Nat) (r1 : Nat) (r2 : Int32) (r3 : Int32) (r4 : Int32) (hh : LH) (qq : LH), R r0 r1 r2 r3 r4 hh = some qq → jl_Sem jt_T jt_Ms d 42 [.ref r0, .ref r1, .int r2, .int r3, .int r4] hh (jo_v qq)) (hk11 : ∀ (l0 : Nat) (l1 : Nat) (l3 : Int32) (l4 : Int32) (l5 : Int32) (u2 : Value) (u6 : Value) (u7 : Value) (h : LH), k11 l0 l1 l3 l4 l5 h = some q → JR d jM_42 11 [.ref l0, .ref l1, u2, .int l3, .int l4, .int l5, u6, u7] [] h (jo_v q)) {l0 : Nat} {l1 : Nat} {l3 : Int32} {l4 : Int32} {l5 : Int32} {u2 : Value} {u6 : Value} {u7 : Value} {h : LH} : F_Prog_runSteps_c11 R k11 l0 l1 l3 l4 l5 h = some q → JR d jM_42 11 [.ref l0, .ref l1, u2, .int l3, .int l4, .int l5, u6, u7] [] h (jo_v q) := by
 unfold F_Prog_runSteps_c11
 exact jr_iload 11 13 rfl rfl rfl
  (jr_iconst 13 14 (3 : Int32) rfl jc_i_3 rfl
  (jr_iadd 14 15 rfl rfl
  (jr_iloadn 15 16 rfl rfl rfl
  (jr_icmp_gt 16 186 19 rfl rfl rfl
  ((F_Prog_runSteps_b186_ok hd hRR hR ))
  (jr_aloadn 19 20 rfl rfl rfl
  (jr_gi 20 23 rfl jg_5_77_1 rfl (fun v1 =>
  jr_sipush 23 26 (200 : Int32) rfl jc_s_200 rfl
  (jr_icmp_ge 26 186 29 rfl rfl rfl
  ((F_Prog_runSteps_b186_ok hd hRR hR ))
  (jr_aloadn 29 30 rfl rfl rfl
  (jr_dup 30 31 rfl rfl rfl
  (jr_gi 31 34 rfl jg_5_77_1 rfl (fun v2 =>
  jr_iconst 34 35 (1 : Int32) rfl jc_i_1 rfl
  (jr_iadd 35 36 rfl rfl
  (jr_pi 36 39 rfl jg_5_77_3 rfl (fun h3 =>
  jr_iload 39 41 rfl rfl rfl
  (jr_iconst 41 42 (3 : Int32) rfl jc_i_3 rfl
  (jr_iadd 42 43 rfl rfl
  (jr_istoreL 43 45 (fun v4 => [.ref l0, .ref l1, u2, .int l3, .int l4, .int l5, .int v4, u7]) rfl rfl (fun _ => rfl) rfl (fun v4 =>
  jr_aloadn 45 46 rfl rfl rfl
  (jr_gr 46 49 rfl jg_5_11_2 rfl (fun v5 =>
  jr_iload 49 51 rfl rfl rfl
  (jr_ia 51 52 rfl rfl (fun v6 =>
  jr_iconst 52 53 (4 : Int32) rfl jc_i_4 rfl
  (jr_icmp_ne 53 123 56 rfl rfl rfl
  (jr_aloadn 123 124 rfl rfl rfl
  (jr_aloadn 124 125 rfl rfl rfl
  (jr_aloadn 125 126 rfl rfl rfl
  (jr_gr 126 129 rfl jg_5_11_2 rfl (fun v7 =>
  jr_iload 129 131 rfl rfl rfl
  (jr_ia 131 132 rfl rfl (fun v8 =>
  jr_aloadn 132 133 rfl rfl rfl
  (jr_gr 133 136 rfl jg_5_11_2 rfl (fun v9 =>
  jr_iload 136 138 rfl rfl rfl
  (jr_iconst 138 139 (1 : Int32) rfl jc_i_1 rfl
  (jr_iadd 139 140 rfl rfl
  (jr_ia 140 141 rfl rfl (fun v10 =>
  jr_aloadn 141 142 rfl rfl rfl
  (jr_gr 142 145 rfl jg_5_11_2 rfl (fun v11 =>
  jr_iload 145 147 rfl rfl rfl
  (jr_iconst 147 148 (2 : Int32) rfl jc_i_2 rfl
  (jr_iadd 148 149 rfl rfl
  (jr_ia 149 150 rfl rfl (fun v12 =>
  jr_cVi 150 153 [] rfl rfl rfl rfl rfl rfl rfl rfl (as := [.ref l1, .int v8, .int v10, .int v12]) (F_Prog_canDo_ok (Nat.le_trans (by decide : 5 ≤ 5) (Nat.le_trans (Nat.le_add_right _ rd) hd))) (fun v13 h14 =>
  jr_if_eq 153 169 156 rfl rfl rfl
  (jr_aloadn 169 170 rfl rfl rfl
  (jr_dup 170 171 rfl rfl rfl
  (jr_gi 171 174 rfl jg_5_83_1 rfl (fun v15 =>
  jr_iconst 174 175 (1 : Int32) rfl jc_i_1 rfl
  (jr_iadd 175 176 rfl rfl
  (jr_pi 176 179 rfl jg_5_83_3 rfl (fun h16 =>
  (F_Prog_runSteps_b179_ok hd hRR hR hk11))))))))
  (jr_aloadn 156 157 rfl rfl rfl
  (jr_dup 157 158 rfl rfl rfl
  (jr_gi 158 161 rfl jg_5_80_1 rfl (fun v17 =>
  jr_iconst 161 162 (1 : Int32) rfl jc_i_1 rfl
  (jr_iadd 162 163 rfl rfl
  (jr_pi 163 166 rfl jg_5_80_3 rfl (fun h18 =>
  jr_goto 166 179 rfl rfl
  ((F_Prog_runSteps_b179_ok hd hRR hR hk11)))))))))))))))))))))))))))))
  (jr_iload 56 58 rfl rfl rfl
  (jr_aloadn 58 59 rfl rfl rfl
  (jr_gr 59 62 rfl jg_5_11_2 rfl (fun v19 =>
  jr_iload 62 64 rfl rfl rfl
  (jr_iconst 64 65 (2 : Int32) rfl jc_i_2 rfl
  (jr_iadd 65 66 rfl rfl
  (jr_ia 66 67 rfl rfl (fun v20 =>
  jr_max 67 70 rfl rfl rfl rfl
  (jr_istoreL 70 72 (fun v21 => [.ref l0, .ref l1, u2, .int l3, .int l4, .int l5, .int v21, u7]) rfl rfl (fun _ => rfl) rfl (fun v21 =>
  jr_iconst 72 73 (0 : Int32) rfl jc_i_0 rfl
  (jr_istore 73 75 [.ref l0, .ref l1, u2, .int l3, .int l4, .int l5, .int v21, .int (0 : Int32)] rfl rfl rfl rfl
  ((F_Prog_runSteps_l75_ok hd hRR hR hk11 jF _ _ _ _ _ _ _ _ _)))))))))))))))))))))))))))))))))))))
noncomputable def F_Prog_runSteps_l11 (R : Nat → Nat → Int32 → Int32 → Int32 → LH → Option LH) : Nat → Nat → Nat → Int32 → Int32 → Int32 → LH → Option LH
 | 0, _, _, _, _, _, _ => none
 | n + 1, l0, l1, l3, l4, l5, h => F_Prog_runSteps_c11 R (F_Prog_runSteps_l11 R n) l0 l1 l3 l4 l5 h
theorem F_Prog_runSteps_l11_ok {d : Nat} {rd : Nat} {R : Nat → Nat → Int32 → Int32 → Int32 → LH → Option LH} {q : LH} (hd : 5 + rd ≤ d) (hRR : ∀ d : Nat, rd ≤ d → ∀ (r0 : Nat) (r1 : Nat) (r2 : Int32) (r3 : Int32) (r4 : Int32) (hh : LH) (qq : LH), R r0 r1 r2 r3 r4 hh = some qq → jl_Sem jt_T jt_Ms d 42 [.ref r0, .ref r1, .int r2, .int r3, .int r4] hh (jo_v qq)) (hR : ∀ (r0 : Nat) (r1 : Nat) (r2 : Int32) (r3 : Int32) (r4 : Int32) (hh : LH) (qq : LH), R r0 r1 r2 r3 r4 hh = some qq → jl_Sem jt_T jt_Ms d 42 [.ref r0, .ref r1, .int r2, .int r3, .int r4] hh (jo_v qq)) : ∀ (n : Nat) (l0 : Nat) (l1 : Nat) (l3 : Int32) (l4 : Int32) (l5 : Int32) (u2 : Value) (u6 : Value) (u7 : Value) (h : LH), F_Prog_runSteps_l11 R n l0 l1 l3 l4 l5 h = some q → JR d jM_42 11 [.ref l0, .ref l1, u2, .int l3, .int l4, .int l5, u6, u7] [] h (jo_v q)
 | 0 => fun _ _ _ _ _ _ _ _ _ hq => nomatch (show (none : Option LH) = some q from hq)
 | n + 1 => fun _ _ _ _ _ _ _ _ _ hq => F_Prog_runSteps_c11_ok hd hRR hR (F_Prog_runSteps_l11_ok hd hRR hR n) hq
noncomputable def E_Prog_runSteps (R : Nat → Nat → Int32 → Int32 → Int32 → LH → Option LH) (l0 : Nat) (l1 : Nat) (l2 : Int32) (l3 : Int32) (l4 : Int32) (h : LH) : Option LH :=
 if (6 : Int32) < l4 then
 some h
else
 F_Prog_runSteps_l11 R  jF l0 l1 l3 l4 l2 h
set_option maxRecDepth 100000 in
theorem E_Prog_runSteps_ok {d : Nat} {rd : Nat} {R : Nat → Nat → Int32 → Int32 → Int32 → LH → Option LH} (hd : 6 + rd ≤ d) (hRR : ∀ d : Nat, rd ≤ d → ∀ (r0 : Nat) (r1 : Nat) (r2 : Int32) (r3 : Int32) (r4 : Int32) (hh : LH) (qq : LH), R r0 r1 r2 r3 r4 hh = some qq → jl_Sem jt_T jt_Ms d 42 [.ref r0, .ref r1, .int r2, .int r3, .int r4] hh (jo_v qq)) {l0 : Nat} {l1 : Nat} {l2 : Int32} {l3 : Int32} {l4 : Int32} {h : LH} {q : LH} : E_Prog_runSteps R l0 l1 l2 l3 l4 h = some q → jl_Sem jt_T jt_Ms d 42 [.ref l0, .ref l1, .int l2, .int l3, .int l4] h (jo_v q) := by
 unfold E_Prog_runSteps
 exact jr_enter (D := 5 + rd) (Nat.le_trans (Nat.le_of_eq (by omega)) hd) jM_42_at rfl rfl rfl (fun d hd =>
  have hR := hRR d (Nat.le_trans (Nat.le_add_left rd _) hd)
  jr_iload 0 2 rfl rfl rfl
  (jr_bipush 2 4 (6 : Int32) rfl jc_b_6 rfl
  (jr_icmp_le 4 8 7 rfl rfl rfl
  (jr_iloadn 8 9 rfl rfl rfl
  (jr_istore 9 11 [.ref l0, .ref l1, .int l2, .int l3, .int l4, .int l2, .retAddr 0, .retAddr 0] rfl rfl rfl rfl
  ((F_Prog_runSteps_l11_ok hd hRR hR  jF _ _ _ _ _ _ _ _ _))))
  (jr_rv 7 rfl rfl))))
noncomputable def F_Prog_runSteps : Nat → Nat → Nat → Int32 → Int32 → Int32 → LH → Option LH
 | 0, _, _, _, _, _, _ => none
 | n + 1, l0, l1, l2, l3, l4, h => E_Prog_runSteps (F_Prog_runSteps n) l0 l1 l2 l3 l4 h
theorem F_Prog_runSteps_all : ∀ (n d : Nat), 6 * n ≤ d → ∀ (l0 : Nat) (l1 : Nat) (l2 : Int32) (l3 : Int32) (l4 : Int32) (h : LH) (q : LH), F_Prog_runSteps n l0 l1 l2 l3 l4 h = some q → jl_Sem jt_T jt_Ms d 42 [.ref l0, .ref l1, .int l2, .int l3, .int l4] h (jo_v q)
 | 0, _, _ => fun _ _ _ _ _ _ _ hq => nomatch (show (none : Option LH) = some _ from hq)
 | n + 1, d, hd => fun _ _ _ _ _ _ _ hq => E_Prog_runSteps_ok (rd := 6 * n) (Nat.le_trans (Nat.le_of_eq (by omega)) hd) (F_Prog_runSteps_all n) hq
theorem F_Prog_runSteps_ok (n : Nat) {d : Nat} (hd : 6 * n ≤ d) {l0 : Nat} {l1 : Nat} {l2 : Int32} {l3 : Int32} {l4 : Int32} {h : LH} {q : LH} : F_Prog_runSteps n l0 l1 l2 l3 l4 h = some q → jl_Sem jt_T jt_Ms d 42 [.ref l0, .ref l1, .int l2, .int l3, .int l4] h (jo_v q) := F_Prog_runSteps_all n d hd _ _ _ _ _ _ _
noncomputable def jM_41 : JMeth := (5, false, 0, jk_41, [], 2)
set_option maxRecDepth 100000 in
theorem jM_41_at : jt_Ms 41 = some jM_41 := rfl
noncomputable def F_Prog_run (l0 : Nat) (l1 : Nat) (h : LH) : Option LH :=
 jf_pi h l0 5 2 (0 : Int32) fun h1 =>
 jf_pi h1 l0 5 3 (0 : Int32) fun h2 =>
 jf_pi h2 l0 5 4 (0 : Int32) fun h3 =>
 jf_gi h3 l0 5 1 fun v4 =>
 jf_kd h3 l0 5
 ((F_Prog_runSteps jE l0 l1 (0 : Int32) v4 (0 : Int32) h3).bind fun h5 =>
 some h5)
set_option maxRecDepth 100000 in
theorem F_Prog_run_ok {d : Nat} (hd : 121 ≤ d) {l0 : Nat} {l1 : Nat} {h : LH} {q : LH} : F_Prog_run l0 l1 h = some q → jl_Sem jt_T jt_Ms d 41 [.ref l0, .ref l1] h (jo_v q) := by
 unfold F_Prog_run
 exact jr_enter (D := 120) hd jM_41_at rfl rfl rfl (fun d hd =>
  jr_aloadn 0 1 rfl rfl rfl
  (jr_iconst 1 2 (0 : Int32) rfl jc_i_0 rfl
  (jr_pi 2 5 rfl jg_5_77_3 rfl (fun h1 =>
  jr_aloadn 5 6 rfl rfl rfl
  (jr_iconst 6 7 (0 : Int32) rfl jc_i_0 rfl
  (jr_pi 7 10 rfl jg_5_80_3 rfl (fun h2 =>
  jr_aloadn 10 11 rfl rfl rfl
  (jr_iconst 11 12 (0 : Int32) rfl jc_i_0 rfl
  (jr_pi 12 15 rfl jg_5_83_3 rfl (fun h3 =>
  jr_aloadn 15 16 rfl rfl rfl
  (jr_aloadn 16 17 rfl rfl rfl
  (jr_iconst 17 18 (0 : Int32) rfl jc_i_0 rfl
  (jr_aloadn 18 19 rfl rfl rfl
  (jr_gi 19 22 rfl jg_5_15_1 rfl (fun v4 =>
  jr_iconst 22 23 (0 : Int32) rfl jc_i_0 rfl
  (jr_cVv 23 26 [] rfl rfl rfl rfl rfl rfl rfl rfl (as := [.ref l1, .int (0 : Int32), .int v4, .int (0 : Int32)]) (F_Prog_runSteps_ok jE (Nat.le_trans (by decide : 6 * jE ≤ 120) hd)) (fun h5 =>
  jr_rv 26 rfl rfl)))))))))))))))))
noncomputable def jM_44 : JMeth := (6, true, 0, jk_44, [], 3)
set_option maxRecDepth 100000 in
theorem jM_44_at : jt_Ms 44 = some jM_44 := rfl
noncomputable def F_Scene_init (l0 : Nat) (l1 : Nat) (l2 : Nat) (h : LH) : Option LH :=
 jf_na h 20 (134 : Int32) fun v1 h2 =>
 jf_pr h2 l0 6 0 v1 fun h3 =>
 jf_na h3 20 (9 : Int32) fun v4 h5 =>
 jf_pr h5 l0 6 7 v4 fun h6 =>
 jf_na h6 20 (9 : Int32) fun v7 h8 =>
 jf_pr h8 l0 6 8 v7 fun h9 =>
 jf_na h9 20 (7 : Int32) fun v10 h11 =>
 jf_pr h11 l0 6 9 v10 fun h12 =>
 jf_pr h12 l0 6 1 l1 fun h13 =>
 jf_pr h13 l0 6 2 l2 fun h14 =>
 some h14
set_option maxRecDepth 100000 in
theorem F_Scene_init_ok {d : Nat} (hd : 1 ≤ d) {l0 : Nat} {l1 : Nat} {l2 : Nat} {h : LH} {q : LH} : F_Scene_init l0 l1 l2 h = some q → jl_Sem jt_T jt_Ms d 44 [.ref l0, .ref l1, .ref l2] h (jo_v q) := by
 unfold F_Scene_init
 exact jr_enter (D := 0) hd jM_44_at rfl rfl rfl (fun d hd =>
  jr_aloadn 0 1 rfl rfl rfl
  (jr_oi 1 4 rfl rfl rfl rfl
  (jr_aloadn 4 5 rfl rfl rfl
  (jr_sipush 5 8 (134 : Int32) rfl jc_s_134 rfl
  (jr_na 8 10 rfl rfl rfl rfl (fun v1 h2 =>
  jr_prF 10 13 rfl rfl jg_6_11_6 rfl (fun h3 =>
  jr_aloadn 13 14 rfl rfl rfl
  (jr_bipush 14 16 (9 : Int32) rfl jc_b_9 rfl
  (jr_na 16 18 rfl rfl rfl rfl (fun v4 h5 =>
  jr_prF 18 21 rfl rfl jg_6_15_6 rfl (fun h6 =>
  jr_aloadn 21 22 rfl rfl rfl
  (jr_bipush 22 24 (9 : Int32) rfl jc_b_9 rfl
  (jr_na 24 26 rfl rfl rfl rfl (fun v7 h8 =>
  jr_prF 26 29 rfl rfl jg_6_18_6 rfl (fun h9 =>
  jr_aloadn 29 30 rfl rfl rfl
  (jr_bipush 30 32 (7 : Int32) rfl jc_b_7 rfl
  (jr_na 32 34 rfl rfl rfl rfl (fun v10 h11 =>
  jr_prF 34 37 rfl rfl jg_6_23_6 rfl (fun h12 =>
  jr_aloadn 37 38 rfl rfl rfl
  (jr_aloadn 38 39 rfl rfl rfl
  (jr_pr 39 42 rfl jg_6_26_5 rfl (fun h13 =>
  jr_aloadn 42 43 rfl rfl rfl
  (jr_aloadn 43 44 rfl rfl rfl
  (jr_pr 44 47 rfl jg_6_30_5 rfl (fun h14 =>
  jr_rv 47 rfl rfl)))))))))))))))))))))))))
noncomputable def jM_46 : JMeth := (6, false, 1, jk_46, [], 3)
set_option maxRecDepth 100000 in
theorem jM_46_at : jt_Ms 46 = some jM_46 := rfl
noncomputable def F_Scene_smokingGates_b29 (k4 : Nat → Int32 → Int32 → LH → Option (Int32 × LH)) (l0 : Nat) (l1 : Int32) (l2 : Int32) (h : LH) : Option (Int32 × LH) :=
 k4 l0 l1 (l2 + (1 : Int32)) h
set_option maxRecDepth 100000 in
theorem F_Scene_smokingGates_b29_ok {d : Nat} {q : (Int32 × LH)} {k4 : Nat → Int32 → Int32 → LH → Option (Int32 × LH)} (hd : 1 ≤ d) (hk4 : ∀ (l0 : Nat) (l1 : Int32) (l2 : Int32) (h : LH), k4 l0 l1 l2 h = some q → JR d jM_46 4 [.ref l0, .int l1, .int l2] [] h (jo_i q)) {l0 : Nat} {l1 : Int32} {l2 : Int32} {h : LH} : F_Scene_smokingGates_b29 k4 l0 l1 l2 h = some q → JR d jM_46 29 [.ref l0, .int l1, .int l2] [] h (jo_i q) := by
 unfold F_Scene_smokingGates_b29
 exact jr_iinc 29 32 [.ref l0, .int l1, .int (l2 + (1 : Int32))] rfl jc_i_1 rfl rfl rfl rfl
  (jr_goto 32 4 rfl rfl
  ((hk4 _ _ _ _)))
noncomputable def F_Scene_smokingGates_c4 (k4 : Nat → Int32 → Int32 → LH → Option (Int32 × LH)) (l0 : Nat) (l1 : Int32) (l2 : Int32) (h : LH) : Option (Int32 × LH) :=
 jf_gr h l0 6 1 fun v1 =>
 jf_gi h v1 8 0 fun v2 =>
 if l2 < v2 then
 jf_kd h l0 6
 (jf_bi (F_Scene_burning l0 l2 h) fun v3 h4 =>
 if 0 < v3 then
 jf_let (l1 ||| ((1 : Int32) <<< (l2 &&& 31))) fun v5 =>
 F_Scene_smokingGates_b29 k4 l0 v5 l2 h4
else
 F_Scene_smokingGates_b29 k4 l0 l1 l2 h4)
else
 some (l1, h)
set_option maxRecDepth 100000 in
theorem F_Scene_smokingGates_c4_ok {d : Nat} {q : (Int32 × LH)} {k4 : Nat → Int32 → Int32 → LH → Option (Int32 × LH)} (hd : 1 ≤ d) (hk4 : ∀ (l0 : Nat) (l1 : Int32) (l2 : Int32) (h : LH), k4 l0 l1 l2 h = some q → JR d jM_46 4 [.ref l0, .int l1, .int l2] [] h (jo_i q)) {l0 : Nat} {l1 : Int32} {l2 : Int32} {h : LH} : F_Scene_smokingGates_c4 k4 l0 l1 l2 h = some q → JR d jM_46 4 [.ref l0, .int l1, .int l2] [] h (jo_i q) := by
 unfold F_Scene_smokingGates_c4
 exact jr_iloadn 4 5 rfl rfl rfl
  (jr_aloadn 5 6 rfl rfl rfl
  (jr_gr 6 9 rfl jg_6_26_2 rfl (fun v1 =>
  jr_gi 9 12 rfl jg_6_72_1 rfl (fun v2 =>
  jr_icmp_ge 12 35 15 rfl rfl rfl
  (jr_iloadn 35 36 rfl rfl rfl
  (jr_ri 36 rfl rfl))
  (jr_aloadn 15 16 rfl rfl rfl
  (jr_iloadn 16 17 rfl rfl rfl
  (jr_cVi 17 20 [] rfl rfl rfl rfl rfl rfl rfl rfl (as := [.int l2]) (F_Scene_burning_ok (Nat.le_trans (by decide : 1 ≤ 1) hd)) (fun v3 h4 =>
  jr_if_le 20 29 23 rfl rfl rfl
  ((F_Scene_smokingGates_b29_ok hd hk4))
  (jr_iloadn 23 24 rfl rfl rfl
  (jr_iconst 24 25 (1 : Int32) rfl jc_i_1 rfl
  (jr_iloadn 25 26 rfl rfl rfl
  (jr_ishl 26 27 rfl rfl
  (jr_ior 27 28 rfl rfl
  (jr_istorenL 28 29 (fun v5 => [.ref l0, .int v5, .int l2]) rfl rfl (fun _ => rfl) rfl (fun v5 =>
  (F_Scene_smokingGates_b29_ok hd hk4))))))))))))))))
noncomputable def F_Scene_smokingGates_l4 : Nat → Nat → Int32 → Int32 → LH → Option (Int32 × LH)
 | 0, _, _, _, _ => none
 | n + 1, l0, l1, l2, h => F_Scene_smokingGates_c4 (F_Scene_smokingGates_l4 n) l0 l1 l2 h
theorem F_Scene_smokingGates_l4_ok {d : Nat} {q : (Int32 × LH)} (hd : 1 ≤ d) : ∀ (n : Nat) (l0 : Nat) (l1 : Int32) (l2 : Int32) (h : LH), F_Scene_smokingGates_l4 n l0 l1 l2 h = some q → JR d jM_46 4 [.ref l0, .int l1, .int l2] [] h (jo_i q)
 | 0 => fun _ _ _ _ hq => nomatch (show (none : Option (Int32 × LH)) = some q from hq)
 | n + 1 => fun _ _ _ _ hq => F_Scene_smokingGates_c4_ok hd (F_Scene_smokingGates_l4_ok hd n) hq
noncomputable def F_Scene_smokingGates (l0 : Nat) (h : LH) : Option (Int32 × LH) :=
 F_Scene_smokingGates_l4  jF l0 (0 : Int32) (0 : Int32) h
set_option maxRecDepth 100000 in
theorem F_Scene_smokingGates_ok {d : Nat} (hd : 2 ≤ d) {l0 : Nat} {h : LH} {q : (Int32 × LH)} : F_Scene_smokingGates l0 h = some q → jl_Sem jt_T jt_Ms d 46 [.ref l0] h (jo_i q) := by
 unfold F_Scene_smokingGates
 exact jr_enter (D := 1) hd jM_46_at rfl rfl rfl (fun d hd =>
  jr_iconst 0 1 (0 : Int32) rfl jc_i_0 rfl
  (jr_istoren 1 2 [.ref l0, .int (0 : Int32), .retAddr 0] rfl rfl rfl rfl
  (jr_iconst 2 3 (0 : Int32) rfl jc_i_0 rfl
  (jr_istoren 3 4 [.ref l0, .int (0 : Int32), .int (0 : Int32)] rfl rfl rfl rfl
  ((F_Scene_smokingGates_l4_ok hd  jF _ _ _ _))))))
noncomputable def jM_50 : JMeth := (6, false, 0, jk_50, [], 2)
set_option maxRecDepth 100000 in
theorem jM_50_at : jt_Ms 50 = some jM_50 := rfl
noncomputable def F_Scene_begin_c24 (k24 : Nat → Int32 → LH → Option LH) (l0 : Nat) (l1 : Int32) (h : LH) : Option LH :=
 jf_gr h l0 6 1 fun v1 =>
 jf_gi h v1 8 1 fun v2 =>
 if l1 < v2 then
 jf_gr h l0 6 0 fun v5 =>
 jf_gr h l0 6 1 fun v6 =>
 jf_gr h v6 8 10 fun v7 =>
 jf_ia h v7 l1 fun v8 =>
 jf_is h v5 ((1 : Int32) + l1) v8 fun h9 =>
 k24 l0 (l1 + (1 : Int32)) h9
else
 jf_pz h l0 6 3 (0 : Int32) fun h3 =>
 jf_pz h3 l0 6 4 (0 : Int32) fun h4 =>
 some h4
set_option maxRecDepth 100000 in
theorem F_Scene_begin_c24_ok {d : Nat} {q : LH} {k24 : Nat → Int32 → LH → Option LH} (hd : 0 ≤ d) (hk24 : ∀ (l0 : Nat) (l1 : Int32) (h : LH), k24 l0 l1 h = some q → JR d jM_50 24 [.ref l0, .int l1] [] h (jo_v q)) {l0 : Nat} {l1 : Int32} {h : LH} : F_Scene_begin_c24 k24 l0 l1 h = some q → JR d jM_50 24 [.ref l0, .int l1] [] h (jo_v q) := by
 unfold F_Scene_begin_c24
 exact jr_iloadn 24 25 rfl rfl rfl
  (jr_aloadn 25 26 rfl rfl rfl
  (jr_gr 26 29 rfl jg_6_26_2 rfl (fun v1 =>
  jr_gi 29 32 rfl jg_6_34_1 rfl (fun v2 =>
  jr_icmp_ge 32 58 35 rfl rfl rfl
  (jr_aloadn 58 59 rfl rfl rfl
  (jr_iconst 59 60 (0 : Int32) rfl jc_i_0 rfl
  (jr_pz 60 63 rfl jg_6_43_4 rfl (fun h3 =>
  jr_aloadn 63 64 rfl rfl rfl
  (jr_iconst 64 65 (0 : Int32) rfl jc_i_0 rfl
  (jr_pz 65 68 rfl jg_6_47_4 rfl (fun h4 =>
  jr_rv 68 rfl rfl)))))))
  (jr_aloadn 35 36 rfl rfl rfl
  (jr_gr 36 39 rfl jg_6_11_2 rfl (fun v5 =>
  jr_iconst 39 40 (1 : Int32) rfl jc_i_1 rfl
  (jr_iloadn 40 41 rfl rfl rfl
  (jr_iadd 41 42 rfl rfl
  (jr_aloadn 42 43 rfl rfl rfl
  (jr_gr 43 46 rfl jg_6_26_2 rfl (fun v6 =>
  jr_gr 46 49 rfl jg_6_40_2 rfl (fun v7 =>
  jr_iloadn 49 50 rfl rfl rfl
  (jr_ia 50 51 rfl rfl (fun v8 =>
  jr_is 51 52 rfl rfl (fun h9 =>
  jr_iinc 52 55 [.ref l0, .int (l1 + (1 : Int32))] rfl jc_i_1 rfl rfl rfl rfl
  (jr_goto 55 24 rfl rfl
  ((hk24 _ _ _)))))))))))))))))))
noncomputable def F_Scene_begin_l24 : Nat → Nat → Int32 → LH → Option LH
 | 0, _, _, _ => none
 | n + 1, l0, l1, h => F_Scene_begin_c24 (F_Scene_begin_l24 n) l0 l1 h
theorem F_Scene_begin_l24_ok {d : Nat} {q : LH} (hd : 0 ≤ d) : ∀ (n : Nat) (l0 : Nat) (l1 : Int32) (h : LH), F_Scene_begin_l24 n l0 l1 h = some q → JR d jM_50 24 [.ref l0, .int l1] [] h (jo_v q)
 | 0 => fun _ _ _ hq => nomatch (show (none : Option LH) = some q from hq)
 | n + 1 => fun _ _ _ hq => F_Scene_begin_c24_ok hd (F_Scene_begin_l24_ok hd n) hq
noncomputable def F_Scene_begin_c2 (k2 : Nat → Int32 → LH → Option LH) (l0 : Nat) (l1 : Int32) (h : LH) : Option LH :=
 if l1 < (134 : Int32) then
 jf_gr h l0 6 0 fun v1 =>
 jf_is h v1 l1 (0 : Int32) fun h2 =>
 k2 l0 (l1 + (1 : Int32)) h2
else
 F_Scene_begin_l24  jF l0 (0 : Int32) h
set_option maxRecDepth 100000 in
theorem F_Scene_begin_c2_ok {d : Nat} {q : LH} {k2 : Nat → Int32 → LH → Option LH} (hd : 0 ≤ d) (hk2 : ∀ (l0 : Nat) (l1 : Int32) (h : LH), k2 l0 l1 h = some q → JR d jM_50 2 [.ref l0, .int l1] [] h (jo_v q)) {l0 : Nat} {l1 : Int32} {h : LH} : F_Scene_begin_c2 k2 l0 l1 h = some q → JR d jM_50 2 [.ref l0, .int l1] [] h (jo_v q) := by
 unfold F_Scene_begin_c2
 exact jr_iloadn 2 3 rfl rfl rfl
  (jr_sipush 3 6 (134 : Int32) rfl jc_s_134 rfl
  (jr_icmp_ge 6 22 9 rfl rfl rfl
  (jr_iconst 22 23 (0 : Int32) rfl jc_i_0 rfl
  (jr_istoren 23 24 [.ref l0, .int (0 : Int32)] rfl rfl rfl rfl
  ((F_Scene_begin_l24_ok hd  jF _ _ _))))
  (jr_aloadn 9 10 rfl rfl rfl
  (jr_gr 10 13 rfl jg_6_11_2 rfl (fun v1 =>
  jr_iloadn 13 14 rfl rfl rfl
  (jr_iconst 14 15 (0 : Int32) rfl jc_i_0 rfl
  (jr_is 15 16 rfl rfl (fun h2 =>
  jr_iinc 16 19 [.ref l0, .int (l1 + (1 : Int32))] rfl jc_i_1 rfl rfl rfl rfl
  (jr_goto 19 2 rfl rfl
  ((hk2 _ _ _)))))))))))
noncomputable def F_Scene_begin_l2 : Nat → Nat → Int32 → LH → Option LH
 | 0, _, _, _ => none
 | n + 1, l0, l1, h => F_Scene_begin_c2 (F_Scene_begin_l2 n) l0 l1 h
theorem F_Scene_begin_l2_ok {d : Nat} {q : LH} (hd : 0 ≤ d) : ∀ (n : Nat) (l0 : Nat) (l1 : Int32) (h : LH), F_Scene_begin_l2 n l0 l1 h = some q → JR d jM_50 2 [.ref l0, .int l1] [] h (jo_v q)
 | 0 => fun _ _ _ hq => nomatch (show (none : Option LH) = some q from hq)
 | n + 1 => fun _ _ _ hq => F_Scene_begin_c2_ok hd (F_Scene_begin_l2_ok hd n) hq
noncomputable def F_Scene_begin (l0 : Nat) (h : LH) : Option LH :=
 F_Scene_begin_l2  jF l0 (0 : Int32) h
set_option maxRecDepth 100000 in
theorem F_Scene_begin_ok {d : Nat} (hd : 1 ≤ d) {l0 : Nat} {h : LH} {q : LH} : F_Scene_begin l0 h = some q → jl_Sem jt_T jt_Ms d 50 [.ref l0] h (jo_v q) := by
 unfold F_Scene_begin
 exact jr_enter (D := 0) hd jM_50_at rfl rfl rfl (fun d hd =>
  jr_iconst 0 1 (0 : Int32) rfl jc_i_0 rfl
  (jr_istoren 1 2 [.ref l0, .int (0 : Int32)] rfl rfl rfl rfl
  ((F_Scene_begin_l2_ok hd  jF _ _ _))))
noncomputable def jM_65 : JMeth := (6, false, 1, jk_65, [], 1)
set_option maxRecDepth 100000 in
theorem jM_65_at : jt_Ms 65 = some jM_65 := rfl
noncomputable def F_Scene_windNow (l0 : Nat) (h : LH) : Option (Int32 × LH) :=
 jf_kd h l0 6
 ((F_Scene_look l0 h).bind fun h1 =>
 jf_gi h1 l0 6 5 fun v2 =>
 some (v2, h1))
set_option maxRecDepth 100000 in
theorem F_Scene_windNow_ok {d : Nat} (hd : 3 ≤ d) {l0 : Nat} {h : LH} {q : (Int32 × LH)} : F_Scene_windNow l0 h = some q → jl_Sem jt_T jt_Ms d 65 [.ref l0] h (jo_i q) := by
 unfold F_Scene_windNow
 exact jr_enter (D := 2) hd jM_65_at rfl rfl rfl (fun d hd =>
  jr_aloadn 0 1 rfl rfl rfl
  (jr_cVv 1 4 [] rfl rfl rfl rfl rfl rfl rfl rfl (as := []) (F_Scene_look_ok (Nat.le_trans (by decide : 2 ≤ 2) hd)) (fun h1 =>
  jr_aloadn 4 5 rfl rfl rfl
  (jr_gi 5 8 rfl jg_6_59_1 rfl (fun v2 =>
  jr_ri 8 rfl rfl)))))
noncomputable def jM_67 : JMeth := (6, false, 1, jk_67, [], 3)
set_option maxRecDepth 100000 in
theorem jM_67_at : jt_Ms 67 = some jM_67 := rfl
noncomputable def F_Scene_allBurning_c4 (k4 : Nat → Int32 → Int32 → LH → Option (Int32 × LH)) (l0 : Nat) (l1 : Int32) (l2 : Int32) (h : LH) : Option (Int32 × LH) :=
 jf_gr h l0 6 1 fun v1 =>
 jf_gi h v1 8 0 fun v2 =>
 if l2 < v2 then
 jf_kd h l0 6
 (jf_bi (F_Scene_burning l0 l2 h) fun v3 h4 =>
 jf_let (l1 + v3) fun v5 =>
 k4 l0 v5 (l2 + (1 : Int32)) h4)
else
 some (l1, h)
set_option maxRecDepth 100000 in
theorem F_Scene_allBurning_c4_ok {d : Nat} {q : (Int32 × LH)} {k4 : Nat → Int32 → Int32 → LH → Option (Int32 × LH)} (hd : 1 ≤ d) (hk4 : ∀ (l0 : Nat) (l1 : Int32) (l2 : Int32) (h : LH), k4 l0 l1 l2 h = some q → JR d jM_67 4 [.ref l0, .int l1, .int l2] [] h (jo_i q)) {l0 : Nat} {l1 : Int32} {l2 : Int32} {h : LH} : F_Scene_allBurning_c4 k4 l0 l1 l2 h = some q → JR d jM_67 4 [.ref l0, .int l1, .int l2] [] h (jo_i q) := by
 unfold F_Scene_allBurning_c4
 exact jr_iloadn 4 5 rfl rfl rfl
  (jr_aloadn 5 6 rfl rfl rfl
  (jr_gr 6 9 rfl jg_6_26_2 rfl (fun v1 =>
  jr_gi 9 12 rfl jg_6_72_1 rfl (fun v2 =>
  jr_icmp_ge 12 29 15 rfl rfl rfl
  (jr_iloadn 29 30 rfl rfl rfl
  (jr_ri 30 rfl rfl))
  (jr_iloadn 15 16 rfl rfl rfl
  (jr_aloadn 16 17 rfl rfl rfl
  (jr_iloadn 17 18 rfl rfl rfl
  (jr_cVi 18 21 [.int l1] rfl rfl rfl rfl rfl rfl rfl rfl (as := [.int l2]) (F_Scene_burning_ok (Nat.le_trans (by decide : 1 ≤ 1) hd)) (fun v3 h4 =>
  jr_iadd 21 22 rfl rfl
  (jr_istorenL 22 23 (fun v5 => [.ref l0, .int v5, .int l2]) rfl rfl (fun _ => rfl) rfl (fun v5 =>
  jr_iinc 23 26 [.ref l0, .int v5, .int (l2 + (1 : Int32))] rfl jc_i_1 rfl rfl rfl rfl
  (jr_goto 26 4 rfl rfl
  ((hk4 _ _ _ _))))))))))))))
noncomputable def F_Scene_allBurning_l4 : Nat → Nat → Int32 → Int32 → LH → Option (Int32 × LH)
 | 0, _, _, _, _ => none
 | n + 1, l0, l1, l2, h => F_Scene_allBurning_c4 (F_Scene_allBurning_l4 n) l0 l1 l2 h
theorem F_Scene_allBurning_l4_ok {d : Nat} {q : (Int32 × LH)} (hd : 1 ≤ d) : ∀ (n : Nat) (l0 : Nat) (l1 : Int32) (l2 : Int32) (h : LH), F_Scene_allBurning_l4 n l0 l1 l2 h = some q → JR d jM_67 4 [.ref l0, .int l1, .int l2] [] h (jo_i q)
 | 0 => fun _ _ _ _ hq => nomatch (show (none : Option (Int32 × LH)) = some q from hq)
 | n + 1 => fun _ _ _ _ hq => F_Scene_allBurning_c4_ok hd (F_Scene_allBurning_l4_ok hd n) hq
noncomputable def F_Scene_allBurning (l0 : Nat) (h : LH) : Option (Int32 × LH) :=
 F_Scene_allBurning_l4  jF l0 (0 : Int32) (0 : Int32) h
set_option maxRecDepth 100000 in
theorem F_Scene_allBurning_ok {d : Nat} (hd : 2 ≤ d) {l0 : Nat} {h : LH} {q : (Int32 × LH)} : F_Scene_allBurning l0 h = some q → jl_Sem jt_T jt_Ms d 67 [.ref l0] h (jo_i q) := by
 unfold F_Scene_allBurning
 exact jr_enter (D := 1) hd jM_67_at rfl rfl rfl (fun d hd =>
  jr_iconst 0 1 (0 : Int32) rfl jc_i_0 rfl
  (jr_istoren 1 2 [.ref l0, .int (0 : Int32), .retAddr 0] rfl rfl rfl rfl
  (jr_iconst 2 3 (0 : Int32) rfl jc_i_0 rfl
  (jr_istoren 3 4 [.ref l0, .int (0 : Int32), .int (0 : Int32)] rfl rfl rfl rfl
  ((F_Scene_allBurning_l4_ok hd  jF _ _ _ _))))))
noncomputable def jM_68 : JMeth := (6, false, 1, jk_68, [], 3)
set_option maxRecDepth 100000 in
theorem jM_68_at : jt_Ms 68 = some jM_68 := rfl
noncomputable def F_Scene_shutGates_b26 (k4 : Nat → Int32 → Int32 → LH → Option (Int32 × LH)) (l0 : Nat) (l1 : Int32) (l2 : Int32) (h : LH) : Option (Int32 × LH) :=
 k4 l0 l1 (l2 + (1 : Int32)) h
set_option maxRecDepth 100000 in
theorem F_Scene_shutGates_b26_ok {d : Nat} {q : (Int32 × LH)} {k4 : Nat → Int32 → Int32 → LH → Option (Int32 × LH)} (hd : 3 ≤ d) (hk4 : ∀ (l0 : Nat) (l1 : Int32) (l2 : Int32) (h : LH), k4 l0 l1 l2 h = some q → JR d jM_68 4 [.ref l0, .int l1, .int l2] [] h (jo_i q)) {l0 : Nat} {l1 : Int32} {l2 : Int32} {h : LH} : F_Scene_shutGates_b26 k4 l0 l1 l2 h = some q → JR d jM_68 26 [.ref l0, .int l1, .int l2] [] h (jo_i q) := by
 unfold F_Scene_shutGates_b26
 exact jr_iinc 26 29 [.ref l0, .int l1, .int (l2 + (1 : Int32))] rfl jc_i_1 rfl rfl rfl rfl
  (jr_goto 29 4 rfl rfl
  ((hk4 _ _ _ _)))
noncomputable def F_Scene_shutGates_c4 (k4 : Nat → Int32 → Int32 → LH → Option (Int32 × LH)) (l0 : Nat) (l1 : Int32) (l2 : Int32) (h : LH) : Option (Int32 × LH) :=
 jf_gr h l0 6 1 fun v1 =>
 jf_gi h v1 8 0 fun v2 =>
 if l2 < v2 then
 jf_kd h l0 6
 (jf_bi (F_Scene_isShut l0 l2 h) fun v3 h4 =>
 if v3 = 0 then
 F_Scene_shutGates_b26 k4 l0 l1 l2 h4
else
 F_Scene_shutGates_b26 k4 l0 (l1 + (1 : Int32)) l2 h4)
else
 some (l1, h)
set_option maxRecDepth 100000 in
theorem F_Scene_shutGates_c4_ok {d : Nat} {q : (Int32 × LH)} {k4 : Nat → Int32 → Int32 → LH → Option (Int32 × LH)} (hd : 3 ≤ d) (hk4 : ∀ (l0 : Nat) (l1 : Int32) (l2 : Int32) (h : LH), k4 l0 l1 l2 h = some q → JR d jM_68 4 [.ref l0, .int l1, .int l2] [] h (jo_i q)) {l0 : Nat} {l1 : Int32} {l2 : Int32} {h : LH} : F_Scene_shutGates_c4 k4 l0 l1 l2 h = some q → JR d jM_68 4 [.ref l0, .int l1, .int l2] [] h (jo_i q) := by
 unfold F_Scene_shutGates_c4
 exact jr_iloadn 4 5 rfl rfl rfl
  (jr_aloadn 5 6 rfl rfl rfl
  (jr_gr 6 9 rfl jg_6_26_2 rfl (fun v1 =>
  jr_gi 9 12 rfl jg_6_72_1 rfl (fun v2 =>
  jr_icmp_ge 12 32 15 rfl rfl rfl
  (jr_iloadn 32 33 rfl rfl rfl
  (jr_ri 33 rfl rfl))
  (jr_aloadn 15 16 rfl rfl rfl
  (jr_iloadn 16 17 rfl rfl rfl
  (jr_cVi 17 20 [] rfl rfl rfl rfl rfl rfl rfl rfl (as := [.int l2]) (F_Scene_isShut_ok (Nat.le_trans (by decide : 3 ≤ 3) hd)) (fun v3 h4 =>
  jr_if_eq 20 26 23 rfl rfl rfl
  ((F_Scene_shutGates_b26_ok hd hk4))
  (jr_iinc 23 26 [.ref l0, .int (l1 + (1 : Int32)), .int l2] rfl jc_i_1 rfl rfl rfl rfl
  ((F_Scene_shutGates_b26_ok hd hk4)))))))))))
noncomputable def F_Scene_shutGates_l4 : Nat → Nat → Int32 → Int32 → LH → Option (Int32 × LH)
 | 0, _, _, _, _ => none
 | n + 1, l0, l1, l2, h => F_Scene_shutGates_c4 (F_Scene_shutGates_l4 n) l0 l1 l2 h
theorem F_Scene_shutGates_l4_ok {d : Nat} {q : (Int32 × LH)} (hd : 3 ≤ d) : ∀ (n : Nat) (l0 : Nat) (l1 : Int32) (l2 : Int32) (h : LH), F_Scene_shutGates_l4 n l0 l1 l2 h = some q → JR d jM_68 4 [.ref l0, .int l1, .int l2] [] h (jo_i q)
 | 0 => fun _ _ _ _ hq => nomatch (show (none : Option (Int32 × LH)) = some q from hq)
 | n + 1 => fun _ _ _ _ hq => F_Scene_shutGates_c4_ok hd (F_Scene_shutGates_l4_ok hd n) hq
noncomputable def F_Scene_shutGates (l0 : Nat) (h : LH) : Option (Int32 × LH) :=
 F_Scene_shutGates_l4  jF l0 (0 : Int32) (0 : Int32) h
set_option maxRecDepth 100000 in
theorem F_Scene_shutGates_ok {d : Nat} (hd : 4 ≤ d) {l0 : Nat} {h : LH} {q : (Int32 × LH)} : F_Scene_shutGates l0 h = some q → jl_Sem jt_T jt_Ms d 68 [.ref l0] h (jo_i q) := by
 unfold F_Scene_shutGates
 exact jr_enter (D := 3) hd jM_68_at rfl rfl rfl (fun d hd =>
  jr_iconst 0 1 (0 : Int32) rfl jc_i_0 rfl
  (jr_istoren 1 2 [.ref l0, .int (0 : Int32), .retAddr 0] rfl rfl rfl rfl
  (jr_iconst 2 3 (0 : Int32) rfl jc_i_0 rfl
  (jr_istoren 3 4 [.ref l0, .int (0 : Int32), .int (0 : Int32)] rfl rfl rfl rfl
  ((F_Scene_shutGates_l4_ok hd  jF _ _ _ _))))))
noncomputable def jM_69 : JMeth := (6, false, 1, jk_69, [], 2)
set_option maxRecDepth 100000 in
theorem jM_69_at : jt_Ms 69 = some jM_69 := rfl
noncomputable def F_Scene_smokeAt (l0 : Nat) (l1 : Int32) (h : LH) : Option (Int32 × LH) :=
 jf_kd h l0 6
 ((F_Scene_look l0 h).bind fun h1 =>
 jf_gr h1 l0 6 7 fun v2 =>
 jf_ia h1 v2 l1 fun v3 =>
 some (v3, h1))
set_option maxRecDepth 100000 in
theorem F_Scene_smokeAt_ok {d : Nat} (hd : 3 ≤ d) {l0 : Nat} {l1 : Int32} {h : LH} {q : (Int32 × LH)} : F_Scene_smokeAt l0 l1 h = some q → jl_Sem jt_T jt_Ms d 69 [.ref l0, .int l1] h (jo_i q) := by
 unfold F_Scene_smokeAt
 exact jr_enter (D := 2) hd jM_69_at rfl rfl rfl (fun d hd =>
  jr_aloadn 0 1 rfl rfl rfl
  (jr_cVv 1 4 [] rfl rfl rfl rfl rfl rfl rfl rfl (as := []) (F_Scene_look_ok (Nat.le_trans (by decide : 2 ≤ 2) hd)) (fun h1 =>
  jr_aloadn 4 5 rfl rfl rfl
  (jr_gr 5 8 rfl jg_6_15_2 rfl (fun v2 =>
  jr_iloadn 8 9 rfl rfl rfl
  (jr_ia 9 10 rfl rfl (fun v3 =>
  jr_ri 10 rfl rfl)))))))
noncomputable def jM_70 : JMeth := (6, false, 1, jk_70, [], 2)
set_option maxRecDepth 100000 in
theorem jM_70_at : jt_Ms 70 = some jM_70 := rfl
noncomputable def F_Scene_scentAt (l0 : Nat) (l1 : Int32) (h : LH) : Option (Int32 × LH) :=
 jf_kd h l0 6
 ((F_Scene_look l0 h).bind fun h1 =>
 jf_gr h1 l0 6 8 fun v2 =>
 jf_ia h1 v2 l1 fun v3 =>
 some (v3, h1))
set_option maxRecDepth 100000 in
theorem F_Scene_scentAt_ok {d : Nat} (hd : 3 ≤ d) {l0 : Nat} {l1 : Int32} {h : LH} {q : (Int32 × LH)} : F_Scene_scentAt l0 l1 h = some q → jl_Sem jt_T jt_Ms d 70 [.ref l0, .int l1] h (jo_i q) := by
 unfold F_Scene_scentAt
 exact jr_enter (D := 2) hd jM_70_at rfl rfl rfl (fun d hd =>
  jr_aloadn 0 1 rfl rfl rfl
  (jr_cVv 1 4 [] rfl rfl rfl rfl rfl rfl rfl rfl (as := []) (F_Scene_look_ok (Nat.le_trans (by decide : 2 ≤ 2) hd)) (fun h1 =>
  jr_aloadn 4 5 rfl rfl rfl
  (jr_gr 5 8 rfl jg_6_18_2 rfl (fun v2 =>
  jr_iloadn 8 9 rfl rfl rfl
  (jr_ia 9 10 rfl rfl (fun v3 =>
  jr_ri 10 rfl rfl)))))))
noncomputable def jM_72 : JMeth := (6, false, 1, jk_72, [], 5)
set_option maxRecDepth 100000 in
theorem jM_72_at : jt_Ms 72 = some jM_72 := rfl
noncomputable def F_Scene_burningOf_b42 (k4 : Nat → Int32 → Int32 → Int32 → LH → Option (Int32 × LH)) (k18 : Nat → Int32 → Int32 → Int32 → Int32 → LH → Option (Int32 × LH)) (l0 : Nat) (l1 : Int32) (l2 : Int32) (l3 : Int32) (l4 : Int32) (h : LH) : Option (Int32 × LH) :=
 k18 l0 l1 l2 l3 (l4 + (1 : Int32)) h
set_option maxRecDepth 100000 in
theorem F_Scene_burningOf_b42_ok {d : Nat} {q : (Int32 × LH)} {k4 : Nat → Int32 → Int32 → Int32 → LH → Option (Int32 × LH)} {k18 : Nat → Int32 → Int32 → Int32 → Int32 → LH → Option (Int32 × LH)} (hd : 1 ≤ d) (hk4 : ∀ (l0 : Nat) (l1 : Int32) (l2 : Int32) (l3 : Int32) (u4 : Value) (h : LH), k4 l0 l1 l2 l3 h = some q → JR d jM_72 4 [.ref l0, .int l1, .int l2, .int l3, u4] [] h (jo_i q)) (hk18 : ∀ (l0 : Nat) (l1 : Int32) (l2 : Int32) (l3 : Int32) (l4 : Int32) (h : LH), k18 l0 l1 l2 l3 l4 h = some q → JR d jM_72 18 [.ref l0, .int l1, .int l2, .int l3, .int l4] [] h (jo_i q)) {l0 : Nat} {l1 : Int32} {l2 : Int32} {l3 : Int32} {l4 : Int32} {h : LH} : F_Scene_burningOf_b42 k4 k18 l0 l1 l2 l3 l4 h = some q → JR d jM_72 42 [.ref l0, .int l1, .int l2, .int l3, .int l4] [] h (jo_i q) := by
 unfold F_Scene_burningOf_b42
 exact jr_iinc 42 45 [.ref l0, .int l1, .int l2, .int l3, .int (l4 + (1 : Int32))] rfl jc_i_1 rfl rfl rfl rfl
  (jr_goto 45 18 rfl rfl
  ((hk18 _ _ _ _ _ _)))
noncomputable def F_Scene_burningOf_c18 (k4 : Nat → Int32 → Int32 → Int32 → LH → Option (Int32 × LH)) (k18 : Nat → Int32 → Int32 → Int32 → Int32 → LH → Option (Int32 × LH)) (l0 : Nat) (l1 : Int32) (l2 : Int32) (l3 : Int32) (l4 : Int32) (h : LH) : Option (Int32 × LH) :=
 jf_kd h l0 6
 (jf_bi (F_Scene_burning l0 l3 h) fun v1 h2 =>
 if l4 < v1 then
 jf_kd h2 l0 6
 (jf_bi (F_Scene_woodOf l0 l3 l4 h2) fun v3 h4 =>
 if v3 = l1 then
 F_Scene_burningOf_b42 k4 k18 l0 l1 (l2 + (1 : Int32)) l3 l4 h4
else
 F_Scene_burningOf_b42 k4 k18 l0 l1 l2 l3 l4 h4)
else
 k4 l0 l1 l2 (l3 + (1 : Int32)) h2)
set_option maxRecDepth 100000 in
theorem F_Scene_burningOf_c18_ok {d : Nat} {q : (Int32 × LH)} {k4 : Nat → Int32 → Int32 → Int32 → LH → Option (Int32 × LH)} {k18 : Nat → Int32 → Int32 → Int32 → Int32 → LH → Option (Int32 × LH)} (hd : 1 ≤ d) (hk4 : ∀ (l0 : Nat) (l1 : Int32) (l2 : Int32) (l3 : Int32) (u4 : Value) (h : LH), k4 l0 l1 l2 l3 h = some q → JR d jM_72 4 [.ref l0, .int l1, .int l2, .int l3, u4] [] h (jo_i q)) (hk18 : ∀ (l0 : Nat) (l1 : Int32) (l2 : Int32) (l3 : Int32) (l4 : Int32) (h : LH), k18 l0 l1 l2 l3 l4 h = some q → JR d jM_72 18 [.ref l0, .int l1, .int l2, .int l3, .int l4] [] h (jo_i q)) {l0 : Nat} {l1 : Int32} {l2 : Int32} {l3 : Int32} {l4 : Int32} {h : LH} : F_Scene_burningOf_c18 k4 k18 l0 l1 l2 l3 l4 h = some q → JR d jM_72 18 [.ref l0, .int l1, .int l2, .int l3, .int l4] [] h (jo_i q) := by
 unfold F_Scene_burningOf_c18
 exact jr_iload 18 20 rfl rfl rfl
  (jr_aloadn 20 21 rfl rfl rfl
  (jr_iloadn 21 22 rfl rfl rfl
  (jr_cVi 22 25 [.int l4] rfl rfl rfl rfl rfl rfl rfl rfl (as := [.int l3]) (F_Scene_burning_ok (Nat.le_trans (by decide : 1 ≤ 1) hd)) (fun v1 h2 =>
  jr_icmp_ge 25 48 28 rfl rfl rfl
  (jr_iinc 48 51 [.ref l0, .int l1, .int l2, .int (l3 + (1 : Int32)), .int l4] rfl jc_i_1 rfl rfl rfl rfl
  (jr_goto 51 4 rfl rfl
  ((hk4 _ _ _ _ _ _))))
  (jr_aloadn 28 29 rfl rfl rfl
  (jr_iloadn 29 30 rfl rfl rfl
  (jr_iload 30 32 rfl rfl rfl
  (jr_cVi 32 35 [] rfl rfl rfl rfl rfl rfl rfl rfl (as := [.int l3, .int l4]) (F_Scene_woodOf_ok (Nat.le_trans (by decide : 1 ≤ 1) hd)) (fun v3 h4 =>
  jr_iloadn 35 36 rfl rfl rfl
  (jr_icmp_ne 36 42 39 rfl rfl rfl
  ((F_Scene_burningOf_b42_ok hd hk4 hk18))
  (jr_iinc 39 42 [.ref l0, .int l1, .int (l2 + (1 : Int32)), .int l3, .int l4] rfl jc_i_1 rfl rfl rfl rfl
  ((F_Scene_burningOf_b42_ok hd hk4 hk18)))))))))))))
noncomputable def F_Scene_burningOf_l18 (k4 : Nat → Int32 → Int32 → Int32 → LH → Option (Int32 × LH)) : Nat → Nat → Int32 → Int32 → Int32 → Int32 → LH → Option (Int32 × LH)
 | 0, _, _, _, _, _, _ => none
 | n + 1, l0, l1, l2, l3, l4, h => F_Scene_burningOf_c18 k4 (F_Scene_burningOf_l18 k4 n) l0 l1 l2 l3 l4 h
theorem F_Scene_burningOf_l18_ok {d : Nat} {q : (Int32 × LH)} {k4 : Nat → Int32 → Int32 → Int32 → LH → Option (Int32 × LH)} (hd : 1 ≤ d) (hk4 : ∀ (l0 : Nat) (l1 : Int32) (l2 : Int32) (l3 : Int32) (u4 : Value) (h : LH), k4 l0 l1 l2 l3 h = some q → JR d jM_72 4 [.ref l0, .int l1, .int l2, .int l3, u4] [] h (jo_i q)) : ∀ (n : Nat) (l0 : Nat) (l1 : Int32) (l2 : Int32) (l3 : Int32) (l4 : Int32) (h : LH), F_Scene_burningOf_l18 k4 n l0 l1 l2 l3 l4 h = some q → JR d jM_72 18 [.ref l0, .int l1, .int l2, .int l3, .int l4] [] h (jo_i q)
 | 0 => fun _ _ _ _ _ _ hq => nomatch (show (none : Option (Int32 × LH)) = some q from hq)
 | n + 1 => fun _ _ _ _ _ _ hq => F_Scene_burningOf_c18_ok hd hk4 (F_Scene_burningOf_l18_ok hd hk4 n) hq
noncomputable def F_Scene_burningOf_c4 (k4 : Nat → Int32 → Int32 → Int32 → LH → Option (Int32 × LH)) (l0 : Nat) (l1 : Int32) (l2 : Int32) (l3 : Int32) (h : LH) : Option (Int32 × LH) :=
 jf_gr h l0 6 1 fun v1 =>
 jf_gi h v1 8 0 fun v2 =>
 if l3 < v2 then
 F_Scene_burningOf_l18 k4 jF l0 l1 l2 l3 (0 : Int32) h
else
 some (l2, h)
set_option maxRecDepth 100000 in
theorem F_Scene_burningOf_c4_ok {d : Nat} {q : (Int32 × LH)} {k4 : Nat → Int32 → Int32 → Int32 → LH → Option (Int32 × LH)} (hd : 1 ≤ d) (hk4 : ∀ (l0 : Nat) (l1 : Int32) (l2 : Int32) (l3 : Int32) (u4 : Value) (h : LH), k4 l0 l1 l2 l3 h = some q → JR d jM_72 4 [.ref l0, .int l1, .int l2, .int l3, u4] [] h (jo_i q)) {l0 : Nat} {l1 : Int32} {l2 : Int32} {l3 : Int32} {u4 : Value} {h : LH} : F_Scene_burningOf_c4 k4 l0 l1 l2 l3 h = some q → JR d jM_72 4 [.ref l0, .int l1, .int l2, .int l3, u4] [] h (jo_i q) := by
 unfold F_Scene_burningOf_c4
 exact jr_iloadn 4 5 rfl rfl rfl
  (jr_aloadn 5 6 rfl rfl rfl
  (jr_gr 6 9 rfl jg_6_26_2 rfl (fun v1 =>
  jr_gi 9 12 rfl jg_6_72_1 rfl (fun v2 =>
  jr_icmp_ge 12 54 15 rfl rfl rfl
  (jr_iloadn 54 55 rfl rfl rfl
  (jr_ri 55 rfl rfl))
  (jr_iconst 15 16 (0 : Int32) rfl jc_i_0 rfl
  (jr_istore 16 18 [.ref l0, .int l1, .int l2, .int l3, .int (0 : Int32)] rfl rfl rfl rfl
  ((F_Scene_burningOf_l18_ok hd hk4 jF _ _ _ _ _ _))))))))
noncomputable def F_Scene_burningOf_l4 : Nat → Nat → Int32 → Int32 → Int32 → LH → Option (Int32 × LH)
 | 0, _, _, _, _, _ => none
 | n + 1, l0, l1, l2, l3, h => F_Scene_burningOf_c4 (F_Scene_burningOf_l4 n) l0 l1 l2 l3 h
theorem F_Scene_burningOf_l4_ok {d : Nat} {q : (Int32 × LH)} (hd : 1 ≤ d) : ∀ (n : Nat) (l0 : Nat) (l1 : Int32) (l2 : Int32) (l3 : Int32) (u4 : Value) (h : LH), F_Scene_burningOf_l4 n l0 l1 l2 l3 h = some q → JR d jM_72 4 [.ref l0, .int l1, .int l2, .int l3, u4] [] h (jo_i q)
 | 0 => fun _ _ _ _ _ _ hq => nomatch (show (none : Option (Int32 × LH)) = some q from hq)
 | n + 1 => fun _ _ _ _ _ _ hq => F_Scene_burningOf_c4_ok hd (F_Scene_burningOf_l4_ok hd n) hq
noncomputable def F_Scene_burningOf (l0 : Nat) (l1 : Int32) (h : LH) : Option (Int32 × LH) :=
 F_Scene_burningOf_l4  jF l0 l1 (0 : Int32) (0 : Int32) h
set_option maxRecDepth 100000 in
theorem F_Scene_burningOf_ok {d : Nat} (hd : 2 ≤ d) {l0 : Nat} {l1 : Int32} {h : LH} {q : (Int32 × LH)} : F_Scene_burningOf l0 l1 h = some q → jl_Sem jt_T jt_Ms d 72 [.ref l0, .int l1] h (jo_i q) := by
 unfold F_Scene_burningOf
 exact jr_enter (D := 1) hd jM_72_at rfl rfl rfl (fun d hd =>
  jr_iconst 0 1 (0 : Int32) rfl jc_i_0 rfl
  (jr_istoren 1 2 [.ref l0, .int l1, .int (0 : Int32), .retAddr 0, .retAddr 0] rfl rfl rfl rfl
  (jr_iconst 2 3 (0 : Int32) rfl jc_i_0 rfl
  (jr_istoren 3 4 [.ref l0, .int l1, .int (0 : Int32), .int (0 : Int32), .retAddr 0] rfl rfl rfl rfl
  ((F_Scene_burningOf_l4_ok hd  jF _ _ _ _ _ _))))))
noncomputable def jM_73 : JMeth := (6, false, 2, jk_73, [], 4)
set_option maxRecDepth 100000 in
theorem jM_73_at : jt_Ms 73 = some jM_73 := rfl
noncomputable def F_Scene_isShutBy (l0 : Nat) (l1 : Int32) (l2 : Int32) (l3 : Int32) (h : LH) : Option (Int32 × LH) :=
 jf_kd h l0 6
 ((F_Scene_look l0 h).bind fun h1 =>
 jf_kd h1 l0 6
 ((F_Scene_sense l0 l1 l2 l3 h1).bind fun h2 =>
 jf_gr h2 l0 6 2 fun v3 =>
 jf_gr h2 l0 6 9 fun v4 =>
 jf_kd h2 v3 4
 (jf_bi (F_Law_shuts v3 v4 h2) fun v5 h6 =>
 jf_rz v5 (some (v5, h6)))))
set_option maxRecDepth 100000 in
theorem F_Scene_isShutBy_ok {d : Nat} (hd : 3 ≤ d) {l0 : Nat} {l1 : Int32} {l2 : Int32} {l3 : Int32} {h : LH} {q : (Int32 × LH)} : F_Scene_isShutBy l0 l1 l2 l3 h = some q → jl_Sem jt_T jt_Ms d 73 [.ref l0, .int l1, .int l2, .int l3] h (jo_i q) := by
 unfold F_Scene_isShutBy
 exact jr_enter (D := 2) hd jM_73_at rfl rfl rfl (fun d hd =>
  jr_aloadn 0 1 rfl rfl rfl
  (jr_cVv 1 4 [] rfl rfl rfl rfl rfl rfl rfl rfl (as := []) (F_Scene_look_ok (Nat.le_trans (by decide : 2 ≤ 2) hd)) (fun h1 =>
  jr_aloadn 4 5 rfl rfl rfl
  (jr_iloadn 5 6 rfl rfl rfl
  (jr_iloadn 6 7 rfl rfl rfl
  (jr_iloadn 7 8 rfl rfl rfl
  (jr_cVv 8 11 [] rfl rfl rfl rfl rfl rfl rfl rfl (as := [.int l1, .int l2, .int l3]) (F_Scene_sense_ok (Nat.le_trans (by decide : 2 ≤ 2) hd)) (fun h2 =>
  jr_aloadn 11 12 rfl rfl rfl
  (jr_gr 12 15 rfl jg_6_30_2 rfl (fun v3 =>
  jr_aloadn 15 16 rfl rfl rfl
  (jr_gr 16 19 rfl jg_6_23_2 rfl (fun v4 =>
  jr_cVi 19 22 [] rfl rfl rfl rfl rfl rfl rfl rfl (as := [.ref v4]) (F_Law_shuts_ok (Nat.le_trans (by decide : 2 ≤ 2) hd)) (fun v5 h6 =>
  jr_rz 22 rfl rfl)))))))))))))
noncomputable def jM_75 : JMeth := (6, false, 1, jk_75, [], 4)
set_option maxRecDepth 100000 in
theorem jM_75_at : jt_Ms 75 = some jM_75 := rfl
noncomputable def F_Scene_smokeOfFire_c4 (k4 : Nat → Int32 → Int32 → Int32 → LH → Option (Int32 × LH)) (l0 : Nat) (l1 : Int32) (l2 : Int32) (l3 : Int32) (h : LH) : Option (Int32 × LH) :=
 jf_kd h l0 6
 (jf_bi (F_Scene_burning l0 l1 h) fun v1 h2 =>
 if l3 < v1 then
 jf_kd h2 l0 6
 (jf_bi (F_Scene_woodOf l0 l1 l3 h2) fun v3 h4 =>
 jf_kd h4 l0 6
 (jf_bi (F_Scene_thickNow l0 v3 h4) fun v5 h6 =>
 jf_let (l2 + v5) fun v7 =>
 k4 l0 l1 v7 (l3 + (1 : Int32)) h6))
else
 some (l2, h2))
set_option maxRecDepth 100000 in
theorem F_Scene_smokeOfFire_c4_ok {d : Nat} {q : (Int32 × LH)} {k4 : Nat → Int32 → Int32 → Int32 → LH → Option (Int32 × LH)} (hd : 1 ≤ d) (hk4 : ∀ (l0 : Nat) (l1 : Int32) (l2 : Int32) (l3 : Int32) (h : LH), k4 l0 l1 l2 l3 h = some q → JR d jM_75 4 [.ref l0, .int l1, .int l2, .int l3] [] h (jo_i q)) {l0 : Nat} {l1 : Int32} {l2 : Int32} {l3 : Int32} {h : LH} : F_Scene_smokeOfFire_c4 k4 l0 l1 l2 l3 h = some q → JR d jM_75 4 [.ref l0, .int l1, .int l2, .int l3] [] h (jo_i q) := by
 unfold F_Scene_smokeOfFire_c4
 exact jr_iloadn 4 5 rfl rfl rfl
  (jr_aloadn 5 6 rfl rfl rfl
  (jr_iloadn 6 7 rfl rfl rfl
  (jr_cVi 7 10 [.int l3] rfl rfl rfl rfl rfl rfl rfl rfl (as := [.int l1]) (F_Scene_burning_ok (Nat.le_trans (by decide : 1 ≤ 1) hd)) (fun v1 h2 =>
  jr_icmp_ge 10 32 13 rfl rfl rfl
  (jr_iloadn 32 33 rfl rfl rfl
  (jr_ri 33 rfl rfl))
  (jr_iloadn 13 14 rfl rfl rfl
  (jr_aloadn 14 15 rfl rfl rfl
  (jr_aloadn 15 16 rfl rfl rfl
  (jr_iloadn 16 17 rfl rfl rfl
  (jr_iloadn 17 18 rfl rfl rfl
  (jr_cVi 18 21 [.ref l0, .int l2] rfl rfl rfl rfl rfl rfl rfl rfl (as := [.int l1, .int l3]) (F_Scene_woodOf_ok (Nat.le_trans (by decide : 1 ≤ 1) hd)) (fun v3 h4 =>
  jr_cVi 21 24 [.int l2] rfl rfl rfl rfl rfl rfl rfl rfl (as := [.int v3]) (F_Scene_thickNow_ok (Nat.le_trans (by decide : 1 ≤ 1) hd)) (fun v5 h6 =>
  jr_iadd 24 25 rfl rfl
  (jr_istorenL 25 26 (fun v7 => [.ref l0, .int l1, .int v7, .int l3]) rfl rfl (fun _ => rfl) rfl (fun v7 =>
  jr_iinc 26 29 [.ref l0, .int l1, .int v7, .int (l3 + (1 : Int32))] rfl jc_i_1 rfl rfl rfl rfl
  (jr_goto 29 4 rfl rfl
  ((hk4 _ _ _ _ _)))))))))))))))))
noncomputable def F_Scene_smokeOfFire_l4 : Nat → Nat → Int32 → Int32 → Int32 → LH → Option (Int32 × LH)
 | 0, _, _, _, _, _ => none
 | n + 1, l0, l1, l2, l3, h => F_Scene_smokeOfFire_c4 (F_Scene_smokeOfFire_l4 n) l0 l1 l2 l3 h
theorem F_Scene_smokeOfFire_l4_ok {d : Nat} {q : (Int32 × LH)} (hd : 1 ≤ d) : ∀ (n : Nat) (l0 : Nat) (l1 : Int32) (l2 : Int32) (l3 : Int32) (h : LH), F_Scene_smokeOfFire_l4 n l0 l1 l2 l3 h = some q → JR d jM_75 4 [.ref l0, .int l1, .int l2, .int l3] [] h (jo_i q)
 | 0 => fun _ _ _ _ _ hq => nomatch (show (none : Option (Int32 × LH)) = some q from hq)
 | n + 1 => fun _ _ _ _ _ hq => F_Scene_smokeOfFire_c4_ok hd (F_Scene_smokeOfFire_l4_ok hd n) hq
noncomputable def F_Scene_smokeOfFire (l0 : Nat) (l1 : Int32) (h : LH) : Option (Int32 × LH) :=
 F_Scene_smokeOfFire_l4  jF l0 l1 (0 : Int32) (0 : Int32) h
set_option maxRecDepth 100000 in
theorem F_Scene_smokeOfFire_ok {d : Nat} (hd : 2 ≤ d) {l0 : Nat} {l1 : Int32} {h : LH} {q : (Int32 × LH)} : F_Scene_smokeOfFire l0 l1 h = some q → jl_Sem jt_T jt_Ms d 75 [.ref l0, .int l1] h (jo_i q) := by
 unfold F_Scene_smokeOfFire
 exact jr_enter (D := 1) hd jM_75_at rfl rfl rfl (fun d hd =>
  jr_iconst 0 1 (0 : Int32) rfl jc_i_0 rfl
  (jr_istoren 1 2 [.ref l0, .int l1, .int (0 : Int32), .retAddr 0] rfl rfl rfl rfl
  (jr_iconst 2 3 (0 : Int32) rfl jc_i_0 rfl
  (jr_istoren 3 4 [.ref l0, .int l1, .int (0 : Int32), .int (0 : Int32)] rfl rfl rfl rfl
  ((F_Scene_smokeOfFire_l4_ok hd  jF _ _ _ _ _))))))
noncomputable def jM_74 : JMeth := (6, false, 1, jk_74, [], 7)
set_option maxRecDepth 100000 in
theorem jM_74_at : jt_Ms 74 = some jM_74 := rfl
noncomputable def F_Scene_smokeByLean_b71 (k10 : Nat → Int32 → Int32 → Int32 → Int32 → Int32 → LH → Option (Int32 × LH)) (l0 : Nat) (l1 : Int32) (l2 : Int32) (l3 : Int32) (l4 : Int32) (l5 : Int32) (h : LH) : Option (Int32 × LH) :=
 k10 l0 l1 l2 l3 l4 (l5 + (1 : Int32)) h
set_option maxRecDepth 100000 in
theorem F_Scene_smokeByLean_b71_ok {d : Nat} {q : (Int32 × LH)} {k10 : Nat → Int32 → Int32 → Int32 → Int32 → Int32 → LH → Option (Int32 × LH)} (hd : 2 ≤ d) (hk10 : ∀ (l0 : Nat) (l1 : Int32) (l2 : Int32) (l3 : Int32) (l4 : Int32) (l5 : Int32) (u6 : Value) (h : LH), k10 l0 l1 l2 l3 l4 l5 h = some q → JR d jM_74 10 [.ref l0, .int l1, .int l2, .int l3, .int l4, .int l5, u6] [] h (jo_i q)) {l0 : Nat} {l1 : Int32} {l2 : Int32} {l3 : Int32} {l4 : Int32} {l5 : Int32} {u6 : Value} {h : LH} : F_Scene_smokeByLean_b71 k10 l0 l1 l2 l3 l4 l5 h = some q → JR d jM_74 71 [.ref l0, .int l1, .int l2, .int l3, .int l4, .int l5, u6] [] h (jo_i q) := by
 unfold F_Scene_smokeByLean_b71
 exact jr_iinc 71 74 [.ref l0, .int l1, .int l2, .int l3, .int l4, .int (l5 + (1 : Int32)), u6] rfl jc_i_1 rfl rfl rfl rfl
  (jr_goto 74 10 rfl rfl
  ((hk10 _ _ _ _ _ _ _ _)))
noncomputable def F_Scene_smokeByLean_b45 (k10 : Nat → Int32 → Int32 → Int32 → Int32 → Int32 → LH → Option (Int32 × LH)) (l0 : Nat) (l1 : Int32) (l2 : Int32) (l3 : Int32) (l4 : Int32) (l5 : Int32) (s0 : Nat) (s1 : Int32) (s2 : Int32) (h : LH) : Option (Int32 × LH) :=
 jf_kd h s0 6
 (jf_bi (F_Scene_standsByLean s0 s1 s2 h) fun v1 h2 =>
 if ((l3 >>> (v1 &&& 31)) &&& (1 : Int32)) = (1 : Int32) then
 jf_kd h2 l0 6
 (jf_bi (F_Scene_smokeOfFire l0 l5 h2) fun v3 h4 =>
 jf_let (l4 + v3) fun v5 =>
 F_Scene_smokeByLean_b71 k10 l0 l1 l2 l3 v5 l5 h4)
else
 F_Scene_smokeByLean_b71 k10 l0 l1 l2 l3 l4 l5 h2)
set_option maxRecDepth 100000 in
theorem F_Scene_smokeByLean_b45_ok {d : Nat} {q : (Int32 × LH)} {k10 : Nat → Int32 → Int32 → Int32 → Int32 → Int32 → LH → Option (Int32 × LH)} (hd : 2 ≤ d) (hk10 : ∀ (l0 : Nat) (l1 : Int32) (l2 : Int32) (l3 : Int32) (l4 : Int32) (l5 : Int32) (u6 : Value) (h : LH), k10 l0 l1 l2 l3 l4 l5 h = some q → JR d jM_74 10 [.ref l0, .int l1, .int l2, .int l3, .int l4, .int l5, u6] [] h (jo_i q)) {l0 : Nat} {l1 : Int32} {l2 : Int32} {l3 : Int32} {l4 : Int32} {l5 : Int32} {s0 : Nat} {s1 : Int32} {s2 : Int32} {u6 : Value} {h : LH} : F_Scene_smokeByLean_b45 k10 l0 l1 l2 l3 l4 l5 s0 s1 s2 h = some q → JR d jM_74 45 [.ref l0, .int l1, .int l2, .int l3, .int l4, .int l5, u6] [.int s2, .int s1, .ref s0] h (jo_i q) := by
 unfold F_Scene_smokeByLean_b45
 exact jr_cVi 45 48 [] rfl rfl rfl rfl rfl rfl rfl rfl (as := [.int s1, .int s2]) (F_Scene_standsByLean_ok (Nat.le_trans (by decide : 1 ≤ 2) hd)) (fun v1 h2 =>
  jr_istore 48 50 [.ref l0, .int l1, .int l2, .int l3, .int l4, .int l5, .int v1] rfl rfl rfl rfl
  (jr_iloadn 50 51 rfl rfl rfl
  (jr_iload 51 53 rfl rfl rfl
  (jr_ishr 53 54 rfl rfl
  (jr_iconst 54 55 (1 : Int32) rfl jc_i_1 rfl
  (jr_iand 55 56 rfl rfl
  (jr_iconst 56 57 (1 : Int32) rfl jc_i_1 rfl
  (jr_icmp_ne 57 71 60 rfl rfl rfl
  ((F_Scene_smokeByLean_b71_ok hd hk10))
  (jr_iload 60 62 rfl rfl rfl
  (jr_aloadn 62 63 rfl rfl rfl
  (jr_iload 63 65 rfl rfl rfl
  (jr_cVi 65 68 [.int l4] rfl rfl rfl rfl rfl rfl rfl rfl (as := [.int l5]) (F_Scene_smokeOfFire_ok (Nat.le_trans (by decide : 2 ≤ 2) hd)) (fun v3 h4 =>
  jr_iadd 68 69 rfl rfl
  (jr_istoreL 69 71 (fun v5 => [.ref l0, .int l1, .int l2, .int l3, .int v5, .int l5, .int v1]) rfl rfl (fun _ => rfl) rfl (fun v5 =>
  (F_Scene_smokeByLean_b71_ok hd hk10))))))))))))))))
noncomputable def F_Scene_smokeByLean_c10 (k10 : Nat → Int32 → Int32 → Int32 → Int32 → Int32 → LH → Option (Int32 × LH)) (l0 : Nat) (l1 : Int32) (l2 : Int32) (l3 : Int32) (l4 : Int32) (l5 : Int32) (h : LH) : Option (Int32 × LH) :=
 jf_gr h l0 6 1 fun v1 =>
 jf_gi h v1 8 0 fun v2 =>
 if l5 < v2 then
 if l5 = l1 then
 F_Scene_smokeByLean_b45 k10 l0 l1 l2 l3 l4 l5 l0 l5 l2 h
else
 jf_gr h l0 6 1 fun v3 =>
 jf_gr h v3 8 6 fun v4 =>
 jf_ia h v4 l5 fun v5 =>
 F_Scene_smokeByLean_b45 k10 l0 l1 l2 l3 l4 l5 l0 l5 v5 h
else
 some (l4, h)
set_option maxRecDepth 100000 in
theorem F_Scene_smokeByLean_c10_ok {d : Nat} {q : (Int32 × LH)} {k10 : Nat → Int32 → Int32 → Int32 → Int32 → Int32 → LH → Option (Int32 × LH)} (hd : 2 ≤ d) (hk10 : ∀ (l0 : Nat) (l1 : Int32) (l2 : Int32) (l3 : Int32) (l4 : Int32) (l5 : Int32) (u6 : Value) (h : LH), k10 l0 l1 l2 l3 l4 l5 h = some q → JR d jM_74 10 [.ref l0, .int l1, .int l2, .int l3, .int l4, .int l5, u6] [] h (jo_i q)) {l0 : Nat} {l1 : Int32} {l2 : Int32} {l3 : Int32} {l4 : Int32} {l5 : Int32} {u6 : Value} {h : LH} : F_Scene_smokeByLean_c10 k10 l0 l1 l2 l3 l4 l5 h = some q → JR d jM_74 10 [.ref l0, .int l1, .int l2, .int l3, .int l4, .int l5, u6] [] h (jo_i q) := by
 unfold F_Scene_smokeByLean_c10
 exact jr_iload 10 12 rfl rfl rfl
  (jr_aloadn 12 13 rfl rfl rfl
  (jr_gr 13 16 rfl jg_6_26_2 rfl (fun v1 =>
  jr_gi 16 19 rfl jg_6_72_1 rfl (fun v2 =>
  jr_icmp_ge 19 77 22 rfl rfl rfl
  (jr_iload 77 79 rfl rfl rfl
  (jr_ri 79 rfl rfl))
  (jr_aloadn 22 23 rfl rfl rfl
  (jr_iload 23 25 rfl rfl rfl
  (jr_iload 25 27 rfl rfl rfl
  (jr_iloadn 27 28 rfl rfl rfl
  (jr_icmp_ne 28 35 31 rfl rfl rfl
  (jr_aloadn 35 36 rfl rfl rfl
  (jr_gr 36 39 rfl jg_6_26_2 rfl (fun v3 =>
  jr_gr 39 42 rfl jg_6_65_2 rfl (fun v4 =>
  jr_iload 42 44 rfl rfl rfl
  (jr_ia 44 45 rfl rfl (fun v5 =>
  (F_Scene_smokeByLean_b45_ok hd hk10)))))))
  (jr_iloadn 31 32 rfl rfl rfl
  (jr_goto 32 45 rfl rfl
  ((F_Scene_smokeByLean_b45_ok hd hk10)))))))))))))
noncomputable def F_Scene_smokeByLean_l10 : Nat → Nat → Int32 → Int32 → Int32 → Int32 → Int32 → LH → Option (Int32 × LH)
 | 0, _, _, _, _, _, _, _ => none
 | n + 1, l0, l1, l2, l3, l4, l5, h => F_Scene_smokeByLean_c10 (F_Scene_smokeByLean_l10 n) l0 l1 l2 l3 l4 l5 h
theorem F_Scene_smokeByLean_l10_ok {d : Nat} {q : (Int32 × LH)} (hd : 2 ≤ d) : ∀ (n : Nat) (l0 : Nat) (l1 : Int32) (l2 : Int32) (l3 : Int32) (l4 : Int32) (l5 : Int32) (u6 : Value) (h : LH), F_Scene_smokeByLean_l10 n l0 l1 l2 l3 l4 l5 h = some q → JR d jM_74 10 [.ref l0, .int l1, .int l2, .int l3, .int l4, .int l5, u6] [] h (jo_i q)
 | 0 => fun _ _ _ _ _ _ _ _ hq => nomatch (show (none : Option (Int32 × LH)) = some q from hq)
 | n + 1 => fun _ _ _ _ _ _ _ _ hq => F_Scene_smokeByLean_c10_ok hd (F_Scene_smokeByLean_l10_ok hd n) hq
noncomputable def F_Scene_smokeByLean (l0 : Nat) (l1 : Int32) (l2 : Int32) (l3 : Int32) (h : LH) : Option (Int32 × LH) :=
 jf_kd h l0 6
 ((F_Scene_look l0 h).bind fun h1 =>
 F_Scene_smokeByLean_l10  jF l0 l1 l2 l3 (0 : Int32) (0 : Int32) h1)
set_option maxRecDepth 100000 in
theorem F_Scene_smokeByLean_ok {d : Nat} (hd : 3 ≤ d) {l0 : Nat} {l1 : Int32} {l2 : Int32} {l3 : Int32} {h : LH} {q : (Int32 × LH)} : F_Scene_smokeByLean l0 l1 l2 l3 h = some q → jl_Sem jt_T jt_Ms d 74 [.ref l0, .int l1, .int l2, .int l3] h (jo_i q) := by
 unfold F_Scene_smokeByLean
 exact jr_enter (D := 2) hd jM_74_at rfl rfl rfl (fun d hd =>
  jr_aloadn 0 1 rfl rfl rfl
  (jr_cVv 1 4 [] rfl rfl rfl rfl rfl rfl rfl rfl (as := []) (F_Scene_look_ok (Nat.le_trans (by decide : 2 ≤ 2) hd)) (fun h1 =>
  jr_iconst 4 5 (0 : Int32) rfl jc_i_0 rfl
  (jr_istore 5 7 [.ref l0, .int l1, .int l2, .int l3, .int (0 : Int32), .retAddr 0, .retAddr 0] rfl rfl rfl rfl
  (jr_iconst 7 8 (0 : Int32) rfl jc_i_0 rfl
  (jr_istore 8 10 [.ref l0, .int l1, .int l2, .int l3, .int (0 : Int32), .int (0 : Int32), .retAddr 0] rfl rfl rfl rfl
  ((F_Scene_smokeByLean_l10_ok hd  jF _ _ _ _ _ _ _ _))))))))
noncomputable def jM_76 : JMeth := (6, false, 1, jk_76, [], 3)
set_option maxRecDepth 100000 in
theorem jM_76_at : jt_Ms 76 = some jM_76 := rfl
noncomputable def F_Scene_allStored_c4 (k4 : Nat → Int32 → Int32 → LH → Option (Int32 × LH)) (l0 : Nat) (l1 : Int32) (l2 : Int32) (h : LH) : Option (Int32 × LH) :=
 jf_gr h l0 6 1 fun v1 =>
 jf_gi h v1 8 1 fun v2 =>
 if l2 < v2 then
 jf_kd h l0 6
 (jf_bi (F_Scene_stored l0 l2 h) fun v3 h4 =>
 jf_let (l1 + v3) fun v5 =>
 k4 l0 v5 (l2 + (1 : Int32)) h4)
else
 some (l1, h)
set_option maxRecDepth 100000 in
theorem F_Scene_allStored_c4_ok {d : Nat} {q : (Int32 × LH)} {k4 : Nat → Int32 → Int32 → LH → Option (Int32 × LH)} (hd : 1 ≤ d) (hk4 : ∀ (l0 : Nat) (l1 : Int32) (l2 : Int32) (h : LH), k4 l0 l1 l2 h = some q → JR d jM_76 4 [.ref l0, .int l1, .int l2] [] h (jo_i q)) {l0 : Nat} {l1 : Int32} {l2 : Int32} {h : LH} : F_Scene_allStored_c4 k4 l0 l1 l2 h = some q → JR d jM_76 4 [.ref l0, .int l1, .int l2] [] h (jo_i q) := by
 unfold F_Scene_allStored_c4
 exact jr_iloadn 4 5 rfl rfl rfl
  (jr_aloadn 5 6 rfl rfl rfl
  (jr_gr 6 9 rfl jg_6_26_2 rfl (fun v1 =>
  jr_gi 9 12 rfl jg_6_34_1 rfl (fun v2 =>
  jr_icmp_ge 12 29 15 rfl rfl rfl
  (jr_iloadn 29 30 rfl rfl rfl
  (jr_ri 30 rfl rfl))
  (jr_iloadn 15 16 rfl rfl rfl
  (jr_aloadn 16 17 rfl rfl rfl
  (jr_iloadn 17 18 rfl rfl rfl
  (jr_cVi 18 21 [.int l1] rfl rfl rfl rfl rfl rfl rfl rfl (as := [.int l2]) (F_Scene_stored_ok (Nat.le_trans (by decide : 1 ≤ 1) hd)) (fun v3 h4 =>
  jr_iadd 21 22 rfl rfl
  (jr_istorenL 22 23 (fun v5 => [.ref l0, .int v5, .int l2]) rfl rfl (fun _ => rfl) rfl (fun v5 =>
  jr_iinc 23 26 [.ref l0, .int v5, .int (l2 + (1 : Int32))] rfl jc_i_1 rfl rfl rfl rfl
  (jr_goto 26 4 rfl rfl
  ((hk4 _ _ _ _))))))))))))))
noncomputable def F_Scene_allStored_l4 : Nat → Nat → Int32 → Int32 → LH → Option (Int32 × LH)
 | 0, _, _, _, _ => none
 | n + 1, l0, l1, l2, h => F_Scene_allStored_c4 (F_Scene_allStored_l4 n) l0 l1 l2 h
theorem F_Scene_allStored_l4_ok {d : Nat} {q : (Int32 × LH)} (hd : 1 ≤ d) : ∀ (n : Nat) (l0 : Nat) (l1 : Int32) (l2 : Int32) (h : LH), F_Scene_allStored_l4 n l0 l1 l2 h = some q → JR d jM_76 4 [.ref l0, .int l1, .int l2] [] h (jo_i q)
 | 0 => fun _ _ _ _ hq => nomatch (show (none : Option (Int32 × LH)) = some q from hq)
 | n + 1 => fun _ _ _ _ hq => F_Scene_allStored_c4_ok hd (F_Scene_allStored_l4_ok hd n) hq
noncomputable def F_Scene_allStored (l0 : Nat) (h : LH) : Option (Int32 × LH) :=
 F_Scene_allStored_l4  jF l0 (0 : Int32) (0 : Int32) h
set_option maxRecDepth 100000 in
theorem F_Scene_allStored_ok {d : Nat} (hd : 2 ≤ d) {l0 : Nat} {h : LH} {q : (Int32 × LH)} : F_Scene_allStored l0 h = some q → jl_Sem jt_T jt_Ms d 76 [.ref l0] h (jo_i q) := by
 unfold F_Scene_allStored
 exact jr_enter (D := 1) hd jM_76_at rfl rfl rfl (fun d hd =>
  jr_iconst 0 1 (0 : Int32) rfl jc_i_0 rfl
  (jr_istoren 1 2 [.ref l0, .int (0 : Int32), .retAddr 0] rfl rfl rfl rfl
  (jr_iconst 2 3 (0 : Int32) rfl jc_i_0 rfl
  (jr_istoren 3 4 [.ref l0, .int (0 : Int32), .int (0 : Int32)] rfl rfl rfl rfl
  ((F_Scene_allStored_l4_ok hd  jF _ _ _ _))))))
noncomputable def jM_77 : JMeth := (6, false, 1, jk_77, [], 4)
set_option maxRecDepth 100000 in
theorem jM_77_at : jt_Ms 77 = some jM_77 := rfl
noncomputable def F_Scene_firesThatStandAt_b35 (k4 : Nat → Int32 → Int32 → Int32 → LH → Option (Int32 × LH)) (l0 : Nat) (l1 : Int32) (l2 : Int32) (l3 : Int32) (h : LH) : Option (Int32 × LH) :=
 k4 l0 l1 l2 (l3 + (1 : Int32)) h
set_option maxRecDepth 100000 in
theorem F_Scene_firesThatStandAt_b35_ok {d : Nat} {q : (Int32 × LH)} {k4 : Nat → Int32 → Int32 → Int32 → LH → Option (Int32 × LH)} (hd : 3 ≤ d) (hk4 : ∀ (l0 : Nat) (l1 : Int32) (l2 : Int32) (l3 : Int32) (h : LH), k4 l0 l1 l2 l3 h = some q → JR d jM_77 4 [.ref l0, .int l1, .int l2, .int l3] [] h (jo_i q)) {l0 : Nat} {l1 : Int32} {l2 : Int32} {l3 : Int32} {h : LH} : F_Scene_firesThatStandAt_b35 k4 l0 l1 l2 l3 h = some q → JR d jM_77 35 [.ref l0, .int l1, .int l2, .int l3] [] h (jo_i q) := by
 unfold F_Scene_firesThatStandAt_b35
 exact jr_iinc 35 38 [.ref l0, .int l1, .int l2, .int (l3 + (1 : Int32))] rfl jc_i_1 rfl rfl rfl rfl
  (jr_goto 38 4 rfl rfl
  ((hk4 _ _ _ _ _)))
noncomputable def F_Scene_firesThatStandAt_c4 (k4 : Nat → Int32 → Int32 → Int32 → LH → Option (Int32 × LH)) (l0 : Nat) (l1 : Int32) (l2 : Int32) (l3 : Int32) (h : LH) : Option (Int32 × LH) :=
 jf_gr h l0 6 1 fun v1 =>
 jf_gi h v1 8 0 fun v2 =>
 if l3 < v2 then
 jf_kd h l0 6
 (jf_bi (F_Scene_burning l0 l3 h) fun v3 h4 =>
 if 0 < v3 then
 jf_kd h4 l0 6
 (jf_bi (F_Scene_standsAt l0 l3 h4) fun v5 h6 =>
 if v5 = l1 then
 F_Scene_firesThatStandAt_b35 k4 l0 l1 (l2 + (1 : Int32)) l3 h6
else
 F_Scene_firesThatStandAt_b35 k4 l0 l1 l2 l3 h6)
else
 F_Scene_firesThatStandAt_b35 k4 l0 l1 l2 l3 h4)
else
 some (l2, h)
set_option maxRecDepth 100000 in
theorem F_Scene_firesThatStandAt_c4_ok {d : Nat} {q : (Int32 × LH)} {k4 : Nat → Int32 → Int32 → Int32 → LH → Option (Int32 × LH)} (hd : 3 ≤ d) (hk4 : ∀ (l0 : Nat) (l1 : Int32) (l2 : Int32) (l3 : Int32) (h : LH), k4 l0 l1 l2 l3 h = some q → JR d jM_77 4 [.ref l0, .int l1, .int l2, .int l3] [] h (jo_i q)) {l0 : Nat} {l1 : Int32} {l2 : Int32} {l3 : Int32} {h : LH} : F_Scene_firesThatStandAt_c4 k4 l0 l1 l2 l3 h = some q → JR d jM_77 4 [.ref l0, .int l1, .int l2, .int l3] [] h (jo_i q) := by
 unfold F_Scene_firesThatStandAt_c4
 exact jr_iloadn 4 5 rfl rfl rfl
  (jr_aloadn 5 6 rfl rfl rfl
  (jr_gr 6 9 rfl jg_6_26_2 rfl (fun v1 =>
  jr_gi 9 12 rfl jg_6_72_1 rfl (fun v2 =>
  jr_icmp_ge 12 41 15 rfl rfl rfl
  (jr_iloadn 41 42 rfl rfl rfl
  (jr_ri 42 rfl rfl))
  (jr_aloadn 15 16 rfl rfl rfl
  (jr_iloadn 16 17 rfl rfl rfl
  (jr_cVi 17 20 [] rfl rfl rfl rfl rfl rfl rfl rfl (as := [.int l3]) (F_Scene_burning_ok (Nat.le_trans (by decide : 1 ≤ 3) hd)) (fun v3 h4 =>
  jr_if_le 20 35 23 rfl rfl rfl
  ((F_Scene_firesThatStandAt_b35_ok hd hk4))
  (jr_aloadn 23 24 rfl rfl rfl
  (jr_iloadn 24 25 rfl rfl rfl
  (jr_cVi 25 28 [] rfl rfl rfl rfl rfl rfl rfl rfl (as := [.int l3]) (F_Scene_standsAt_ok (Nat.le_trans (by decide : 3 ≤ 3) hd)) (fun v5 h6 =>
  jr_iloadn 28 29 rfl rfl rfl
  (jr_icmp_ne 29 35 32 rfl rfl rfl
  ((F_Scene_firesThatStandAt_b35_ok hd hk4))
  (jr_iinc 32 35 [.ref l0, .int l1, .int (l2 + (1 : Int32)), .int l3] rfl jc_i_1 rfl rfl rfl rfl
  ((F_Scene_firesThatStandAt_b35_ok hd hk4))))))))))))))))
noncomputable def F_Scene_firesThatStandAt_l4 : Nat → Nat → Int32 → Int32 → Int32 → LH → Option (Int32 × LH)
 | 0, _, _, _, _, _ => none
 | n + 1, l0, l1, l2, l3, h => F_Scene_firesThatStandAt_c4 (F_Scene_firesThatStandAt_l4 n) l0 l1 l2 l3 h
theorem F_Scene_firesThatStandAt_l4_ok {d : Nat} {q : (Int32 × LH)} (hd : 3 ≤ d) : ∀ (n : Nat) (l0 : Nat) (l1 : Int32) (l2 : Int32) (l3 : Int32) (h : LH), F_Scene_firesThatStandAt_l4 n l0 l1 l2 l3 h = some q → JR d jM_77 4 [.ref l0, .int l1, .int l2, .int l3] [] h (jo_i q)
 | 0 => fun _ _ _ _ _ hq => nomatch (show (none : Option (Int32 × LH)) = some q from hq)
 | n + 1 => fun _ _ _ _ _ hq => F_Scene_firesThatStandAt_c4_ok hd (F_Scene_firesThatStandAt_l4_ok hd n) hq
noncomputable def F_Scene_firesThatStandAt (l0 : Nat) (l1 : Int32) (h : LH) : Option (Int32 × LH) :=
 F_Scene_firesThatStandAt_l4  jF l0 l1 (0 : Int32) (0 : Int32) h
set_option maxRecDepth 100000 in
theorem F_Scene_firesThatStandAt_ok {d : Nat} (hd : 4 ≤ d) {l0 : Nat} {l1 : Int32} {h : LH} {q : (Int32 × LH)} : F_Scene_firesThatStandAt l0 l1 h = some q → jl_Sem jt_T jt_Ms d 77 [.ref l0, .int l1] h (jo_i q) := by
 unfold F_Scene_firesThatStandAt
 exact jr_enter (D := 3) hd jM_77_at rfl rfl rfl (fun d hd =>
  jr_iconst 0 1 (0 : Int32) rfl jc_i_0 rfl
  (jr_istoren 1 2 [.ref l0, .int l1, .int (0 : Int32), .retAddr 0] rfl rfl rfl rfl
  (jr_iconst 2 3 (0 : Int32) rfl jc_i_0 rfl
  (jr_istoren 3 4 [.ref l0, .int l1, .int (0 : Int32), .int (0 : Int32)] rfl rfl rfl rfl
  ((F_Scene_firesThatStandAt_l4_ok hd  jF _ _ _ _ _))))))
noncomputable def jM_78 : JMeth := (6, false, 1, jk_78, [], 4)
set_option maxRecDepth 100000 in
theorem jM_78_at : jt_Ms 78 = some jM_78 := rfl
noncomputable def F_Scene_comersThat_b27 (k4 : Nat → Int32 → Int32 → Int32 → LH → Option (Int32 × LH)) (l0 : Nat) (l1 : Int32) (l2 : Int32) (l3 : Int32) (h : LH) : Option (Int32 × LH) :=
 k4 l0 l1 l2 (l3 + (1 : Int32)) h
set_option maxRecDepth 100000 in
theorem F_Scene_comersThat_b27_ok {d : Nat} {q : (Int32 × LH)} {k4 : Nat → Int32 → Int32 → Int32 → LH → Option (Int32 × LH)} (hd : 1 ≤ d) (hk4 : ∀ (l0 : Nat) (l1 : Int32) (l2 : Int32) (l3 : Int32) (h : LH), k4 l0 l1 l2 l3 h = some q → JR d jM_78 4 [.ref l0, .int l1, .int l2, .int l3] [] h (jo_i q)) {l0 : Nat} {l1 : Int32} {l2 : Int32} {l3 : Int32} {h : LH} : F_Scene_comersThat_b27 k4 l0 l1 l2 l3 h = some q → JR d jM_78 27 [.ref l0, .int l1, .int l2, .int l3] [] h (jo_i q) := by
 unfold F_Scene_comersThat_b27
 exact jr_iinc 27 30 [.ref l0, .int l1, .int l2, .int (l3 + (1 : Int32))] rfl jc_i_1 rfl rfl rfl rfl
  (jr_goto 30 4 rfl rfl
  ((hk4 _ _ _ _ _)))
noncomputable def F_Scene_comersThat_c4 (k4 : Nat → Int32 → Int32 → Int32 → LH → Option (Int32 × LH)) (l0 : Nat) (l1 : Int32) (l2 : Int32) (l3 : Int32) (h : LH) : Option (Int32 × LH) :=
 jf_gr h l0 6 1 fun v1 =>
 jf_gi h v1 8 4 fun v2 =>
 if l3 < v2 then
 jf_kd h l0 6
 (jf_bi (F_Scene_came l0 l3 h) fun v3 h4 =>
 if v3 = l1 then
 F_Scene_comersThat_b27 k4 l0 l1 (l2 + (1 : Int32)) l3 h4
else
 F_Scene_comersThat_b27 k4 l0 l1 l2 l3 h4)
else
 some (l2, h)
set_option maxRecDepth 100000 in
theorem F_Scene_comersThat_c4_ok {d : Nat} {q : (Int32 × LH)} {k4 : Nat → Int32 → Int32 → Int32 → LH → Option (Int32 × LH)} (hd : 1 ≤ d) (hk4 : ∀ (l0 : Nat) (l1 : Int32) (l2 : Int32) (l3 : Int32) (h : LH), k4 l0 l1 l2 l3 h = some q → JR d jM_78 4 [.ref l0, .int l1, .int l2, .int l3] [] h (jo_i q)) {l0 : Nat} {l1 : Int32} {l2 : Int32} {l3 : Int32} {h : LH} : F_Scene_comersThat_c4 k4 l0 l1 l2 l3 h = some q → JR d jM_78 4 [.ref l0, .int l1, .int l2, .int l3] [] h (jo_i q) := by
 unfold F_Scene_comersThat_c4
 exact jr_iloadn 4 5 rfl rfl rfl
  (jr_aloadn 5 6 rfl rfl rfl
  (jr_gr 6 9 rfl jg_6_26_2 rfl (fun v1 =>
  jr_gi 9 12 rfl jg_6_122_1 rfl (fun v2 =>
  jr_icmp_ge 12 33 15 rfl rfl rfl
  (jr_iloadn 33 34 rfl rfl rfl
  (jr_ri 34 rfl rfl))
  (jr_aloadn 15 16 rfl rfl rfl
  (jr_iloadn 16 17 rfl rfl rfl
  (jr_cVi 17 20 [] rfl rfl rfl rfl rfl rfl rfl rfl (as := [.int l3]) (F_Scene_came_ok (Nat.le_trans (by decide : 1 ≤ 1) hd)) (fun v3 h4 =>
  jr_iloadn 20 21 rfl rfl rfl
  (jr_icmp_ne 21 27 24 rfl rfl rfl
  ((F_Scene_comersThat_b27_ok hd hk4))
  (jr_iinc 24 27 [.ref l0, .int l1, .int (l2 + (1 : Int32)), .int l3] rfl jc_i_1 rfl rfl rfl rfl
  ((F_Scene_comersThat_b27_ok hd hk4))))))))))))
noncomputable def F_Scene_comersThat_l4 : Nat → Nat → Int32 → Int32 → Int32 → LH → Option (Int32 × LH)
 | 0, _, _, _, _, _ => none
 | n + 1, l0, l1, l2, l3, h => F_Scene_comersThat_c4 (F_Scene_comersThat_l4 n) l0 l1 l2 l3 h
theorem F_Scene_comersThat_l4_ok {d : Nat} {q : (Int32 × LH)} (hd : 1 ≤ d) : ∀ (n : Nat) (l0 : Nat) (l1 : Int32) (l2 : Int32) (l3 : Int32) (h : LH), F_Scene_comersThat_l4 n l0 l1 l2 l3 h = some q → JR d jM_78 4 [.ref l0, .int l1, .int l2, .int l3] [] h (jo_i q)
 | 0 => fun _ _ _ _ _ hq => nomatch (show (none : Option (Int32 × LH)) = some q from hq)
 | n + 1 => fun _ _ _ _ _ hq => F_Scene_comersThat_c4_ok hd (F_Scene_comersThat_l4_ok hd n) hq
noncomputable def F_Scene_comersThat (l0 : Nat) (l1 : Int32) (h : LH) : Option (Int32 × LH) :=
 F_Scene_comersThat_l4  jF l0 l1 (0 : Int32) (0 : Int32) h
set_option maxRecDepth 100000 in
theorem F_Scene_comersThat_ok {d : Nat} (hd : 2 ≤ d) {l0 : Nat} {l1 : Int32} {h : LH} {q : (Int32 × LH)} : F_Scene_comersThat l0 l1 h = some q → jl_Sem jt_T jt_Ms d 78 [.ref l0, .int l1] h (jo_i q) := by
 unfold F_Scene_comersThat
 exact jr_enter (D := 1) hd jM_78_at rfl rfl rfl (fun d hd =>
  jr_iconst 0 1 (0 : Int32) rfl jc_i_0 rfl
  (jr_istoren 1 2 [.ref l0, .int l1, .int (0 : Int32), .retAddr 0] rfl rfl rfl rfl
  (jr_iconst 2 3 (0 : Int32) rfl jc_i_0 rfl
  (jr_istoren 3 4 [.ref l0, .int l1, .int (0 : Int32), .int (0 : Int32)] rfl rfl rfl rfl
  ((F_Scene_comersThat_l4_ok hd  jF _ _ _ _ _))))))

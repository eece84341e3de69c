/-! FUNCTIONS FOR METHODS, by wip/whole/funs.py: F_Chk_wood, F_Chk_comer, F_Chk_log, F_Chk_would, F_Chk_when, F_Chk_shut, F_Chk_keeps, F_Chk_thief, F_Chk_guard, F_Chk_lean, F_Chk_burnt, F_Chk_fits, F_Chk_nose, F_Chk_siege, F_Chk_distance, F_Chk_read, F_Chk_share, F_Chk_crowd, F_Chk_turned, F_Chk_thickest, F_Chk_ahead, F_Chk_days, F_Chk_span -/
noncomputable def jM_289 : JMeth := (12, false, 1, jk_289, [(0, 13), (1, 17)], 5)
set_option maxRecDepth 100000 in
theorem jM_289_at : jt_Ms 289 = some jM_289 := rfl
noncomputable def F_Chk_wood (l0 : Nat) (l1 : Int32) (l2 : Int32) (l3 : Nat) (h : LH) : Option (Int32 × LH) :=
 jf_kd h l0 10
 (jf_ct (F_SG_wood l0 l1 l2 h) (fun v1 h2 =>
 jf_ls h2 l3 (0 : Int32) (v1).toInt64 fun h3 =>
 some ((0 : Int32), h3))
 (fun h4 =>
 some ((1 : Int32), h4)) (fun h5 =>
 some ((2 : Int32), h5)))
set_option maxRecDepth 100000 in
theorem F_Chk_wood_ok {d : Nat} (hd : 4 ≤ d) {l0 : Nat} {l1 : Int32} {l2 : Int32} {l3 : Nat} {h : LH} {q : (Int32 × LH)} : F_Chk_wood l0 l1 l2 l3 h = some q → jl_Sem jt_T jt_Ms d 289 [.ref l0, .int l1, .int l2, .ref l3] h (jo_i q) := by
 unfold F_Chk_wood
 exact jr_enter (D := 3) hd jM_289_at rfl rfl rfl (fun d hd =>
  jr_aloadn 0 1 rfl rfl rfl
  (jr_iconst 1 2 (0 : Int32) rfl jc_i_0 rfl
  (jr_aloadn 2 3 rfl rfl rfl
  (jr_iloadn 3 4 rfl rfl rfl
  (jr_iloadn 4 5 rfl rfl rfl
  (jr_cVc 5 8 [.int (0 : Int32), .ref l3] rfl rfl rfl rfl rfl rfl rfl rfl (as := [.int l1, .int l2]) (n0 := 15) (l0 := [.ref l0, .int l1, .int l2, .ref l3, .retAddr 0]) (n1 := 19) (l1 := [.ref l0, .int l1, .int l2, .ref l3, .retAddr 0]) (F_SG_wood_ok (Nat.le_trans (by decide : 3 ≤ 3) hd)) (fun v1 h2 =>
  jr_i2l 8 9 rfl rfl
  (jr_ls 9 10 rfl rfl (fun h3 =>
  jr_goto 10 21 rfl rfl
  (jr_iconst 21 22 (0 : Int32) rfl jc_i_0 rfl
  (jr_ri 22 rfl rfl)))))
  (Or.inr ⟨rfl, fun h4 =>
  jr_iconst 15 16 (1 : Int32) rfl jc_i_1 rfl
  (jr_ri 16 rfl rfl)⟩) (Or.inr ⟨rfl, fun h5 =>
  jr_iconst 19 20 (2 : Int32) rfl jc_i_2 rfl
  (jr_ri 20 rfl rfl)⟩)))))))
noncomputable def jM_290 : JMeth := (12, false, 1, jk_290, [(0, 13), (1, 17)], 5)
set_option maxRecDepth 100000 in
theorem jM_290_at : jt_Ms 290 = some jM_290 := rfl
noncomputable def F_Chk_comer (l0 : Nat) (l1 : Int32) (l2 : Int32) (l3 : Nat) (h : LH) : Option (Int32 × LH) :=
 jf_kd h l0 10
 (jf_ct (F_SG_comer l0 l1 l2 h) (fun v1 h2 =>
 jf_ls h2 l3 (0 : Int32) (v1).toInt64 fun h3 =>
 some ((0 : Int32), h3))
 (fun h4 =>
 some ((1 : Int32), h4)) (fun h5 =>
 some ((2 : Int32), h5)))
set_option maxRecDepth 100000 in
theorem F_Chk_comer_ok {d : Nat} (hd : 3 ≤ d) {l0 : Nat} {l1 : Int32} {l2 : Int32} {l3 : Nat} {h : LH} {q : (Int32 × LH)} : F_Chk_comer l0 l1 l2 l3 h = some q → jl_Sem jt_T jt_Ms d 290 [.ref l0, .int l1, .int l2, .ref l3] h (jo_i q) := by
 unfold F_Chk_comer
 exact jr_enter (D := 2) hd jM_290_at rfl rfl rfl (fun d hd =>
  jr_aloadn 0 1 rfl rfl rfl
  (jr_iconst 1 2 (0 : Int32) rfl jc_i_0 rfl
  (jr_aloadn 2 3 rfl rfl rfl
  (jr_iloadn 3 4 rfl rfl rfl
  (jr_iloadn 4 5 rfl rfl rfl
  (jr_cVc 5 8 [.int (0 : Int32), .ref l3] rfl rfl rfl rfl rfl rfl rfl rfl (as := [.int l1, .int l2]) (n0 := 15) (l0 := [.ref l0, .int l1, .int l2, .ref l3, .retAddr 0]) (n1 := 19) (l1 := [.ref l0, .int l1, .int l2, .ref l3, .retAddr 0]) (F_SG_comer_ok (Nat.le_trans (by decide : 2 ≤ 2) hd)) (fun v1 h2 =>
  jr_i2l 8 9 rfl rfl
  (jr_ls 9 10 rfl rfl (fun h3 =>
  jr_goto 10 21 rfl rfl
  (jr_iconst 21 22 (0 : Int32) rfl jc_i_0 rfl
  (jr_ri 22 rfl rfl)))))
  (Or.inr ⟨rfl, fun h4 =>
  jr_iconst 15 16 (1 : Int32) rfl jc_i_1 rfl
  (jr_ri 16 rfl rfl)⟩) (Or.inr ⟨rfl, fun h5 =>
  jr_iconst 19 20 (2 : Int32) rfl jc_i_2 rfl
  (jr_ri 20 rfl rfl)⟩)))))))
noncomputable def jM_291 : JMeth := (12, false, 1, jk_291, [(0, 15), (1, 19)], 6)
set_option maxRecDepth 100000 in
theorem jM_291_at : jt_Ms 291 = some jM_291 := rfl
noncomputable def F_Chk_log (l0 : Nat) (l1 : Int32) (l2 : Int32) (l3 : Int32) (l4 : Nat) (h : LH) : Option (Int32 × LH) :=
 jf_kd h l0 10
 (jf_ct (F_SG_log l0 l1 l2 l3 h) (fun v1 h2 =>
 jf_ls h2 l4 (0 : Int32) (v1).toInt64 fun h3 =>
 some ((0 : Int32), h3))
 (fun h4 =>
 some ((1 : Int32), h4)) (fun h5 =>
 some ((2 : Int32), h5)))
set_option maxRecDepth 100000 in
theorem F_Chk_log_ok {d : Nat} (hd : 4 ≤ d) {l0 : Nat} {l1 : Int32} {l2 : Int32} {l3 : Int32} {l4 : Nat} {h : LH} {q : (Int32 × LH)} : F_Chk_log l0 l1 l2 l3 l4 h = some q → jl_Sem jt_T jt_Ms d 291 [.ref l0, .int l1, .int l2, .int l3, .ref l4] h (jo_i q) := by
 unfold F_Chk_log
 exact jr_enter (D := 3) hd jM_291_at rfl rfl rfl (fun d hd =>
  jr_aload 0 2 rfl rfl rfl
  (jr_iconst 2 3 (0 : Int32) rfl jc_i_0 rfl
  (jr_aloadn 3 4 rfl rfl rfl
  (jr_iloadn 4 5 rfl rfl rfl
  (jr_iloadn 5 6 rfl rfl rfl
  (jr_iloadn 6 7 rfl rfl rfl
  (jr_cVc 7 10 [.int (0 : Int32), .ref l4] rfl rfl rfl rfl rfl rfl rfl rfl (as := [.int l1, .int l2, .int l3]) (n0 := 17) (l0 := [.ref l0, .int l1, .int l2, .int l3, .ref l4, .retAddr 0]) (n1 := 21) (l1 := [.ref l0, .int l1, .int l2, .int l3, .ref l4, .retAddr 0]) (F_SG_log_ok (Nat.le_trans (by decide : 3 ≤ 3) hd)) (fun v1 h2 =>
  jr_i2l 10 11 rfl rfl
  (jr_ls 11 12 rfl rfl (fun h3 =>
  jr_goto 12 23 rfl rfl
  (jr_iconst 23 24 (0 : Int32) rfl jc_i_0 rfl
  (jr_ri 24 rfl rfl)))))
  (Or.inr ⟨rfl, fun h4 =>
  jr_iconst 17 18 (1 : Int32) rfl jc_i_1 rfl
  (jr_ri 18 rfl rfl)⟩) (Or.inr ⟨rfl, fun h5 =>
  jr_iconst 21 22 (2 : Int32) rfl jc_i_2 rfl
  (jr_ri 22 rfl rfl)⟩))))))))
noncomputable def jM_292 : JMeth := (12, false, 1, jk_292, [(0, 22), (1, 26)], 6)
set_option maxRecDepth 100000 in
theorem jM_292_at : jt_Ms 292 = some jM_292 := rfl
noncomputable def F_Chk_would_b18 (s0 : Nat) (s1 : Int32) (s2 : Int64) (h : LH) : Option (Int32 × LH) :=
 jf_ls h s0 s1 s2 fun h1 =>
 some ((0 : Int32), h1)
set_option maxRecDepth 100000 in
theorem F_Chk_would_b18_ok {d : Nat} {q : (Int32 × LH)} (hd : 4 ≤ d) {s0 : Nat} {s1 : Int32} {s2 : Int64} {u0 : Value} {u1 : Value} {u2 : Value} {u3 : Value} {u4 : Value} {u5 : Value} {h : LH} : F_Chk_would_b18 s0 s1 s2 h = some q → JR d jM_292 18 [u0, u1, u2, u3, u4, u5] [.long s2, .int s1, .ref s0] h (jo_i q) := by
 unfold F_Chk_would_b18
 exact jr_ls 18 19 rfl rfl (fun h1 =>
  jr_goto 19 30 rfl rfl
  (jr_iconst 30 31 (0 : Int32) rfl jc_i_0 rfl
  (jr_ri 31 rfl rfl)))
noncomputable def F_Chk_would (l0 : Nat) (l1 : Int32) (l2 : Int32) (l3 : Int32) (l4 : Nat) (h : LH) : Option (Int32 × LH) :=
 jf_kd h l0 10
 (jf_ct (F_SG_would l0 l1 l2 l3 h) (fun v1 h2 =>
 if v1 = 0 then
 F_Chk_would_b18  l4 (0 : Int32) (0 : Int64) h2
else
 F_Chk_would_b18  l4 (0 : Int32) (1 : Int64) h2)
 (fun h3 =>
 some ((1 : Int32), h3)) (fun h4 =>
 some ((2 : Int32), h4)))
set_option maxRecDepth 100000 in
theorem F_Chk_would_ok {d : Nat} (hd : 5 ≤ d) {l0 : Nat} {l1 : Int32} {l2 : Int32} {l3 : Int32} {l4 : Nat} {h : LH} {q : (Int32 × LH)} : F_Chk_would l0 l1 l2 l3 l4 h = some q → jl_Sem jt_T jt_Ms d 292 [.ref l0, .int l1, .int l2, .int l3, .ref l4] h (jo_i q) := by
 unfold F_Chk_would
 exact jr_enter (D := 4) hd jM_292_at rfl rfl rfl (fun d hd =>
  jr_aload 0 2 rfl rfl rfl
  (jr_iconst 2 3 (0 : Int32) rfl jc_i_0 rfl
  (jr_aloadn 3 4 rfl rfl rfl
  (jr_iloadn 4 5 rfl rfl rfl
  (jr_iloadn 5 6 rfl rfl rfl
  (jr_iloadn 6 7 rfl rfl rfl
  (jr_cVc 7 10 [.int (0 : Int32), .ref l4] rfl rfl rfl rfl rfl rfl rfl rfl (as := [.int l1, .int l2, .int l3]) (n0 := 24) (l0 := [.ref l0, .int l1, .int l2, .int l3, .ref l4, .retAddr 0]) (n1 := 28) (l1 := [.ref l0, .int l1, .int l2, .int l3, .ref l4, .retAddr 0]) (F_SG_would_ok (Nat.le_trans (by decide : 4 ≤ 4) hd)) (fun v1 h2 =>
  jr_if_eq 10 17 13 rfl rfl rfl
  (jr_lconst 17 18 (0 : Int64) rfl rfl rfl
  ((F_Chk_would_b18_ok hd )))
  (jr_lconst 13 14 (1 : Int64) rfl rfl rfl
  (jr_goto 14 18 rfl rfl
  ((F_Chk_would_b18_ok hd )))))
  (Or.inr ⟨rfl, fun h3 =>
  jr_iconst 24 25 (1 : Int32) rfl jc_i_1 rfl
  (jr_ri 25 rfl rfl)⟩) (Or.inr ⟨rfl, fun h4 =>
  jr_iconst 28 29 (2 : Int32) rfl jc_i_2 rfl
  (jr_ri 29 rfl rfl)⟩))))))))
noncomputable def jM_293 : JMeth := (12, false, 1, jk_293, [(0, 13), (1, 17)], 5)
set_option maxRecDepth 100000 in
theorem jM_293_at : jt_Ms 293 = some jM_293 := rfl
noncomputable def F_Chk_when (l0 : Nat) (l1 : Int32) (l2 : Int32) (l3 : Nat) (h : LH) : Option (Int32 × LH) :=
 jf_kd h l0 10
 (jf_ct (F_SG_when l0 l1 l2 h) (fun v1 h2 =>
 jf_ls h2 l3 (0 : Int32) (v1).toInt64 fun h3 =>
 some ((0 : Int32), h3))
 (fun h4 =>
 some ((1 : Int32), h4)) (fun h5 =>
 some ((2 : Int32), h5)))
set_option maxRecDepth 100000 in
theorem F_Chk_when_ok {d : Nat} (hd : 6 ≤ d) {l0 : Nat} {l1 : Int32} {l2 : Int32} {l3 : Nat} {h : LH} {q : (Int32 × LH)} : F_Chk_when l0 l1 l2 l3 h = some q → jl_Sem jt_T jt_Ms d 293 [.ref l0, .int l1, .int l2, .ref l3] h (jo_i q) := by
 unfold F_Chk_when
 exact jr_enter (D := 5) hd jM_293_at rfl rfl rfl (fun d hd =>
  jr_aloadn 0 1 rfl rfl rfl
  (jr_iconst 1 2 (0 : Int32) rfl jc_i_0 rfl
  (jr_aloadn 2 3 rfl rfl rfl
  (jr_iloadn 3 4 rfl rfl rfl
  (jr_iloadn 4 5 rfl rfl rfl
  (jr_cVc 5 8 [.int (0 : Int32), .ref l3] rfl rfl rfl rfl rfl rfl rfl rfl (as := [.int l1, .int l2]) (n0 := 15) (l0 := [.ref l0, .int l1, .int l2, .ref l3, .retAddr 0]) (n1 := 19) (l1 := [.ref l0, .int l1, .int l2, .ref l3, .retAddr 0]) (F_SG_when_ok (Nat.le_trans (by decide : 5 ≤ 5) hd)) (fun v1 h2 =>
  jr_i2l 8 9 rfl rfl
  (jr_ls 9 10 rfl rfl (fun h3 =>
  jr_goto 10 21 rfl rfl
  (jr_iconst 21 22 (0 : Int32) rfl jc_i_0 rfl
  (jr_ri 22 rfl rfl)))))
  (Or.inr ⟨rfl, fun h4 =>
  jr_iconst 15 16 (1 : Int32) rfl jc_i_1 rfl
  (jr_ri 16 rfl rfl)⟩) (Or.inr ⟨rfl, fun h5 =>
  jr_iconst 19 20 (2 : Int32) rfl jc_i_2 rfl
  (jr_ri 20 rfl rfl)⟩)))))))
noncomputable def jM_294 : JMeth := (12, false, 1, jk_294, [(0, 13), (1, 17)], 5)
set_option maxRecDepth 100000 in
theorem jM_294_at : jt_Ms 294 = some jM_294 := rfl
noncomputable def F_Chk_shut (l0 : Nat) (l1 : Int32) (l2 : Int32) (l3 : Nat) (h : LH) : Option (Int32 × LH) :=
 jf_kd h l0 10
 (jf_ct (F_SG_shut l0 l1 l2 h) (fun v1 h2 =>
 jf_ls h2 l3 (0 : Int32) (v1).toInt64 fun h3 =>
 some ((0 : Int32), h3))
 (fun h4 =>
 some ((1 : Int32), h4)) (fun h5 =>
 some ((2 : Int32), h5)))
set_option maxRecDepth 100000 in
theorem F_Chk_shut_ok {d : Nat} (hd : 6 ≤ d) {l0 : Nat} {l1 : Int32} {l2 : Int32} {l3 : Nat} {h : LH} {q : (Int32 × LH)} : F_Chk_shut l0 l1 l2 l3 h = some q → jl_Sem jt_T jt_Ms d 294 [.ref l0, .int l1, .int l2, .ref l3] h (jo_i q) := by
 unfold F_Chk_shut
 exact jr_enter (D := 5) hd jM_294_at rfl rfl rfl (fun d hd =>
  jr_aloadn 0 1 rfl rfl rfl
  (jr_iconst 1 2 (0 : Int32) rfl jc_i_0 rfl
  (jr_aloadn 2 3 rfl rfl rfl
  (jr_iloadn 3 4 rfl rfl rfl
  (jr_iloadn 4 5 rfl rfl rfl
  (jr_cVc 5 8 [.int (0 : Int32), .ref l3] rfl rfl rfl rfl rfl rfl rfl rfl (as := [.int l1, .int l2]) (n0 := 15) (l0 := [.ref l0, .int l1, .int l2, .ref l3, .retAddr 0]) (n1 := 19) (l1 := [.ref l0, .int l1, .int l2, .ref l3, .retAddr 0]) (F_SG_shut_ok (Nat.le_trans (by decide : 5 ≤ 5) hd)) (fun v1 h2 =>
  jr_i2l 8 9 rfl rfl
  (jr_ls 9 10 rfl rfl (fun h3 =>
  jr_goto 10 21 rfl rfl
  (jr_iconst 21 22 (0 : Int32) rfl jc_i_0 rfl
  (jr_ri 22 rfl rfl)))))
  (Or.inr ⟨rfl, fun h4 =>
  jr_iconst 15 16 (1 : Int32) rfl jc_i_1 rfl
  (jr_ri 16 rfl rfl)⟩) (Or.inr ⟨rfl, fun h5 =>
  jr_iconst 19 20 (2 : Int32) rfl jc_i_2 rfl
  (jr_ri 20 rfl rfl)⟩)))))))
noncomputable def jM_295 : JMeth := (12, false, 1, jk_295, [(0, 19), (1, 23)], 8)
set_option maxRecDepth 100000 in
theorem jM_295_at : jt_Ms 295 = some jM_295 := rfl
noncomputable def F_Chk_keeps (l0 : Nat) (l1 : Int32) (l2 : Int32) (l3 : Int32) (l4 : Int32) (l5 : Int32) (l6 : Nat) (h : LH) : Option (Int32 × LH) :=
 jf_kd h l0 10
 (jf_ct (F_SG_keeps l0 l1 l2 l3 l4 l5 h) (fun v1 h2 =>
 jf_ls h2 l6 (0 : Int32) (v1).toInt64 fun h3 =>
 some ((0 : Int32), h3))
 (fun h4 =>
 some ((1 : Int32), h4)) (fun h5 =>
 some ((2 : Int32), h5)))
set_option maxRecDepth 100000 in
theorem F_Chk_keeps_ok {d : Nat} (hd : 103 ≤ d) {l0 : Nat} {l1 : Int32} {l2 : Int32} {l3 : Int32} {l4 : Int32} {l5 : Int32} {l6 : Nat} {h : LH} {q : (Int32 × LH)} : F_Chk_keeps l0 l1 l2 l3 l4 l5 l6 h = some q → jl_Sem jt_T jt_Ms d 295 [.ref l0, .int l1, .int l2, .int l3, .int l4, .int l5, .ref l6] h (jo_i q) := by
 unfold F_Chk_keeps
 exact jr_enter (D := 102) hd jM_295_at rfl rfl rfl (fun d hd =>
  jr_aload 0 2 rfl rfl rfl
  (jr_iconst 2 3 (0 : Int32) rfl jc_i_0 rfl
  (jr_aloadn 3 4 rfl rfl rfl
  (jr_iloadn 4 5 rfl rfl rfl
  (jr_iloadn 5 6 rfl rfl rfl
  (jr_iloadn 6 7 rfl rfl rfl
  (jr_iload 7 9 rfl rfl rfl
  (jr_iload 9 11 rfl rfl rfl
  (jr_cVc 11 14 [.int (0 : Int32), .ref l6] rfl rfl rfl rfl rfl rfl rfl rfl (as := [.int l1, .int l2, .int l3, .int l4, .int l5]) (n0 := 21) (l0 := [.ref l0, .int l1, .int l2, .int l3, .int l4, .int l5, .ref l6, .retAddr 0]) (n1 := 25) (l1 := [.ref l0, .int l1, .int l2, .int l3, .int l4, .int l5, .ref l6, .retAddr 0]) (F_SG_keeps_ok (Nat.le_trans (by decide : 102 ≤ 102) hd)) (fun v1 h2 =>
  jr_i2l 14 15 rfl rfl
  (jr_ls 15 16 rfl rfl (fun h3 =>
  jr_goto 16 27 rfl rfl
  (jr_iconst 27 28 (0 : Int32) rfl jc_i_0 rfl
  (jr_ri 28 rfl rfl)))))
  (Or.inr ⟨rfl, fun h4 =>
  jr_iconst 21 22 (1 : Int32) rfl jc_i_1 rfl
  (jr_ri 22 rfl rfl)⟩) (Or.inr ⟨rfl, fun h5 =>
  jr_iconst 25 26 (2 : Int32) rfl jc_i_2 rfl
  (jr_ri 26 rfl rfl)⟩))))))))))
noncomputable def jM_296 : JMeth := (12, false, 1, jk_296, [(0, 13), (1, 17)], 5)
set_option maxRecDepth 100000 in
theorem jM_296_at : jt_Ms 296 = some jM_296 := rfl
noncomputable def F_Chk_thief (l0 : Nat) (l1 : Int32) (l2 : Int32) (l3 : Nat) (h : LH) : Option (Int32 × LH) :=
 jf_kd h l0 10
 (jf_ct (F_SG_thief l0 l1 l2 h) (fun v1 h2 =>
 jf_ls h2 l3 (0 : Int32) (v1).toInt64 fun h3 =>
 some ((0 : Int32), h3))
 (fun h4 =>
 some ((1 : Int32), h4)) (fun h5 =>
 some ((2 : Int32), h5)))
set_option maxRecDepth 100000 in
theorem F_Chk_thief_ok {d : Nat} (hd : 6 ≤ d) {l0 : Nat} {l1 : Int32} {l2 : Int32} {l3 : Nat} {h : LH} {q : (Int32 × LH)} : F_Chk_thief l0 l1 l2 l3 h = some q → jl_Sem jt_T jt_Ms d 296 [.ref l0, .int l1, .int l2, .ref l3] h (jo_i q) := by
 unfold F_Chk_thief
 exact jr_enter (D := 5) hd jM_296_at rfl rfl rfl (fun d hd =>
  jr_aloadn 0 1 rfl rfl rfl
  (jr_iconst 1 2 (0 : Int32) rfl jc_i_0 rfl
  (jr_aloadn 2 3 rfl rfl rfl
  (jr_iloadn 3 4 rfl rfl rfl
  (jr_iloadn 4 5 rfl rfl rfl
  (jr_cVc 5 8 [.int (0 : Int32), .ref l3] rfl rfl rfl rfl rfl rfl rfl rfl (as := [.int l1, .int l2]) (n0 := 15) (l0 := [.ref l0, .int l1, .int l2, .ref l3, .retAddr 0]) (n1 := 19) (l1 := [.ref l0, .int l1, .int l2, .ref l3, .retAddr 0]) (F_SG_thief_ok (Nat.le_trans (by decide : 5 ≤ 5) hd)) (fun v1 h2 =>
  jr_i2l 8 9 rfl rfl
  (jr_ls 9 10 rfl rfl (fun h3 =>
  jr_goto 10 21 rfl rfl
  (jr_iconst 21 22 (0 : Int32) rfl jc_i_0 rfl
  (jr_ri 22 rfl rfl)))))
  (Or.inr ⟨rfl, fun h4 =>
  jr_iconst 15 16 (1 : Int32) rfl jc_i_1 rfl
  (jr_ri 16 rfl rfl)⟩) (Or.inr ⟨rfl, fun h5 =>
  jr_iconst 19 20 (2 : Int32) rfl jc_i_2 rfl
  (jr_ri 20 rfl rfl)⟩)))))))
noncomputable def jM_297 : JMeth := (12, false, 1, jk_297, [(1, 13)], 5)
set_option maxRecDepth 100000 in
theorem jM_297_at : jt_Ms 297 = some jM_297 := rfl
noncomputable def F_Chk_guard (l0 : Nat) (l1 : Int32) (l2 : Int32) (l3 : Nat) (h : LH) : Option (Int32 × LH) :=
 jf_kd h l0 10
 (jf_ct (F_SG_guard l0 l1 l2 h) (fun v1 h2 =>
 jf_ls h2 l3 (0 : Int32) (v1).toInt64 fun h3 =>
 some ((0 : Int32), h3))
 (fun _ => none) (fun h4 =>
 some ((1 : Int32), h4)))
set_option maxRecDepth 100000 in
theorem F_Chk_guard_ok {d : Nat} (hd : 8 ≤ d) {l0 : Nat} {l1 : Int32} {l2 : Int32} {l3 : Nat} {h : LH} {q : (Int32 × LH)} : F_Chk_guard l0 l1 l2 l3 h = some q → jl_Sem jt_T jt_Ms d 297 [.ref l0, .int l1, .int l2, .ref l3] h (jo_i q) := by
 unfold F_Chk_guard
 exact jr_enter (D := 7) hd jM_297_at rfl rfl rfl (fun d hd =>
  jr_aloadn 0 1 rfl rfl rfl
  (jr_iconst 1 2 (0 : Int32) rfl jc_i_0 rfl
  (jr_aloadn 2 3 rfl rfl rfl
  (jr_iloadn 3 4 rfl rfl rfl
  (jr_iloadn 4 5 rfl rfl rfl
  (jr_cVc 5 8 [.int (0 : Int32), .ref l3] rfl rfl rfl rfl rfl rfl rfl rfl (as := [.int l1, .int l2]) (n0 := 0) (l0 := []) (n1 := 15) (l1 := [.ref l0, .int l1, .int l2, .ref l3, .retAddr 0]) (F_SG_guard_ok (Nat.le_trans (by decide : 7 ≤ 7) hd)) (fun v1 h2 =>
  jr_i2l 8 9 rfl rfl
  (jr_ls 9 10 rfl rfl (fun h3 =>
  jr_goto 10 17 rfl rfl
  (jr_iconst 17 18 (0 : Int32) rfl jc_i_0 rfl
  (jr_ri 18 rfl rfl)))))
  (Or.inl fun _ => rfl) (Or.inr ⟨rfl, fun h4 =>
  jr_iconst 15 16 (1 : Int32) rfl jc_i_1 rfl
  (jr_ri 16 rfl rfl)⟩)))))))
noncomputable def jM_298 : JMeth := (12, false, 1, jk_298, [(0, 15), (1, 19)], 6)
set_option maxRecDepth 100000 in
theorem jM_298_at : jt_Ms 298 = some jM_298 := rfl
noncomputable def F_Chk_lean (l0 : Nat) (l1 : Int32) (l2 : Int32) (l3 : Int32) (l4 : Nat) (h : LH) : Option (Int32 × LH) :=
 jf_kd h l0 10
 (jf_ct (F_SG_lean l0 l1 l2 l3 h) (fun v1 h2 =>
 jf_ls h2 l4 (0 : Int32) (v1).toInt64 fun h3 =>
 some ((0 : Int32), h3))
 (fun h4 =>
 some ((1 : Int32), h4)) (fun h5 =>
 some ((2 : Int32), h5)))
set_option maxRecDepth 100000 in
theorem F_Chk_lean_ok {d : Nat} (hd : 5 ≤ d) {l0 : Nat} {l1 : Int32} {l2 : Int32} {l3 : Int32} {l4 : Nat} {h : LH} {q : (Int32 × LH)} : F_Chk_lean l0 l1 l2 l3 l4 h = some q → jl_Sem jt_T jt_Ms d 298 [.ref l0, .int l1, .int l2, .int l3, .ref l4] h (jo_i q) := by
 unfold F_Chk_lean
 exact jr_enter (D := 4) hd jM_298_at rfl rfl rfl (fun d hd =>
  jr_aload 0 2 rfl rfl rfl
  (jr_iconst 2 3 (0 : Int32) rfl jc_i_0 rfl
  (jr_aloadn 3 4 rfl rfl rfl
  (jr_iloadn 4 5 rfl rfl rfl
  (jr_iloadn 5 6 rfl rfl rfl
  (jr_iloadn 6 7 rfl rfl rfl
  (jr_cVc 7 10 [.int (0 : Int32), .ref l4] rfl rfl rfl rfl rfl rfl rfl rfl (as := [.int l1, .int l2, .int l3]) (n0 := 17) (l0 := [.ref l0, .int l1, .int l2, .int l3, .ref l4, .retAddr 0]) (n1 := 21) (l1 := [.ref l0, .int l1, .int l2, .int l3, .ref l4, .retAddr 0]) (F_SG_lean_ok (Nat.le_trans (by decide : 4 ≤ 4) hd)) (fun v1 h2 =>
  jr_i2l 10 11 rfl rfl
  (jr_ls 11 12 rfl rfl (fun h3 =>
  jr_goto 12 23 rfl rfl
  (jr_iconst 23 24 (0 : Int32) rfl jc_i_0 rfl
  (jr_ri 24 rfl rfl)))))
  (Or.inr ⟨rfl, fun h4 =>
  jr_iconst 17 18 (1 : Int32) rfl jc_i_1 rfl
  (jr_ri 18 rfl rfl)⟩) (Or.inr ⟨rfl, fun h5 =>
  jr_iconst 21 22 (2 : Int32) rfl jc_i_2 rfl
  (jr_ri 22 rfl rfl)⟩))))))))
noncomputable def jM_299 : JMeth := (12, false, 1, jk_299, [(0, 12)], 4)
set_option maxRecDepth 100000 in
theorem jM_299_at : jt_Ms 299 = some jM_299 := rfl
noncomputable def F_Chk_burnt (l0 : Nat) (l1 : Int32) (l2 : Nat) (h : LH) : Option (Int32 × LH) :=
 jf_kd h l0 10
 (jf_ct (F_SG_burnt l0 l1 h) (fun v1 h2 =>
 jf_ls h2 l2 (0 : Int32) (v1).toInt64 fun h3 =>
 some ((0 : Int32), h3))
 (fun h4 =>
 some ((1 : Int32), h4)) (fun _ => none))
set_option maxRecDepth 100000 in
theorem F_Chk_burnt_ok {d : Nat} (hd : 6 ≤ d) {l0 : Nat} {l1 : Int32} {l2 : Nat} {h : LH} {q : (Int32 × LH)} : F_Chk_burnt l0 l1 l2 h = some q → jl_Sem jt_T jt_Ms d 299 [.ref l0, .int l1, .ref l2] h (jo_i q) := by
 unfold F_Chk_burnt
 exact jr_enter (D := 5) hd jM_299_at rfl rfl rfl (fun d hd =>
  jr_aloadn 0 1 rfl rfl rfl
  (jr_iconst 1 2 (0 : Int32) rfl jc_i_0 rfl
  (jr_aloadn 2 3 rfl rfl rfl
  (jr_iloadn 3 4 rfl rfl rfl
  (jr_cVc 4 7 [.int (0 : Int32), .ref l2] rfl rfl rfl rfl rfl rfl rfl rfl (as := [.int l1]) (n0 := 13) (l0 := [.ref l0, .int l1, .ref l2, .retAddr 0]) (n1 := 0) (l1 := []) (F_SG_burnt_ok (Nat.le_trans (by decide : 5 ≤ 5) hd)) (fun v1 h2 =>
  jr_i2l 7 8 rfl rfl
  (jr_ls 8 9 rfl rfl (fun h3 =>
  jr_goto 9 15 rfl rfl
  (jr_iconst 15 16 (0 : Int32) rfl jc_i_0 rfl
  (jr_ri 16 rfl rfl)))))
  (Or.inr ⟨rfl, fun h4 =>
  jr_iconst 13 14 (1 : Int32) rfl jc_i_1 rfl
  (jr_ri 14 rfl rfl)⟩) (Or.inl fun _ => rfl))))))
noncomputable def jM_300 : JMeth := (12, false, 1, jk_300, [(1, 12)], 4)
set_option maxRecDepth 100000 in
theorem jM_300_at : jt_Ms 300 = some jM_300 := rfl
noncomputable def F_Chk_fits (l0 : Nat) (l1 : Int32) (l2 : Nat) (h : LH) : Option (Int32 × LH) :=
 jf_kd h l0 10
 (jf_ct (F_SG_fits l0 l1 h) (fun v1 h2 =>
 jf_ls h2 l2 (0 : Int32) (v1).toInt64 fun h3 =>
 some ((0 : Int32), h3))
 (fun _ => none) (fun h4 =>
 some ((1 : Int32), h4)))
set_option maxRecDepth 100000 in
theorem F_Chk_fits_ok {d : Nat} (hd : 6 ≤ d) {l0 : Nat} {l1 : Int32} {l2 : Nat} {h : LH} {q : (Int32 × LH)} : F_Chk_fits l0 l1 l2 h = some q → jl_Sem jt_T jt_Ms d 300 [.ref l0, .int l1, .ref l2] h (jo_i q) := by
 unfold F_Chk_fits
 exact jr_enter (D := 5) hd jM_300_at rfl rfl rfl (fun d hd =>
  jr_aloadn 0 1 rfl rfl rfl
  (jr_iconst 1 2 (0 : Int32) rfl jc_i_0 rfl
  (jr_aloadn 2 3 rfl rfl rfl
  (jr_iloadn 3 4 rfl rfl rfl
  (jr_cVc 4 7 [.int (0 : Int32), .ref l2] rfl rfl rfl rfl rfl rfl rfl rfl (as := [.int l1]) (n0 := 0) (l0 := []) (n1 := 13) (l1 := [.ref l0, .int l1, .ref l2, .retAddr 0]) (F_SG_fits_ok (Nat.le_trans (by decide : 5 ≤ 5) hd)) (fun v1 h2 =>
  jr_i2l 7 8 rfl rfl
  (jr_ls 8 9 rfl rfl (fun h3 =>
  jr_goto 9 15 rfl rfl
  (jr_iconst 15 16 (0 : Int32) rfl jc_i_0 rfl
  (jr_ri 16 rfl rfl)))))
  (Or.inl fun _ => rfl) (Or.inr ⟨rfl, fun h4 =>
  jr_iconst 13 14 (1 : Int32) rfl jc_i_1 rfl
  (jr_ri 14 rfl rfl)⟩))))))
noncomputable def jM_301 : JMeth := (12, false, 1, jk_301, [(1, 12)], 4)
set_option maxRecDepth 100000 in
theorem jM_301_at : jt_Ms 301 = some jM_301 := rfl
noncomputable def F_Chk_nose (l0 : Nat) (l1 : Int32) (l2 : Nat) (h : LH) : Option (Int32 × LH) :=
 jf_kd h l0 10
 (jf_ct (F_SG_nose l0 l1 h) (fun v1 h2 =>
 jf_ls h2 l2 (0 : Int32) (v1).toInt64 fun h3 =>
 some ((0 : Int32), h3))
 (fun _ => none) (fun h4 =>
 some ((1 : Int32), h4)))
set_option maxRecDepth 100000 in
theorem F_Chk_nose_ok {d : Nat} (hd : 6 ≤ d) {l0 : Nat} {l1 : Int32} {l2 : Nat} {h : LH} {q : (Int32 × LH)} : F_Chk_nose l0 l1 l2 h = some q → jl_Sem jt_T jt_Ms d 301 [.ref l0, .int l1, .ref l2] h (jo_i q) := by
 unfold F_Chk_nose
 exact jr_enter (D := 5) hd jM_301_at rfl rfl rfl (fun d hd =>
  jr_aloadn 0 1 rfl rfl rfl
  (jr_iconst 1 2 (0 : Int32) rfl jc_i_0 rfl
  (jr_aloadn 2 3 rfl rfl rfl
  (jr_iloadn 3 4 rfl rfl rfl
  (jr_cVc 4 7 [.int (0 : Int32), .ref l2] rfl rfl rfl rfl rfl rfl rfl rfl (as := [.int l1]) (n0 := 0) (l0 := []) (n1 := 13) (l1 := [.ref l0, .int l1, .ref l2, .retAddr 0]) (F_SG_nose_ok (Nat.le_trans (by decide : 5 ≤ 5) hd)) (fun v1 h2 =>
  jr_i2l 7 8 rfl rfl
  (jr_ls 8 9 rfl rfl (fun h3 =>
  jr_goto 9 15 rfl rfl
  (jr_iconst 15 16 (0 : Int32) rfl jc_i_0 rfl
  (jr_ri 16 rfl rfl)))))
  (Or.inl fun _ => rfl) (Or.inr ⟨rfl, fun h4 =>
  jr_iconst 13 14 (1 : Int32) rfl jc_i_1 rfl
  (jr_ri 14 rfl rfl)⟩))))))
noncomputable def jM_302 : JMeth := (12, false, 1, jk_302, [(1, 13)], 5)
set_option maxRecDepth 100000 in
theorem jM_302_at : jt_Ms 302 = some jM_302 := rfl
noncomputable def F_Chk_siege (l0 : Nat) (l1 : Int32) (l2 : Int32) (l3 : Nat) (h : LH) : Option (Int32 × LH) :=
 jf_kd h l0 10
 (jf_ct (F_SG_siege l0 l1 l2 h) (fun v1 h2 =>
 jf_ls h2 l3 (0 : Int32) (v1).toInt64 fun h3 =>
 some ((0 : Int32), h3))
 (fun _ => none) (fun h4 =>
 some ((1 : Int32), h4)))
set_option maxRecDepth 100000 in
theorem F_Chk_siege_ok {d : Nat} (hd : 4 ≤ d) {l0 : Nat} {l1 : Int32} {l2 : Int32} {l3 : Nat} {h : LH} {q : (Int32 × LH)} : F_Chk_siege l0 l1 l2 l3 h = some q → jl_Sem jt_T jt_Ms d 302 [.ref l0, .int l1, .int l2, .ref l3] h (jo_i q) := by
 unfold F_Chk_siege
 exact jr_enter (D := 3) hd jM_302_at rfl rfl rfl (fun d hd =>
  jr_aloadn 0 1 rfl rfl rfl
  (jr_iconst 1 2 (0 : Int32) rfl jc_i_0 rfl
  (jr_aloadn 2 3 rfl rfl rfl
  (jr_iloadn 3 4 rfl rfl rfl
  (jr_iloadn 4 5 rfl rfl rfl
  (jr_cVc 5 8 [.int (0 : Int32), .ref l3] rfl rfl rfl rfl rfl rfl rfl rfl (as := [.int l1, .int l2]) (n0 := 0) (l0 := []) (n1 := 15) (l1 := [.ref l0, .int l1, .int l2, .ref l3, .retAddr 0]) (F_SG_siege_ok (Nat.le_trans (by decide : 3 ≤ 3) hd)) (fun v1 h2 =>
  jr_i2l 8 9 rfl rfl
  (jr_ls 9 10 rfl rfl (fun h3 =>
  jr_goto 10 17 rfl rfl
  (jr_iconst 17 18 (0 : Int32) rfl jc_i_0 rfl
  (jr_ri 18 rfl rfl)))))
  (Or.inl fun _ => rfl) (Or.inr ⟨rfl, fun h4 =>
  jr_iconst 15 16 (1 : Int32) rfl jc_i_1 rfl
  (jr_ri 16 rfl rfl)⟩)))))))
noncomputable def jM_303 : JMeth := (12, false, 1, jk_303, [(0, 13)], 5)
set_option maxRecDepth 100000 in
theorem jM_303_at : jt_Ms 303 = some jM_303 := rfl
noncomputable def F_Chk_distance (l0 : Nat) (l1 : Int32) (l2 : Int32) (l3 : Nat) (h : LH) : Option (Int32 × LH) :=
 jf_kd h l0 10
 (jf_ct (F_SG_distance l0 l1 l2 h) (fun v1 h2 =>
 jf_ls h2 l3 (0 : Int32) (v1).toInt64 fun h3 =>
 some ((0 : Int32), h3))
 (fun h4 =>
 some ((1 : Int32), h4)) (fun _ => none))
set_option maxRecDepth 100000 in
theorem F_Chk_distance_ok {d : Nat} (hd : 3 ≤ d) {l0 : Nat} {l1 : Int32} {l2 : Int32} {l3 : Nat} {h : LH} {q : (Int32 × LH)} : F_Chk_distance l0 l1 l2 l3 h = some q → jl_Sem jt_T jt_Ms d 303 [.ref l0, .int l1, .int l2, .ref l3] h (jo_i q) := by
 unfold F_Chk_distance
 exact jr_enter (D := 2) hd jM_303_at rfl rfl rfl (fun d hd =>
  jr_aloadn 0 1 rfl rfl rfl
  (jr_iconst 1 2 (0 : Int32) rfl jc_i_0 rfl
  (jr_aloadn 2 3 rfl rfl rfl
  (jr_iloadn 3 4 rfl rfl rfl
  (jr_iloadn 4 5 rfl rfl rfl
  (jr_cVc 5 8 [.int (0 : Int32), .ref l3] rfl rfl rfl rfl rfl rfl rfl rfl (as := [.int l1, .int l2]) (n0 := 15) (l0 := [.ref l0, .int l1, .int l2, .ref l3, .retAddr 0]) (n1 := 0) (l1 := []) (F_SG_distance_ok (Nat.le_trans (by decide : 2 ≤ 2) hd)) (fun v1 h2 =>
  jr_i2l 8 9 rfl rfl
  (jr_ls 9 10 rfl rfl (fun h3 =>
  jr_goto 10 17 rfl rfl
  (jr_iconst 17 18 (0 : Int32) rfl jc_i_0 rfl
  (jr_ri 18 rfl rfl)))))
  (Or.inr ⟨rfl, fun h4 =>
  jr_iconst 15 16 (1 : Int32) rfl jc_i_1 rfl
  (jr_ri 16 rfl rfl)⟩) (Or.inl fun _ => rfl)))))))
noncomputable def jM_304 : JMeth := (12, false, 1, jk_304, [(1, 12)], 4)
set_option maxRecDepth 100000 in
theorem jM_304_at : jt_Ms 304 = some jM_304 := rfl
noncomputable def F_Chk_read (l0 : Nat) (l1 : Int32) (l2 : Nat) (h : LH) : Option (Int32 × LH) :=
 jf_kd h l0 10
 (jf_ct (F_SG_read l0 l1 h) (fun v1 h2 =>
 jf_ls h2 l2 (0 : Int32) (v1).toInt64 fun h3 =>
 some ((0 : Int32), h3))
 (fun _ => none) (fun h4 =>
 some ((1 : Int32), h4)))
set_option maxRecDepth 100000 in
theorem F_Chk_read_ok {d : Nat} (hd : 4 ≤ d) {l0 : Nat} {l1 : Int32} {l2 : Nat} {h : LH} {q : (Int32 × LH)} : F_Chk_read l0 l1 l2 h = some q → jl_Sem jt_T jt_Ms d 304 [.ref l0, .int l1, .ref l2] h (jo_i q) := by
 unfold F_Chk_read
 exact jr_enter (D := 3) hd jM_304_at rfl rfl rfl (fun d hd =>
  jr_aloadn 0 1 rfl rfl rfl
  (jr_iconst 1 2 (0 : Int32) rfl jc_i_0 rfl
  (jr_aloadn 2 3 rfl rfl rfl
  (jr_iloadn 3 4 rfl rfl rfl
  (jr_cVc 4 7 [.int (0 : Int32), .ref l2] rfl rfl rfl rfl rfl rfl rfl rfl (as := [.int l1]) (n0 := 0) (l0 := []) (n1 := 13) (l1 := [.ref l0, .int l1, .ref l2, .retAddr 0]) (F_SG_read_ok (Nat.le_trans (by decide : 3 ≤ 3) hd)) (fun v1 h2 =>
  jr_i2l 7 8 rfl rfl
  (jr_ls 8 9 rfl rfl (fun h3 =>
  jr_goto 9 15 rfl rfl
  (jr_iconst 15 16 (0 : Int32) rfl jc_i_0 rfl
  (jr_ri 16 rfl rfl)))))
  (Or.inl fun _ => rfl) (Or.inr ⟨rfl, fun h4 =>
  jr_iconst 13 14 (1 : Int32) rfl jc_i_1 rfl
  (jr_ri 14 rfl rfl)⟩))))))
noncomputable def jM_305 : JMeth := (12, false, 1, jk_305, [(0, 15), (1, 19)], 6)
set_option maxRecDepth 100000 in
theorem jM_305_at : jt_Ms 305 = some jM_305 := rfl
noncomputable def F_Chk_share (l0 : Nat) (l1 : Int32) (l2 : Int32) (l3 : Int32) (l4 : Nat) (h : LH) : Option (Int32 × LH) :=
 jf_kd h l0 10
 (jf_ct (F_SG_share l0 l1 l2 l3 h) (fun v1 h2 =>
 jf_ls h2 l4 (0 : Int32) (v1).toInt64 fun h3 =>
 some ((0 : Int32), h3))
 (fun h4 =>
 some ((1 : Int32), h4)) (fun h5 =>
 some ((2 : Int32), h5)))
set_option maxRecDepth 100000 in
theorem F_Chk_share_ok {d : Nat} (hd : 4 ≤ d) {l0 : Nat} {l1 : Int32} {l2 : Int32} {l3 : Int32} {l4 : Nat} {h : LH} {q : (Int32 × LH)} : F_Chk_share l0 l1 l2 l3 l4 h = some q → jl_Sem jt_T jt_Ms d 305 [.ref l0, .int l1, .int l2, .int l3, .ref l4] h (jo_i q) := by
 unfold F_Chk_share
 exact jr_enter (D := 3) hd jM_305_at rfl rfl rfl (fun d hd =>
  jr_aload 0 2 rfl rfl rfl
  (jr_iconst 2 3 (0 : Int32) rfl jc_i_0 rfl
  (jr_aloadn 3 4 rfl rfl rfl
  (jr_iloadn 4 5 rfl rfl rfl
  (jr_iloadn 5 6 rfl rfl rfl
  (jr_iloadn 6 7 rfl rfl rfl
  (jr_cVc 7 10 [.int (0 : Int32), .ref l4] rfl rfl rfl rfl rfl rfl rfl rfl (as := [.int l1, .int l2, .int l3]) (n0 := 17) (l0 := [.ref l0, .int l1, .int l2, .int l3, .ref l4, .retAddr 0]) (n1 := 21) (l1 := [.ref l0, .int l1, .int l2, .int l3, .ref l4, .retAddr 0]) (F_SG_share_ok (Nat.le_trans (by decide : 3 ≤ 3) hd)) (fun v1 h2 =>
  jr_i2l 10 11 rfl rfl
  (jr_ls 11 12 rfl rfl (fun h3 =>
  jr_goto 12 23 rfl rfl
  (jr_iconst 23 24 (0 : Int32) rfl jc_i_0 rfl
  (jr_ri 24 rfl rfl)))))
  (Or.inr ⟨rfl, fun h4 =>
  jr_iconst 17 18 (1 : Int32) rfl jc_i_1 rfl
  (jr_ri 18 rfl rfl)⟩) (Or.inr ⟨rfl, fun h5 =>
  jr_iconst 21 22 (2 : Int32) rfl jc_i_2 rfl
  (jr_ri 22 rfl rfl)⟩))))))))
noncomputable def jM_306 : JMeth := (12, false, 1, jk_306, [(1, 12)], 4)
set_option maxRecDepth 100000 in
theorem jM_306_at : jt_Ms 306 = some jM_306 := rfl
noncomputable def F_Chk_crowd (l0 : Nat) (l1 : Int32) (l2 : Nat) (h : LH) : Option (Int32 × LH) :=
 jf_kd h l0 10
 (jf_ct (F_SG_crowd l0 l1 h) (fun v1 h2 =>
 jf_ls h2 l2 (0 : Int32) (v1).toInt64 fun h3 =>
 some ((0 : Int32), h3))
 (fun _ => none) (fun h4 =>
 some ((1 : Int32), h4)))
set_option maxRecDepth 100000 in
theorem F_Chk_crowd_ok {d : Nat} (hd : 6 ≤ d) {l0 : Nat} {l1 : Int32} {l2 : Nat} {h : LH} {q : (Int32 × LH)} : F_Chk_crowd l0 l1 l2 h = some q → jl_Sem jt_T jt_Ms d 306 [.ref l0, .int l1, .ref l2] h (jo_i q) := by
 unfold F_Chk_crowd
 exact jr_enter (D := 5) hd jM_306_at rfl rfl rfl (fun d hd =>
  jr_aloadn 0 1 rfl rfl rfl
  (jr_iconst 1 2 (0 : Int32) rfl jc_i_0 rfl
  (jr_aloadn 2 3 rfl rfl rfl
  (jr_iloadn 3 4 rfl rfl rfl
  (jr_cVc 4 7 [.int (0 : Int32), .ref l2] rfl rfl rfl rfl rfl rfl rfl rfl (as := [.int l1]) (n0 := 0) (l0 := []) (n1 := 13) (l1 := [.ref l0, .int l1, .ref l2, .retAddr 0]) (F_SG_crowd_ok (Nat.le_trans (by decide : 5 ≤ 5) hd)) (fun v1 h2 =>
  jr_i2l 7 8 rfl rfl
  (jr_ls 8 9 rfl rfl (fun h3 =>
  jr_goto 9 15 rfl rfl
  (jr_iconst 15 16 (0 : Int32) rfl jc_i_0 rfl
  (jr_ri 16 rfl rfl)))))
  (Or.inl fun _ => rfl) (Or.inr ⟨rfl, fun h4 =>
  jr_iconst 13 14 (1 : Int32) rfl jc_i_1 rfl
  (jr_ri 14 rfl rfl)⟩))))))
noncomputable def jM_307 : JMeth := (12, false, 1, jk_307, [(1, 12)], 4)
set_option maxRecDepth 100000 in
theorem jM_307_at : jt_Ms 307 = some jM_307 := rfl
noncomputable def F_Chk_turned (l0 : Nat) (l1 : Int32) (l2 : Nat) (h : LH) : Option (Int32 × LH) :=
 jf_kd h l0 10
 (jf_ct (F_SG_turned l0 l1 h) (fun v1 h2 =>
 jf_ls h2 l2 (0 : Int32) (v1).toInt64 fun h3 =>
 some ((0 : Int32), h3))
 (fun _ => none) (fun h4 =>
 some ((1 : Int32), h4)))
set_option maxRecDepth 100000 in
theorem F_Chk_turned_ok {d : Nat} (hd : 7 ≤ d) {l0 : Nat} {l1 : Int32} {l2 : Nat} {h : LH} {q : (Int32 × LH)} : F_Chk_turned l0 l1 l2 h = some q → jl_Sem jt_T jt_Ms d 307 [.ref l0, .int l1, .ref l2] h (jo_i q) := by
 unfold F_Chk_turned
 exact jr_enter (D := 6) hd jM_307_at rfl rfl rfl (fun d hd =>
  jr_aloadn 0 1 rfl rfl rfl
  (jr_iconst 1 2 (0 : Int32) rfl jc_i_0 rfl
  (jr_aloadn 2 3 rfl rfl rfl
  (jr_iloadn 3 4 rfl rfl rfl
  (jr_cVc 4 7 [.int (0 : Int32), .ref l2] rfl rfl rfl rfl rfl rfl rfl rfl (as := [.int l1]) (n0 := 0) (l0 := []) (n1 := 13) (l1 := [.ref l0, .int l1, .ref l2, .retAddr 0]) (F_SG_turned_ok (Nat.le_trans (by decide : 6 ≤ 6) hd)) (fun v1 h2 =>
  jr_i2l 7 8 rfl rfl
  (jr_ls 8 9 rfl rfl (fun h3 =>
  jr_goto 9 15 rfl rfl
  (jr_iconst 15 16 (0 : Int32) rfl jc_i_0 rfl
  (jr_ri 16 rfl rfl)))))
  (Or.inl fun _ => rfl) (Or.inr ⟨rfl, fun h4 =>
  jr_iconst 13 14 (1 : Int32) rfl jc_i_1 rfl
  (jr_ri 14 rfl rfl)⟩))))))
noncomputable def jM_308 : JMeth := (12, false, 1, jk_308, [(1, 12)], 4)
set_option maxRecDepth 100000 in
theorem jM_308_at : jt_Ms 308 = some jM_308 := rfl
noncomputable def F_Chk_thickest (l0 : Nat) (l1 : Int32) (l2 : Nat) (h : LH) : Option (Int32 × LH) :=
 jf_kd h l0 10
 (jf_ct (F_SG_thickest l0 l1 h) (fun v1 h2 =>
 jf_ls h2 l2 (0 : Int32) (v1).toInt64 fun h3 =>
 some ((0 : Int32), h3))
 (fun _ => none) (fun h4 =>
 some ((1 : Int32), h4)))
set_option maxRecDepth 100000 in
theorem F_Chk_thickest_ok {d : Nat} (hd : 6 ≤ d) {l0 : Nat} {l1 : Int32} {l2 : Nat} {h : LH} {q : (Int32 × LH)} : F_Chk_thickest l0 l1 l2 h = some q → jl_Sem jt_T jt_Ms d 308 [.ref l0, .int l1, .ref l2] h (jo_i q) := by
 unfold F_Chk_thickest
 exact jr_enter (D := 5) hd jM_308_at rfl rfl rfl (fun d hd =>
  jr_aloadn 0 1 rfl rfl rfl
  (jr_iconst 1 2 (0 : Int32) rfl jc_i_0 rfl
  (jr_aloadn 2 3 rfl rfl rfl
  (jr_iloadn 3 4 rfl rfl rfl
  (jr_cVc 4 7 [.int (0 : Int32), .ref l2] rfl rfl rfl rfl rfl rfl rfl rfl (as := [.int l1]) (n0 := 0) (l0 := []) (n1 := 13) (l1 := [.ref l0, .int l1, .ref l2, .retAddr 0]) (F_SG_thickest_ok (Nat.le_trans (by decide : 5 ≤ 5) hd)) (fun v1 h2 =>
  jr_i2l 7 8 rfl rfl
  (jr_ls 8 9 rfl rfl (fun h3 =>
  jr_goto 9 15 rfl rfl
  (jr_iconst 15 16 (0 : Int32) rfl jc_i_0 rfl
  (jr_ri 16 rfl rfl)))))
  (Or.inl fun _ => rfl) (Or.inr ⟨rfl, fun h4 =>
  jr_iconst 13 14 (1 : Int32) rfl jc_i_1 rfl
  (jr_ri 14 rfl rfl)⟩))))))
noncomputable def jM_309 : JMeth := (12, false, 1, jk_309, [(1, 13)], 5)
set_option maxRecDepth 100000 in
theorem jM_309_at : jt_Ms 309 = some jM_309 := rfl
noncomputable def F_Chk_ahead (l0 : Nat) (l1 : Int32) (l2 : Int32) (l3 : Nat) (h : LH) : Option (Int32 × LH) :=
 jf_kd h l0 10
 (jf_ct (F_SG_ahead l0 l1 l2 h) (fun v1 h2 =>
 jf_ls h2 l3 (0 : Int32) (v1).toInt64 fun h3 =>
 some ((0 : Int32), h3))
 (fun _ => none) (fun h4 =>
 some ((1 : Int32), h4)))
set_option maxRecDepth 100000 in
theorem F_Chk_ahead_ok {d : Nat} (hd : 7 ≤ d) {l0 : Nat} {l1 : Int32} {l2 : Int32} {l3 : Nat} {h : LH} {q : (Int32 × LH)} : F_Chk_ahead l0 l1 l2 l3 h = some q → jl_Sem jt_T jt_Ms d 309 [.ref l0, .int l1, .int l2, .ref l3] h (jo_i q) := by
 unfold F_Chk_ahead
 exact jr_enter (D := 6) hd jM_309_at rfl rfl rfl (fun d hd =>
  jr_aloadn 0 1 rfl rfl rfl
  (jr_iconst 1 2 (0 : Int32) rfl jc_i_0 rfl
  (jr_aloadn 2 3 rfl rfl rfl
  (jr_iloadn 3 4 rfl rfl rfl
  (jr_iloadn 4 5 rfl rfl rfl
  (jr_cVc 5 8 [.int (0 : Int32), .ref l3] rfl rfl rfl rfl rfl rfl rfl rfl (as := [.int l1, .int l2]) (n0 := 0) (l0 := []) (n1 := 15) (l1 := [.ref l0, .int l1, .int l2, .ref l3, .retAddr 0]) (F_SG_ahead_ok (Nat.le_trans (by decide : 6 ≤ 6) hd)) (fun v1 h2 =>
  jr_i2l 8 9 rfl rfl
  (jr_ls 9 10 rfl rfl (fun h3 =>
  jr_goto 10 17 rfl rfl
  (jr_iconst 17 18 (0 : Int32) rfl jc_i_0 rfl
  (jr_ri 18 rfl rfl)))))
  (Or.inl fun _ => rfl) (Or.inr ⟨rfl, fun h4 =>
  jr_iconst 15 16 (1 : Int32) rfl jc_i_1 rfl
  (jr_ri 16 rfl rfl)⟩)))))))
noncomputable def jM_310 : JMeth := (12, false, 1, jk_310, [(1, 17)], 7)
set_option maxRecDepth 100000 in
theorem jM_310_at : jt_Ms 310 = some jM_310 := rfl
noncomputable def F_Chk_days (l0 : Nat) (l1 : Int32) (l2 : Int32) (l3 : Int32) (l4 : Int32) (l5 : Nat) (h : LH) : Option (Int32 × LH) :=
 jf_kd h l0 10
 (jf_ct (F_SG_days l0 l1 l2 l3 l4 h) (fun v1 h2 =>
 jf_ls h2 l5 (0 : Int32) (v1).toInt64 fun h3 =>
 some ((0 : Int32), h3))
 (fun _ => none) (fun h4 =>
 some ((1 : Int32), h4)))
set_option maxRecDepth 100000 in
theorem F_Chk_days_ok {d : Nat} (hd : 7 ≤ d) {l0 : Nat} {l1 : Int32} {l2 : Int32} {l3 : Int32} {l4 : Int32} {l5 : Nat} {h : LH} {q : (Int32 × LH)} : F_Chk_days l0 l1 l2 l3 l4 l5 h = some q → jl_Sem jt_T jt_Ms d 310 [.ref l0, .int l1, .int l2, .int l3, .int l4, .ref l5] h (jo_i q) := by
 unfold F_Chk_days
 exact jr_enter (D := 6) hd jM_310_at rfl rfl rfl (fun d hd =>
  jr_aload 0 2 rfl rfl rfl
  (jr_iconst 2 3 (0 : Int32) rfl jc_i_0 rfl
  (jr_aloadn 3 4 rfl rfl rfl
  (jr_iloadn 4 5 rfl rfl rfl
  (jr_iloadn 5 6 rfl rfl rfl
  (jr_iloadn 6 7 rfl rfl rfl
  (jr_iload 7 9 rfl rfl rfl
  (jr_cVc 9 12 [.int (0 : Int32), .ref l5] rfl rfl rfl rfl rfl rfl rfl rfl (as := [.int l1, .int l2, .int l3, .int l4]) (n0 := 0) (l0 := []) (n1 := 19) (l1 := [.ref l0, .int l1, .int l2, .int l3, .int l4, .ref l5, .retAddr 0]) (F_SG_days_ok (Nat.le_trans (by decide : 6 ≤ 6) hd)) (fun v1 h2 =>
  jr_i2l 12 13 rfl rfl
  (jr_ls 13 14 rfl rfl (fun h3 =>
  jr_goto 14 21 rfl rfl
  (jr_iconst 21 22 (0 : Int32) rfl jc_i_0 rfl
  (jr_ri 22 rfl rfl)))))
  (Or.inl fun _ => rfl) (Or.inr ⟨rfl, fun h4 =>
  jr_iconst 19 20 (1 : Int32) rfl jc_i_1 rfl
  (jr_ri 20 rfl rfl)⟩)))))))))
noncomputable def jM_311 : JMeth := (12, false, 1, jk_311, [(1, 19)], 8)
set_option maxRecDepth 100000 in
theorem jM_311_at : jt_Ms 311 = some jM_311 := rfl
noncomputable def F_Chk_span (l0 : Nat) (l1 : Int32) (l2 : Int32) (l3 : Int32) (l4 : Int32) (l5 : Int32) (l6 : Nat) (h : LH) : Option (Int32 × LH) :=
 jf_kd h l0 10
 (jf_ct (F_SG_span l0 l1 l2 l3 l4 l5 h) (fun v1 h2 =>
 jf_ls h2 l6 (0 : Int32) (v1).toInt64 fun h3 =>
 some ((0 : Int32), h3))
 (fun _ => none) (fun h4 =>
 some ((1 : Int32), h4)))
set_option maxRecDepth 100000 in
theorem F_Chk_span_ok {d : Nat} (hd : 7 ≤ d) {l0 : Nat} {l1 : Int32} {l2 : Int32} {l3 : Int32} {l4 : Int32} {l5 : Int32} {l6 : Nat} {h : LH} {q : (Int32 × LH)} : F_Chk_span l0 l1 l2 l3 l4 l5 l6 h = some q → jl_Sem jt_T jt_Ms d 311 [.ref l0, .int l1, .int l2, .int l3, .int l4, .int l5, .ref l6] h (jo_i q) := by
 unfold F_Chk_span
 exact jr_enter (D := 6) hd jM_311_at rfl rfl rfl (fun d hd =>
  jr_aload 0 2 rfl rfl rfl
  (jr_iconst 2 3 (0 : Int32) rfl jc_i_0 rfl
  (jr_aloadn 3 4 rfl rfl rfl
  (jr_iloadn 4 5 rfl rfl rfl
  (jr_iloadn 5 6 rfl rfl rfl
  (jr_iloadn 6 7 rfl rfl rfl
  (jr_iload 7 9 rfl rfl rfl
  (jr_iload 9 11 rfl rfl rfl
  (jr_cVc 11 14 [.int (0 : Int32), .ref l6] rfl rfl rfl rfl rfl rfl rfl rfl (as := [.int l1, .int l2, .int l3, .int l4, .int l5]) (n0 := 0) (l0 := []) (n1 := 21) (l1 := [.ref l0, .int l1, .int l2, .int l3, .int l4, .int l5, .ref l6, .retAddr 0]) (F_SG_span_ok (Nat.le_trans (by decide : 6 ≤ 6) hd)) (fun v1 h2 =>
  jr_i2l 14 15 rfl rfl
  (jr_ls 15 16 rfl rfl (fun h3 =>
  jr_goto 16 23 rfl rfl
  (jr_iconst 23 24 (0 : Int32) rfl jc_i_0 rfl
  (jr_ri 24 rfl rfl)))))
  (Or.inl fun _ => rfl) (Or.inr ⟨rfl, fun h4 =>
  jr_iconst 21 22 (1 : Int32) rfl jc_i_1 rfl
  (jr_ri 22 rfl rfl)⟩))))))))))

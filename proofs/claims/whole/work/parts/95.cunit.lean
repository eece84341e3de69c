/-! PLAIN LEAN, 61: laws; the class reads a unit -/
section
variable {t u l m b c : Nat} {h h' : LH} {I J K : Nat → Nat → Int32} {tp : Nat → Nat} {n o q j k : Nat} {y z : JTs} {x : Int32} {s s2 s4 : JLs} {ω : JLw} {w v : Nat} {lo hi : Nat} {R : Nat → Nat → Int32 → LH → Option LH}
theorem s_isd_ex (hd : s_isd tp n y = true) : ∃ v, s_nc tp n y = some v ∧ 48 ≤ v ∧ v ≤ 57 := by
  unfold s_isd at hd
  cases e : s_nc tp n y with
  | none => rw [e] at hd; cases hd
  | some v => rw [e] at hd; exact ⟨v, rfl, of_decide_eq_true hd⟩
theorem c_unit1 (hL : jLay t u l m b c h) (hl : q = 82 ∨ q = 196) (hG : jLG n (y, ω)) (hJ : jLC h J q tp n (y, ω)) (hd : s_isd tp n y = true) : ∃ K, F_Law_readUnit R q 65 (nI o) (jz_I h J) = some (jz_I h K) ∧ jLC h K q tp n (s_num tp n 0 1000 (s_nx tp n y), s_nt 0 (s_nuv tp n (s_nx tp n y)) ω) ∧ jFC q J K := by
  have hy : jTy n y := hG.1
  have hz := s_nx_y (tp := tp) hy
  have zge := s_nx_ge (tp := tp) hy
  refine jE_n (fun P hP => ?_)
  unfold F_Law_readUnit
  simp (disch := omega) only [↓dR_64_0 hL, ↓dK_65 hL, ↓dG_65 hL, ↓dP_65 hL, ↓reduceIte, ↓kq_bi, ↓kq_let, ↓kq_rz0, ↓kq_rz1, ↓kq_rzB, ↓Option.bind_some, kq_dvn, kt_lt, kf_lt, kt_eq, kf_eq, decide_true, decide_false, eq_self, Bool.false_eq_true, Bool.true_eq_false, not_true_eq_false, not_false_eq_true, jU_eq, jU_ne, jU_U, jV_eq, jV_ne, jV_V, kn_lit, kn_add, kn_mul, kn_sdm, kn_sub, kn_div, kn_nsdm, kn_lt, kn_eq, kn_pred, kn_m1, kn_m1', kn_a31, kn_shl, kn_shr, kn_bit, nB_0, nB_1, nB_t, nB_f, Nat.zero_add, Nat.add_zero, Nat.reduceAdd, Nat.reduceMul, Nat.reduceSub, Nat.reducePow]
  refine jW_bi (c_isNumberNext hL hJ.2.1) (fun K hK => ?_)
  obtain ⟨k1, -, kM⟩ := hK
  have J1 := jLC_T1 hl hJ k1 kM (fun a => by rw [s_nx_2] at a; exact a)
  rw [hd]
  simp (disch := omega) only [↓dR_64_0 hL, ↓dK_65 hL, ↓dG_65 hL, ↓dP_65 hL, ↓dK_L hL hl, ↓dG_L hL hl, ↓dP_L hL hl, ↓reduceIte, ↓kq_bi, ↓kq_let, ↓kq_rz0, ↓kq_rz1, ↓kq_rzB, ↓Option.bind_some, kq_dvn, kt_lt, kf_lt, kt_eq, kf_eq, decide_true, decide_false, eq_self, Bool.false_eq_true, Bool.true_eq_false, not_true_eq_false, not_false_eq_true, jU_eq, jU_ne, jU_U, jV_eq, jV_ne, jV_V, kn_lit, kn_add, kn_mul, kn_sdm, kn_sub, kn_div, kn_nsdm, kn_lt, kn_eq, kn_pred, kn_m1, kn_m1', kn_a31, kn_shl, kn_shr, kn_bit, nB_0, nB_1, nB_t, nB_f, Nat.zero_add, Nat.add_zero, Nat.reduceAdd, Nat.reduceMul, Nat.reduceSub, Nat.reducePow]
  refine jW_bi (c_number hL k1 (lo := 0) (hi := 1000) (by omega) (hH_lit (a := 999) (by omega))) (fun K2 hK2 => ?_)
  obtain ⟨k2, -, kM2⟩ := hK2
  have J2 := jLC_T1 hl J1 k2 kM2 (fun a => (s_num_ok a).1)
  simp (disch := omega) only [↓dR_64_0 hL, ↓dK_65 hL, ↓dG_65 hL, ↓dP_65 hL, ↓dK_L hL hl, ↓dG_L hL hl, ↓dP_L hL hl, ↓reduceIte, ↓kq_bi, ↓kq_let, ↓kq_rz0, ↓kq_rz1, ↓kq_rzB, ↓Option.bind_some, kq_dvn, kt_lt, kf_lt, kt_eq, kf_eq, decide_true, decide_false, eq_self, Bool.false_eq_true, Bool.true_eq_false, not_true_eq_false, not_false_eq_true, jU_eq, jU_ne, jU_U, jV_eq, jV_ne, jV_V, kn_lit, kn_add, kn_mul, kn_sdm, kn_sub, kn_div, kn_nsdm, kn_lt, kn_eq, kn_pred, kn_m1, kn_m1', kn_a31, kn_shl, kn_shr, kn_bit, nB_0, nB_1, nB_t, nB_f, Nat.zero_add, Nat.add_zero, Nat.reduceAdd, Nat.reduceMul, Nat.reduceSub, Nat.reducePow]
  refine jW_bn (c_putS hL hl J2 (w := 0) (v := s_nuv tp n (s_nx tp n y)) (fun a => ⟨rfl, ?_⟩)) (fun K3 hK3 => ?_)
  · have g1 := s_num_ge hz a
    have g2 := (s_num_y (tp := tp) (lo := 0) (hi := 1000) hz).1
    have g3 := s_num_ok a
    have g4 : y.2.1 = 0 := by rw [s_nx_2] at g3; exact g3.1
    have g5 : ω.1 ≤ y.1 := (hG.2.2 g4).1
    have g6 := hG.2.1
    show ω.1 < 150
    omega
  · simp (disch := omega) only [F_Law_readUnit_b89, ↓reduceIte, ↓kq_bi, ↓kq_let, ↓kq_rz0, ↓kq_rz1, ↓kq_rzB, ↓Option.bind_some, kq_dvn, kt_lt, kf_lt, kt_eq, kf_eq, decide_true, decide_false, eq_self, Bool.false_eq_true, Bool.true_eq_false, not_true_eq_false, not_false_eq_true, jU_eq, jU_ne, jU_U, jV_eq, jV_ne, jV_V, kn_lit, kn_add, kn_mul, kn_sdm, kn_sub, kn_div, kn_nsdm, kn_lt, kn_eq, kn_pred, kn_m1, kn_m1', kn_a31, kn_shl, kn_shr, kn_bit, nB_0, nB_1, nB_t, nB_f, Nat.zero_add, Nat.add_zero, Nat.reduceAdd, Nat.reduceMul, Nat.reduceSub, Nat.reducePow]
    exact jW_s (hP K3 ⟨hK3.1, jFC_trans (jFC_T1 kM) (jFC_trans (jFC_T1 kM2) hK3.2)⟩)
/-- what doesn't begin with a digit -/
theorem c_unitP (hL : jLay t u l m b c h) (hl : q = 82 ∨ q = 196) (hy : jTy n y) (hJ : jLC h J q tp n (y, ω)) (hd : s_isd tp n y = false) {P : LH → Prop}
    (hP : ∀ K, jLC h K q tp n (s_nx tp n y, ω) → jFC q J K → jW (if nO (s_nc tp n y) = nI 40 then (F_Law_readBrackets R q 65 (nI o) (jz_I h K)).bind (fun h13 => F_Law_readUnit_b89 R h13) else (F_Text_word 65 (jz_I h K)).bind fun h5 => jf_kd h5 65 7 (jf_bi (F_Text_isWord 65 7 h5) fun v6 h7 => if v6 = 0 then jf_kd h7 65 7 (jf_bi (F_Text_isWord 65 8 h7) fun v8 h9 => if v8 = 0 then jf_kd h9 q 4 ((F_Law_readSense q 65 h9).bind fun h10 => F_Law_readUnit_b89 R h10) else jf_kd h9 q 4 ((F_Law_readPair R q 65 (nI o) (-16 : Int32) h9).bind fun h11 => F_Law_readUnit_b89 R h11)) else jf_kd h7 q 4 ((F_Law_readPair R q 65 (nI o) (-15 : Int32) h7).bind fun h12 => F_Law_readUnit_b89 R h12))) P) : jW (F_Law_readUnit R q 65 (nI o) (jz_I h J)) P := by
  unfold F_Law_readUnit
  simp (disch := omega) only [↓dR_64_0 hL, ↓dK_65 hL, ↓dG_65 hL, ↓dP_65 hL, ↓reduceIte, ↓kq_bi, ↓kq_let, ↓kq_rz0, ↓kq_rz1, ↓kq_rzB, ↓Option.bind_some, kq_dvn, kt_lt, kf_lt, kt_eq, kf_eq, decide_true, decide_false, eq_self, Bool.false_eq_true, Bool.true_eq_false, not_true_eq_false, not_false_eq_true, jU_eq, jU_ne, jU_U, jV_eq, jV_ne, jV_V, kn_lit, kn_add, kn_mul, kn_sdm, kn_sub, kn_div, kn_nsdm, kn_lt, kn_eq, kn_pred, kn_m1, kn_m1', kn_a31, kn_shl, kn_shr, kn_bit, nB_0, nB_1, nB_t, nB_f, Nat.zero_add, Nat.add_zero, Nat.reduceAdd, Nat.reduceMul, Nat.reduceSub, Nat.reducePow]
  refine jW_bi (c_isNumberNext hL hJ.2.1) (fun K hK => ?_)
  obtain ⟨k1, -, kM⟩ := hK
  have J1 := jLC_T1 hl hJ k1 kM (fun a => by rw [s_nx_2] at a; exact a)
  rw [hd]
  simp (disch := omega) only [↓dR_64_0 hL, ↓dK_65 hL, ↓dG_65 hL, ↓dP_65 hL, ↓dK_L hL hl, ↓dG_L hL hl, ↓dP_L hL hl, ↓reduceIte, ↓kq_bi, ↓kq_let, ↓kq_rz0, ↓kq_rz1, ↓kq_rzB, ↓Option.bind_some, kq_dvn, kt_lt, kf_lt, kt_eq, kf_eq, decide_true, decide_false, eq_self, Bool.false_eq_true, Bool.true_eq_false, not_true_eq_false, not_false_eq_true, jU_eq, jU_ne, jU_U, jV_eq, jV_ne, jV_V, kn_lit, kn_add, kn_mul, kn_sdm, kn_sub, kn_div, kn_nsdm, kn_lt, kn_eq, kn_pred, kn_m1, kn_m1', kn_a31, kn_shl, kn_shr, kn_bit, nB_0, nB_1, nB_t, nB_f, Nat.zero_add, Nat.add_zero, Nat.reduceAdd, Nat.reduceMul, Nat.reduceSub, Nat.reducePow]
  refine jW_bi (c_next hL k1) (fun K2 hK2 => ?_)
  obtain ⟨k2, -, kM2⟩ := hK2
  rw [s_nx_id hy] at k2
  have J2 := jLC_T1 hl J1 k2 kM2 (fun a => a)
  rw [s_nc_nx hy]
  simp (disch := omega) only [↓dR_64_0 hL, ↓dK_65 hL, ↓dG_65 hL, ↓dP_65 hL, ↓dK_L hL hl, ↓dG_L hL hl, ↓dP_L hL hl, ↓reduceIte, ↓kq_bi, ↓kq_let, ↓kq_rz0, ↓kq_rz1, ↓kq_rzB, ↓Option.bind_some, kq_dvn, kt_lt, kf_lt, kt_eq, kf_eq, decide_true, decide_false, eq_self, Bool.false_eq_true, Bool.true_eq_false, not_true_eq_false, not_false_eq_true, jU_eq, jU_ne, jU_U, jV_eq, jV_ne, jV_V, kn_lit, kn_add, kn_mul, kn_sdm, kn_sub, kn_div, kn_nsdm, kn_lt, kn_eq, kn_pred, kn_m1, kn_m1', kn_a31, kn_shl, kn_shr, kn_bit, nB_0, nB_1, nB_t, nB_f, Nat.zero_add, Nat.add_zero, Nat.reduceAdd, Nat.reduceMul, Nat.reduceSub, Nat.reducePow]
  exact hP K2 J2 (jFC_trans (jFC_T1 kM) (jFC_T1 kM2))
theorem c_unit2 (hL : jLay t u l m b c h) (hl : q = 82 ∨ q = 196) (hy : jTy n y) (hJ : jLC h J q tp n (y, ω)) (hd : s_isd tp n y = false) (hc : s_nc tp n y = some 40) (ho : o < 6) (hR : ∀ J, jLC h J q tp n (s_nd tp n 40 (s_nx tp n y), ω) → ∃ K, R q 65 (nI (o + 1)) (jz_I h J) = some (jz_I h K) ∧ jLC h K q tp n s2 ∧ jFC q J K) : ∃ K, F_Law_readUnit R q 65 (nI o) (jz_I h J) = some (jz_I h K) ∧ jLC h K q tp n (s_nd tp n 41 s2.1, s2.2) ∧ jFC q J K := by
  refine jE_n (fun P hP => ?_)
  refine c_unitP hL hl hy hJ hd (fun K k1 kF => ?_)
  rw [hc, nO_some, if_pos rfl]
  unfold F_Law_readBrackets
  simp (disch := omega) only [Option.bind_assoc, ↓dR_64_0 hL, ↓dK_65 hL, ↓dG_65 hL, ↓dP_65 hL, ↓dK_L hL hl, ↓dG_L hL hl, ↓dP_L hL hl, ↓reduceIte, ↓kq_bi, ↓kq_let, ↓kq_rz0, ↓kq_rz1, ↓kq_rzB, ↓Option.bind_some, kq_dvn, kt_lt, kf_lt, kt_eq, kf_eq, decide_true, decide_false, eq_self, Bool.false_eq_true, Bool.true_eq_false, not_true_eq_false, not_false_eq_true, jU_eq, jU_ne, jU_U, jV_eq, jV_ne, jV_V, kn_lit, kn_add, kn_mul, kn_sdm, kn_sub, kn_div, kn_nsdm, kn_lt, kn_eq, kn_pred, kn_m1, kn_m1', kn_a31, kn_shl, kn_shr, kn_bit, nB_0, nB_1, nB_t, nB_f, Nat.zero_add, Nat.add_zero, Nat.reduceAdd, Nat.reduceMul, Nat.reduceSub, Nat.reducePow]
  refine jW_bn (c_need hL k1.2.1 (ch := 40) (by omega)) (fun K2 hK2 => ?_)
  have J2 := jLC_T1 hl k1 hK2.1 hK2.2 (fun a => s_nd_0 a)
  simp (disch := omega) only [Option.bind_assoc, ↓dR_64_0 hL, ↓dK_65 hL, ↓dG_65 hL, ↓dP_65 hL, ↓dK_L hL hl, ↓dG_L hL hl, ↓dP_L hL hl, ↓reduceIte, ↓kq_bi, ↓kq_let, ↓kq_rz0, ↓kq_rz1, ↓kq_rzB, ↓Option.bind_some, kq_dvn, kt_lt, kf_lt, kt_eq, kf_eq, decide_true, decide_false, eq_self, Bool.false_eq_true, Bool.true_eq_false, not_true_eq_false, not_false_eq_true, jU_eq, jU_ne, jU_U, jV_eq, jV_ne, jV_V, kn_lit, kn_add, kn_mul, kn_sdm, kn_sub, kn_div, kn_nsdm, kn_lt, kn_eq, kn_pred, kn_m1, kn_m1', kn_a31, kn_shl, kn_shr, kn_bit, nB_0, nB_1, nB_t, nB_f, Nat.zero_add, Nat.add_zero, Nat.reduceAdd, Nat.reduceMul, Nat.reduceSub, Nat.reducePow]
  refine jW_bn (hR K2 J2) (fun K3 hK3 => ?_)
  simp (disch := omega) only [Option.bind_assoc, ↓dR_64_0 hL, ↓dK_65 hL, ↓dG_65 hL, ↓dP_65 hL, ↓dK_L hL hl, ↓dG_L hL hl, ↓dP_L hL hl, ↓reduceIte, ↓kq_bi, ↓kq_let, ↓kq_rz0, ↓kq_rz1, ↓kq_rzB, ↓Option.bind_some, kq_dvn, kt_lt, kf_lt, kt_eq, kf_eq, decide_true, decide_false, eq_self, Bool.false_eq_true, Bool.true_eq_false, not_true_eq_false, not_false_eq_true, jU_eq, jU_ne, jU_U, jV_eq, jV_ne, jV_V, kn_lit, kn_add, kn_mul, kn_sdm, kn_sub, kn_div, kn_nsdm, kn_lt, kn_eq, kn_pred, kn_m1, kn_m1', kn_a31, kn_shl, kn_shr, kn_bit, nB_0, nB_1, nB_t, nB_f, Nat.zero_add, Nat.add_zero, Nat.reduceAdd, Nat.reduceMul, Nat.reduceSub, Nat.reducePow]
  refine jW_bn (c_need hL hK3.1.2.1 (ch := 41) (by omega)) (fun K4 hK4 => ?_)
  simp (disch := omega) only [F_Law_readUnit_b89, ↓reduceIte, ↓kq_bi, ↓kq_let, ↓kq_rz0, ↓kq_rz1, ↓kq_rzB, ↓Option.bind_some, kq_dvn, kt_lt, kf_lt, kt_eq, kf_eq, decide_true, decide_false, eq_self, Bool.false_eq_true, Bool.true_eq_false, not_true_eq_false, not_false_eq_true, jU_eq, jU_ne, jU_U, jV_eq, jV_ne, jV_V, kn_lit, kn_add, kn_mul, kn_sdm, kn_sub, kn_div, kn_nsdm, kn_lt, kn_eq, kn_pred, kn_m1, kn_m1', kn_a31, kn_shl, kn_shr, kn_bit, nB_0, nB_1, nB_t, nB_f, Nat.zero_add, Nat.add_zero, Nat.reduceAdd, Nat.reduceMul, Nat.reduceSub, Nat.reducePow]
  exact jW_s (hP K4 ⟨jLC_T1 hl hK3.1 hK4.1 hK4.2 (fun a => s_nd_0 a), jFC_trans kF (jFC_trans (jFC_T1 hK2.2) (jFC_trans hK3.2 (jFC_T1 hK4.2)))⟩)
theorem c_unit3 (hL : jLay t u l m b c h) (hl : q = 82 ∨ q = 196) (hy : jTy n y) (hJ : jLC h J q tp n (y, ω)) (hd : s_isd tp n y = false) (hc : s_nc tp n y = some 40) : ∃ K, F_Law_readUnit R q 65 (nI 6) (jz_I h J) = some (jz_I h K) ∧ jLC h K q tp n (s_fa 3 (s_nx tp n y).1 (s_nx tp n y), ω) ∧ jFC q J K := by
  refine jE_n (fun P hP => ?_)
  refine c_unitP hL hl hy hJ hd (fun K k1 kF => ?_)
  rw [hc, nO_some, if_pos rfl]
  unfold F_Law_readBrackets
  simp (disch := omega) only [Option.bind_assoc, ↓dR_64_0 hL, ↓dK_65 hL, ↓dG_65 hL, ↓dP_65 hL, ↓dK_L hL hl, ↓dG_L hL hl, ↓dP_L hL hl, ↓reduceIte, ↓kq_bi, ↓kq_let, ↓kq_rz0, ↓kq_rz1, ↓kq_rzB, ↓Option.bind_some, kq_dvn, kt_lt, kf_lt, kt_eq, kf_eq, decide_true, decide_false, eq_self, Bool.false_eq_true, Bool.true_eq_false, not_true_eq_false, not_false_eq_true, jU_eq, jU_ne, jU_U, jV_eq, jV_ne, jV_V, kn_lit, kn_add, kn_mul, kn_sdm, kn_sub, kn_div, kn_nsdm, kn_lt, kn_eq, kn_pred, kn_m1, kn_m1', kn_a31, kn_shl, kn_shr, kn_bit, nB_0, nB_1, nB_t, nB_f, Nat.zero_add, Nat.add_zero, Nat.reduceAdd, Nat.reduceMul, Nat.reduceSub, Nat.reducePow]
  refine jW_bn (c_failNext hL k1.2.1 (show 1 ≤ 3 by omega) (by omega)) (fun K2 hK2 => ?_)
  obtain ⟨k2, -, kM2⟩ := hK2
  rw [s_nx_id hy] at k2
  simp (disch := omega) only [F_Law_readUnit_b89, ↓reduceIte, ↓kq_bi, ↓kq_let, ↓kq_rz0, ↓kq_rz1, ↓kq_rzB, ↓Option.bind_some, kq_dvn, kt_lt, kf_lt, kt_eq, kf_eq, decide_true, decide_false, eq_self, Bool.false_eq_true, Bool.true_eq_false, not_true_eq_false, not_false_eq_true, jU_eq, jU_ne, jU_U, jV_eq, jV_ne, jV_V, kn_lit, kn_add, kn_mul, kn_sdm, kn_sub, kn_div, kn_nsdm, kn_lt, kn_eq, kn_pred, kn_m1, kn_m1', kn_a31, kn_shl, kn_shr, kn_bit, nB_0, nB_1, nB_t, nB_f, Nat.zero_add, Nat.add_zero, Nat.reduceAdd, Nat.reduceMul, Nat.reduceSub, Nat.reducePow]
  exact jW_s (hP K2 ⟨jLC_T1 hl k1 k2 kM2 (fun a => absurd a (s_fa_0 (by omega))), jFC_trans kF (jFC_T1 kM2)⟩)
/-- a pair: least or most -/
theorem c_pair (hL : jLay t u l m b c h) (hl : q = 82 ∨ q = 196) (hJ : jLC h J q tp n (z, ω)) (ho : o < 6) (hx : x = s_code w 0) (h9 : (s_nd tp n 93 s4.1).2.1 = 0 → s4.2.1 < 150) (hR : ∀ J, jLC h J q tp n (s_nd tp n 91 z, ω) → ∃ K, R q 65 (nI (o + 1)) (jz_I h J) = some (jz_I h K) ∧ jLC h K q tp n s2 ∧ jFC q J K) (hR2 : ∀ J, jLC h J q tp n (s_nd tp n 44 s2.1, s2.2) → ∃ K, R q 65 (nI (o + 1)) (jz_I h J) = some (jz_I h K) ∧ jLC h K q tp n s4 ∧ jFC q J K) : ∃ K, F_Law_readPair R q 65 (nI o) x (jz_I h J) = some (jz_I h K) ∧ jLC h K q tp n (s_nd tp n 93 s4.1, s_nt w 0 s4.2) ∧ jFC q J K := by
  refine jE_n (fun P hP => ?_)
  unfold F_Law_readPair
  simp (disch := omega) only [↓dR_64_0 hL, ↓dK_65 hL, ↓dG_65 hL, ↓dP_65 hL, ↓dK_L hL hl, ↓dG_L hL hl, ↓dP_L hL hl, ↓reduceIte, ↓kq_bi, ↓kq_let, ↓kq_rz0, ↓kq_rz1, ↓kq_rzB, ↓Option.bind_some, kq_dvn, kt_lt, kf_lt, kt_eq, kf_eq, decide_true, decide_false, eq_self, Bool.false_eq_true, Bool.true_eq_false, not_true_eq_false, not_false_eq_true, jU_eq, jU_ne, jU_U, jV_eq, jV_ne, jV_V, kn_lit, kn_add, kn_mul, kn_sdm, kn_sub, kn_div, kn_nsdm, kn_lt, kn_eq, kn_pred, kn_m1, kn_m1', kn_a31, kn_shl, kn_shr, kn_bit, nB_0, nB_1, nB_t, nB_f, Nat.zero_add, Nat.add_zero, Nat.reduceAdd, Nat.reduceMul, Nat.reduceSub, Nat.reducePow]
  refine jW_bn (c_need hL hJ.2.1 (ch := 91) (by omega)) (fun K2 hK2 => ?_)
  have J2 := jLC_T1 hl hJ hK2.1 hK2.2 (fun a => s_nd_0 a)
  simp (disch := omega) only [↓dR_64_0 hL, ↓dK_65 hL, ↓dG_65 hL, ↓dP_65 hL, ↓dK_L hL hl, ↓dG_L hL hl, ↓dP_L hL hl, ↓reduceIte, ↓kq_bi, ↓kq_let, ↓kq_rz0, ↓kq_rz1, ↓kq_rzB, ↓Option.bind_some, kq_dvn, kt_lt, kf_lt, kt_eq, kf_eq, decide_true, decide_false, eq_self, Bool.false_eq_true, Bool.true_eq_false, not_true_eq_false, not_false_eq_true, jU_eq, jU_ne, jU_U, jV_eq, jV_ne, jV_V, kn_lit, kn_add, kn_mul, kn_sdm, kn_sub, kn_div, kn_nsdm, kn_lt, kn_eq, kn_pred, kn_m1, kn_m1', kn_a31, kn_shl, kn_shr, kn_bit, nB_0, nB_1, nB_t, nB_f, Nat.zero_add, Nat.add_zero, Nat.reduceAdd, Nat.reduceMul, Nat.reduceSub, Nat.reducePow]
  refine jW_bn (hR K2 J2) (fun K3 hK3 => ?_)
  simp (disch := omega) only [↓dR_64_0 hL, ↓dK_65 hL, ↓dG_65 hL, ↓dP_65 hL, ↓dK_L hL hl, ↓dG_L hL hl, ↓dP_L hL hl, ↓reduceIte, ↓kq_bi, ↓kq_let, ↓kq_rz0, ↓kq_rz1, ↓kq_rzB, ↓Option.bind_some, kq_dvn, kt_lt, kf_lt, kt_eq, kf_eq, decide_true, decide_false, eq_self, Bool.false_eq_true, Bool.true_eq_false, not_true_eq_false, not_false_eq_true, jU_eq, jU_ne, jU_U, jV_eq, jV_ne, jV_V, kn_lit, kn_add, kn_mul, kn_sdm, kn_sub, kn_div, kn_nsdm, kn_lt, kn_eq, kn_pred, kn_m1, kn_m1', kn_a31, kn_shl, kn_shr, kn_bit, nB_0, nB_1, nB_t, nB_f, Nat.zero_add, Nat.add_zero, Nat.reduceAdd, Nat.reduceMul, Nat.reduceSub, Nat.reducePow]
  refine jW_bn (c_need hL hK3.1.2.1 (ch := 44) (by omega)) (fun K4 hK4 => ?_)
  have J4 := jLC_T1 hl hK3.1 hK4.1 hK4.2 (fun a => s_nd_0 a)
  simp (disch := omega) only [↓dR_64_0 hL, ↓dK_65 hL, ↓dG_65 hL, ↓dP_65 hL, ↓dK_L hL hl, ↓dG_L hL hl, ↓dP_L hL hl, ↓reduceIte, ↓kq_bi, ↓kq_let, ↓kq_rz0, ↓kq_rz1, ↓kq_rzB, ↓Option.bind_some, kq_dvn, kt_lt, kf_lt, kt_eq, kf_eq, decide_true, decide_false, eq_self, Bool.false_eq_true, Bool.true_eq_false, not_true_eq_false, not_false_eq_true, jU_eq, jU_ne, jU_U, jV_eq, jV_ne, jV_V, kn_lit, kn_add, kn_mul, kn_sdm, kn_sub, kn_div, kn_nsdm, kn_lt, kn_eq, kn_pred, kn_m1, kn_m1', kn_a31, kn_shl, kn_shr, kn_bit, nB_0, nB_1, nB_t, nB_f, Nat.zero_add, Nat.add_zero, Nat.reduceAdd, Nat.reduceMul, Nat.reduceSub, Nat.reducePow]
  refine jW_bn (hR2 K4 J4) (fun K5 hK5 => ?_)
  simp (disch := omega) only [↓dR_64_0 hL, ↓dK_65 hL, ↓dG_65 hL, ↓dP_65 hL, ↓dK_L hL hl, ↓dG_L hL hl, ↓dP_L hL hl, ↓reduceIte, ↓kq_bi, ↓kq_let, ↓kq_rz0, ↓kq_rz1, ↓kq_rzB, ↓Option.bind_some, kq_dvn, kt_lt, kf_lt, kt_eq, kf_eq, decide_true, decide_false, eq_self, Bool.false_eq_true, Bool.true_eq_false, not_true_eq_false, not_false_eq_true, jU_eq, jU_ne, jU_U, jV_eq, jV_ne, jV_V, kn_lit, kn_add, kn_mul, kn_sdm, kn_sub, kn_div, kn_nsdm, kn_lt, kn_eq, kn_pred, kn_m1, kn_m1', kn_a31, kn_shl, kn_shr, kn_bit, nB_0, nB_1, nB_t, nB_f, Nat.zero_add, Nat.add_zero, Nat.reduceAdd, Nat.reduceMul, Nat.reduceSub, Nat.reducePow]
  refine jW_bn (c_need hL hK5.1.2.1 (ch := 93) (by omega)) (fun K6 hK6 => ?_)
  have J6 := jLC_T1 hl hK5.1 hK6.1 hK6.2 (fun a => s_nd_0 a)
  simp (disch := omega) only [↓dR_64_0 hL, ↓dK_65 hL, ↓dG_65 hL, ↓dP_65 hL, ↓dK_L hL hl, ↓dG_L hL hl, ↓dP_L hL hl, ↓reduceIte, ↓kq_bi, ↓kq_let, ↓kq_rz0, ↓kq_rz1, ↓kq_rzB, ↓Option.bind_some, kq_dvn, kt_lt, kf_lt, kt_eq, kf_eq, decide_true, decide_false, eq_self, Bool.false_eq_true, Bool.true_eq_false, not_true_eq_false, not_false_eq_true, jU_eq, jU_ne, jU_U, jV_eq, jV_ne, jV_V, kn_lit, kn_add, kn_mul, kn_sdm, kn_sub, kn_div, kn_nsdm, kn_lt, kn_eq, kn_pred, kn_m1, kn_m1', kn_a31, kn_shl, kn_shr, kn_bit, nB_0, nB_1, nB_t, nB_f, Nat.zero_add, Nat.add_zero, Nat.reduceAdd, Nat.reduceMul, Nat.reduceSub, Nat.reducePow]
  refine jW_bn (c_putS hL hl J6 (w := w) (v := 0) (fun a => ⟨hx, h9 a⟩)) (fun K7 hK7 => ?_)
  exact jW_s (hP K7 ⟨hK7.1, jFC_trans (jFC_T1 hK2.2) (jFC_trans hK3.2 (jFC_trans (jFC_T1 hK4.2) (jFC_trans hK5.2 (jFC_trans (jFC_T1 hK6.2) hK7.2))))⟩)
theorem c_pair6 (hL : jLay t u l m b c h) (hl : q = 82 ∨ q = 196) (hJ : jLC h J q tp n (z, ω)) {p : Nat} (hp : p ≤ n) (h6 : J 65 6 = nI p) : ∃ K, F_Law_readPair R q 65 (nI 6) x (jz_I h J) = some (jz_I h K) ∧ jLC h K q tp n (s_fa 3 p z, ω) ∧ jFC q J K := by
  refine jE_n (fun P hP => ?_)
  unfold F_Law_readPair
  simp (disch := omega) only [↓dR_64_0 hL, ↓dK_65 hL, ↓dG_65 hL, ↓dP_65 hL, ↓dK_L hL hl, ↓dG_L hL hl, ↓dP_L hL hl, ↓reduceIte, ↓kq_bi, ↓kq_let, ↓kq_rz0, ↓kq_rz1, ↓kq_rzB, ↓Option.bind_some, kq_dvn, kt_lt, kf_lt, kt_eq, kf_eq, decide_true, decide_false, eq_self, Bool.false_eq_true, Bool.true_eq_false, not_true_eq_false, not_false_eq_true, jU_eq, jU_ne, jU_U, jV_eq, jV_ne, jV_V, kn_lit, kn_add, kn_mul, kn_sdm, kn_sub, kn_div, kn_nsdm, kn_lt, kn_eq, kn_pred, kn_m1, kn_m1', kn_a31, kn_shl, kn_shr, kn_bit, nB_0, nB_1, nB_t, nB_f, Nat.zero_add, Nat.add_zero, Nat.reduceAdd, Nat.reduceMul, Nat.reduceSub, Nat.reducePow]
  refine jW_bn (c_fail hL hJ.2.1 (show 1 ≤ 3 by omega) (by omega) hp h6) (fun K2 hK2 => ?_)
  exact jW_s (hP K2 ⟨jLC_T1 hl hJ hK2.1 hK2.2.2 (fun a => absurd a (s_fa_0 (by omega))), jFC_T1 hK2.2.2⟩)
/-- words: which function is called, and where -/
theorem c_unitW (hL : jLay t u l m b c h) (hl : q = 82 ∨ q = 196) (hy : jTy n y) (hJ : jLC h J q tp n (y, ω)) (hd : s_isd tp n y = false) (hc : ¬ s_nc tp n y = some 40) {P : LH → Prop}
    (hP : ∀ K, jLC h K q tp n (s_wd tp n (s_nx tp n y), ω) → K 65 6 = nI (s_nx tp n y).1 → jFC q J K → jW ((if s_isk tp n (s_nx tp n y) 7 = true then F_Law_readPair R q 65 (nI o) (-15 : Int32) (jz_I h K) else if s_isk tp n (s_nx tp n y) 8 = true then F_Law_readPair R q 65 (nI o) (-16 : Int32) (jz_I h K) else F_Law_readSense q 65 (jz_I h K)).bind fun h10 => some h10) P) : jW (F_Law_readUnit R q 65 (nI o) (jz_I h J)) P := by
  have h256 := hJ.2.1.2.2.2
  have hz := s_nx_y (tp := tp) hy
  have hw := s_nx_wd (tp := tp) hz
  refine c_unitP hL hl hy hJ hd (fun K k1 kF => ?_)
  have hne : ¬ nO (s_nc tp n y) = nI 40 := fun a => by
    rw [nO_ch h256 (by omega)] at a
    exact hc (of_decide_eq_true a)
  rw [if_neg hne]
  refine jW_bn (c_word hL k1.2.1) (fun K2 hK2 => ?_)
  obtain ⟨k2, k6, kM2⟩ := hK2
  have J2 := jLC_T1 hl k1 k2 kM2 (fun a => by rw [s_wd_2] at a; exact a)
  have i7 := c_isWord hL J2.1 k2 (k := 7) (by omega) (by omega) k6 hw
  rw [s_isw_isk] at i7
  have i8 := c_isWord hL J2.1 k2 (k := 8) (by omega) (by omega) k6 hw
  rw [s_isw_isk] at i8
  rw [s_nx_id hy] at k6
  have fin := hP K2 J2 k6 (jFC_trans kF (jFC_T1 kM2))
  cases g7 : s_isk tp n (s_nx tp n y) 7
  · cases g8 : s_isk tp n (s_nx tp n y) 8
    · rw [g7, g8, if_neg (show ¬ false = true by decide), if_neg (show ¬ false = true by decide)] at fin
      simp (disch := omega) only [i7, g7, i8, g8, F_Law_readUnit_b89, ↓dR_64_0 hL, ↓dK_65 hL, ↓dG_65 hL, ↓dP_65 hL, ↓dK_L hL hl, ↓dG_L hL hl, ↓dP_L hL hl, ↓reduceIte, ↓kq_bi, ↓kq_let, ↓kq_rz0, ↓kq_rz1, ↓kq_rzB, ↓Option.bind_some, kq_dvn, kt_lt, kf_lt, kt_eq, kf_eq, decide_true, decide_false, eq_self, Bool.false_eq_true, Bool.true_eq_false, not_true_eq_false, not_false_eq_true, jU_eq, jU_ne, jU_U, jV_eq, jV_ne, jV_V, kn_lit, kn_add, kn_mul, kn_sdm, kn_sub, kn_div, kn_nsdm, kn_lt, kn_eq, kn_pred, kn_m1, kn_m1', kn_a31, kn_shl, kn_shr, kn_bit, nB_0, nB_1, nB_t, nB_f, Nat.zero_add, Nat.add_zero, Nat.reduceAdd, Nat.reduceMul, Nat.reduceSub, Nat.reducePow]
      exact fin
    · rw [g7, g8, if_neg (show ¬ false = true by decide), if_pos (show true = true from rfl)] at fin
      simp (disch := omega) only [i7, g7, i8, g8, F_Law_readUnit_b89, ↓dR_64_0 hL, ↓dK_65 hL, ↓dG_65 hL, ↓dP_65 hL, ↓dK_L hL hl, ↓dG_L hL hl, ↓dP_L hL hl, ↓reduceIte, ↓kq_bi, ↓kq_let, ↓kq_rz0, ↓kq_rz1, ↓kq_rzB, ↓Option.bind_some, kq_dvn, kt_lt, kf_lt, kt_eq, kf_eq, decide_true, decide_false, eq_self, Bool.false_eq_true, Bool.true_eq_false, not_true_eq_false, not_false_eq_true, jU_eq, jU_ne, jU_U, jV_eq, jV_ne, jV_V, kn_lit, kn_add, kn_mul, kn_sdm, kn_sub, kn_div, kn_nsdm, kn_lt, kn_eq, kn_pred, kn_m1, kn_m1', kn_a31, kn_shl, kn_shr, kn_bit, nB_0, nB_1, nB_t, nB_f, Nat.zero_add, Nat.add_zero, Nat.reduceAdd, Nat.reduceMul, Nat.reduceSub, Nat.reducePow]
      exact fin
  · rw [g7, if_pos (show true = true from rfl)] at fin
    simp (disch := omega) only [i7, g7, F_Law_readUnit_b89, ↓dR_64_0 hL, ↓dK_65 hL, ↓dG_65 hL, ↓dP_65 hL, ↓dK_L hL hl, ↓dG_L hL hl, ↓dP_L hL hl, ↓reduceIte, ↓kq_bi, ↓kq_let, ↓kq_rz0, ↓kq_rz1, ↓kq_rzB, ↓Option.bind_some, kq_dvn, kt_lt, kf_lt, kt_eq, kf_eq, decide_true, decide_false, eq_self, Bool.false_eq_true, Bool.true_eq_false, not_true_eq_false, not_false_eq_true, jU_eq, jU_ne, jU_U, jV_eq, jV_ne, jV_V, kn_lit, kn_add, kn_mul, kn_sdm, kn_sub, kn_div, kn_nsdm, kn_lt, kn_eq, kn_pred, kn_m1, kn_m1', kn_a31, kn_shl, kn_shr, kn_bit, nB_0, nB_1, nB_t, nB_f, Nat.zero_add, Nat.add_zero, Nat.reduceAdd, Nat.reduceMul, Nat.reduceSub, Nat.reducePow]
    exact fin
end

/-! PLAIN LEAN, 42: towns; the class reads the other clauses -/
section
variable {t u l m b c : Nat} {h : LH} {I J K : Nat → Nat → Int32} {δ : JTn} {tp : Nat → Nat} {n j : Nat} {y : JTs} {x : Int32} {v : Nat → Nat}
theorem c_readWind (hL : jLay t u l m b c h) (ht : u = 69 ∨ u = 183) (hT : jTX J tp n y) (hC : jCD J u δ) (hm : δ 0 4 < 24) : ∃ K, F_Town_readWind u 65 (nI 0) (jz_I h J) = some (jz_I h K) ∧ jTX K tp n (s_rdk tp n δ 4 y).2 ∧ jCD K u (s_add δ 4 (s_rdk tp n δ 4 y).1) ∧ jTu u J K := by
  have hu : 66 < u := by omega
  have c0 : J u 2 = nI (δ 0 4) := hC.1 4 (by omega)
  refine jE_n (fun P hP => ?_)
  unfold F_Town_readWind
  simp (disch := omega) only [c0, ↓dR_64_0 hL, ↓dK_65 hL, ↓dG_65 hL, ↓dP_65 hL, ↓dK_T hL ht, ↓dG_T hL ht, ↓dP_T hL ht, ↓dR_T_11 hL ht, dI_T6 hL ht, dS_T6 hL ht, ↓reduceIte, ↓kq_bi, ↓kq_let, ↓kq_rz0, ↓kq_rz1, ↓kq_rzB, ↓Option.bind_some, kq_dvn, kt_lt, kf_lt, kt_eq, kf_eq, decide_true, decide_false, eq_self, Bool.false_eq_true, Bool.true_eq_false, not_true_eq_false, not_false_eq_true, jU_eq, jU_ne, jU_U, jV_eq, jV_ne, jV_V, kn_lit, kn_add, kn_mul, kn_sdm, kn_sub, kn_div, kn_nsdm, kn_lt, kn_eq, kn_pred, kn_m1, kn_m1', kn_a31, kn_shl, kn_shr, kn_bit, nB_0, nB_1, nB_t, nB_f, Nat.zero_add, Nat.add_zero, Nat.reduceAdd, Nat.reduceMul, Nat.reduceSub, Nat.reducePow]
  refine jW_bi (c_number hL hT (lo := 0) (hi := 9) (by omega) (hH_lit (a := 8) (by omega))) (fun K hK => ?_)
  obtain ⟨k1, -, kM⟩ := hK
  have kC := jCD_T1 hC (by omega) kM
  have c0 : K u 2 = nI (δ 0 4) := kC.1 4 (by omega)
  simp (disch := omega) only [c0, ↓dR_64_0 hL, ↓dK_65 hL, ↓dG_65 hL, ↓dP_65 hL, ↓dK_T hL ht, ↓dG_T hL ht, ↓dP_T hL ht, ↓dR_T_11 hL ht, dI_T6 hL ht, dS_T6 hL ht, ↓reduceIte, ↓kq_bi, ↓kq_let, ↓kq_rz0, ↓kq_rz1, ↓kq_rzB, ↓Option.bind_some, kq_dvn, kt_lt, kf_lt, kt_eq, kf_eq, decide_true, decide_false, eq_self, Bool.false_eq_true, Bool.true_eq_false, not_true_eq_false, not_false_eq_true, jU_eq, jU_ne, jU_U, jV_eq, jV_ne, jV_V, kn_lit, kn_add, kn_mul, kn_sdm, kn_sub, kn_div, kn_nsdm, kn_lt, kn_eq, kn_pred, kn_m1, kn_m1', kn_a31, kn_shl, kn_shr, kn_bit, nB_0, nB_1, nB_t, nB_f, Nat.zero_add, Nat.add_zero, Nat.reduceAdd, Nat.reduceMul, Nat.reduceSub, Nat.reducePow]
  refine jW_s (hP _ ⟨jTX_U (jTX_U k1 (by omega)) (by omega), jCD_add kC (by omega) ?_ (fun i hi hne => ?_) (fun c a1 a2 a3 => ?_) (fun c a1 a2 a3 => ?_), jTu_trans (jTu_T1 kM) (jTu_trans (jTu_U (by omega) (by omega) (by omega)) (jTu_U (by omega) (by omega) (by omega)))⟩)
  · rw [jU_eq]; exact jV_eq
  · have hne : ¬ s_cf i = 2 := hne
    rw [jU_eq, jV_ne hne]
  · cases s_kd_4 c a2 a1 a3
    rw [jU_ne (by omega), jU_eq]
    exact ⟨jV_eq, fun k hk => jV_ne (by omega)⟩
  · have : ¬ c = 6 := fun a => a3 (by rw [a]; rfl)
    rw [jU_ne (by omega), jU_ne (by omega)]
theorem c_readSignal (hL : jLay t u l m b c h) (ht : u = 69 ∨ u = 183) (hT : jTX J tp n y) (hC : jCD J u δ) (hm : δ 0 3 < 8) : ∃ K, F_Town_readSignal u 65 (nI 0) (jz_I h J) = some (jz_I h K) ∧ jTX K tp n (s_rdk tp n δ 3 y).2 ∧ jCD K u (s_add δ 3 (s_rdk tp n δ 3 y).1) ∧ jTu u J K := by
  have hu : 66 < u := by omega
  have c0 : J u 5 = nI (δ 0 3) := hC.1 3 (by omega)
  refine jE_n (fun P hP => ?_)
  unfold F_Town_readSignal
  simp (disch := omega) only [c0, ↓dR_64_0 hL, ↓dK_65 hL, ↓dG_65 hL, ↓dP_65 hL, ↓dK_T hL ht, ↓dG_T hL ht, ↓dP_T hL ht, ↓dR_T_17 hL ht, dI_T12 hL ht, dS_T12 hL ht, ↓reduceIte, ↓kq_bi, ↓kq_let, ↓kq_rz0, ↓kq_rz1, ↓kq_rzB, ↓Option.bind_some, kq_dvn, kt_lt, kf_lt, kt_eq, kf_eq, decide_true, decide_false, eq_self, Bool.false_eq_true, Bool.true_eq_false, not_true_eq_false, not_false_eq_true, jU_eq, jU_ne, jU_U, jV_eq, jV_ne, jV_V, kn_lit, kn_add, kn_mul, kn_sdm, kn_sub, kn_div, kn_nsdm, kn_lt, kn_eq, kn_pred, kn_m1, kn_m1', kn_a31, kn_shl, kn_shr, kn_bit, nB_0, nB_1, nB_t, nB_f, Nat.zero_add, Nat.add_zero, Nat.reduceAdd, Nat.reduceMul, Nat.reduceSub, Nat.reducePow]
  refine jW_bi (c_number hL hT (lo := 0) (hi := 512) (by omega) (hH_lit (a := 511) (by omega))) (fun K hK => ?_)
  obtain ⟨k1, -, kM⟩ := hK
  have kC := jCD_T1 hC (by omega) kM
  have c0 : K u 5 = nI (δ 0 3) := kC.1 3 (by omega)
  simp (disch := omega) only [c0, ↓dR_64_0 hL, ↓dK_65 hL, ↓dG_65 hL, ↓dP_65 hL, ↓dK_T hL ht, ↓dG_T hL ht, ↓dP_T hL ht, ↓dR_T_17 hL ht, dI_T12 hL ht, dS_T12 hL ht, ↓reduceIte, ↓kq_bi, ↓kq_let, ↓kq_rz0, ↓kq_rz1, ↓kq_rzB, ↓Option.bind_some, kq_dvn, kt_lt, kf_lt, kt_eq, kf_eq, decide_true, decide_false, eq_self, Bool.false_eq_true, Bool.true_eq_false, not_true_eq_false, not_false_eq_true, jU_eq, jU_ne, jU_U, jV_eq, jV_ne, jV_V, kn_lit, kn_add, kn_mul, kn_sdm, kn_sub, kn_div, kn_nsdm, kn_lt, kn_eq, kn_pred, kn_m1, kn_m1', kn_a31, kn_shl, kn_shr, kn_bit, nB_0, nB_1, nB_t, nB_f, Nat.zero_add, Nat.add_zero, Nat.reduceAdd, Nat.reduceMul, Nat.reduceSub, Nat.reducePow]
  refine jW_s (hP _ ⟨jTX_U (jTX_U k1 (by omega)) (by omega), jCD_add kC (by omega) ?_ (fun i hi hne => ?_) (fun c a1 a2 a3 => ?_) (fun c a1 a2 a3 => ?_), jTu_trans (jTu_T1 kM) (jTu_trans (jTu_U (by omega) (by omega) (by omega)) (jTu_U (by omega) (by omega) (by omega)))⟩)
  · rw [jU_eq]; exact jV_eq
  · have hne : ¬ s_cf i = 5 := hne
    rw [jU_eq, jV_ne hne]
  · cases s_kd_3 c a2 a1 a3
    rw [jU_ne (by omega), jU_eq]
    exact ⟨jV_eq, fun k hk => jV_ne (by omega)⟩
  · have : ¬ c = 12 := fun a => a3 (by rw [a]; rfl)
    rw [jU_ne (by omega), jU_ne (by omega)]
theorem c_readWood (hL : jLay t u l m b c h) (ht : u = 69 ∨ u = 183) (hT : jTX J tp n y) (hC : jCD J u δ) (hm : δ 0 1 < 6) : ∃ K, F_Town_readWood u 65 (nI 0) (jz_I h J) = some (jz_I h K) ∧ jTX K tp n (s_rdk tp n δ 1 y).2 ∧ jCD K u (s_add δ 1 (s_rdk tp n δ 1 y).1) ∧ jTu u J K := by
  have hu : 66 < u := by omega
  have c0 : J u 1 = nI (δ 0 1) := hC.1 1 (by omega)
  refine jE_n (fun P hP => ?_)
  unfold F_Town_readWood
  simp (disch := omega) only [c0, ↓dR_64_0 hL, ↓dK_65 hL, ↓dG_65 hL, ↓dP_65 hL, ↓dK_T hL ht, ↓dG_T hL ht, ↓dP_T hL ht, ↓dR_T_7 hL ht, dI_T2 hL ht, dS_T2 hL ht, ↓dR_T_8 hL ht, dI_T3 hL ht, dS_T3 hL ht, ↓dR_T_9 hL ht, dI_T4 hL ht, dS_T4 hL ht, ↓dR_T_10 hL ht, dI_T5 hL ht, dS_T5 hL ht, ↓reduceIte, ↓kq_bi, ↓kq_let, ↓kq_rz0, ↓kq_rz1, ↓kq_rzB, ↓Option.bind_some, kq_dvn, kt_lt, kf_lt, kt_eq, kf_eq, decide_true, decide_false, eq_self, Bool.false_eq_true, Bool.true_eq_false, not_true_eq_false, not_false_eq_true, jU_eq, jU_ne, jU_U, jV_eq, jV_ne, jV_V, kn_lit, kn_add, kn_mul, kn_sdm, kn_sub, kn_div, kn_nsdm, kn_lt, kn_eq, kn_pred, kn_m1, kn_m1', kn_a31, kn_shl, kn_shr, kn_bit, nB_0, nB_1, nB_t, nB_f, Nat.zero_add, Nat.add_zero, Nat.reduceAdd, Nat.reduceMul, Nat.reduceSub, Nat.reducePow]
  refine jW_bi (c_number hL hT (lo := 1) (hi := 21) (by omega) (hH_lit (a := 20) (by omega))) (fun K0 hK => ?_)
  obtain ⟨k0, -, M0⟩ := hK
  have d0 : K0 u 1 = nI (δ 0 1) := by rw [M0.2 u (by omega)]; exact c0
  simp (disch := omega) only [d0, ↓dR_64_0 hL, ↓dK_65 hL, ↓dG_65 hL, ↓dP_65 hL, ↓dK_T hL ht, ↓dG_T hL ht, ↓dP_T hL ht, ↓dR_T_7 hL ht, dI_T2 hL ht, dS_T2 hL ht, ↓dR_T_8 hL ht, dI_T3 hL ht, dS_T3 hL ht, ↓dR_T_9 hL ht, dI_T4 hL ht, dS_T4 hL ht, ↓dR_T_10 hL ht, dI_T5 hL ht, dS_T5 hL ht, ↓reduceIte, ↓kq_bi, ↓kq_let, ↓kq_rz0, ↓kq_rz1, ↓kq_rzB, ↓Option.bind_some, kq_dvn, kt_lt, kf_lt, kt_eq, kf_eq, decide_true, decide_false, eq_self, Bool.false_eq_true, Bool.true_eq_false, not_true_eq_false, not_false_eq_true, jU_eq, jU_ne, jU_U, jV_eq, jV_ne, jV_V, kn_lit, kn_add, kn_mul, kn_sdm, kn_sub, kn_div, kn_nsdm, kn_lt, kn_eq, kn_pred, kn_m1, kn_m1', kn_a31, kn_shl, kn_shr, kn_bit, nB_0, nB_1, nB_t, nB_f, Nat.zero_add, Nat.add_zero, Nat.reduceAdd, Nat.reduceMul, Nat.reduceSub, Nat.reducePow]
  have b0 : K0 u 1 = nI (δ 0 1) := d0
  clear d0
  refine jW_bi (c_number hL (jTX_U k0 (u := u + 2) (by omega)) (lo := 1) (hi := 10) (by omega) (hH_lit (a := 9) (by omega))) (fun K1 hK => ?_)
  obtain ⟨k1, -, M1⟩ := hK
  have d0 : K1 u 1 = nI (δ 0 1) := by rw [M1.2 u (by omega)]; rw [jU_ne (by omega)]; exact b0
  simp (disch := omega) only [d0, ↓dR_64_0 hL, ↓dK_65 hL, ↓dG_65 hL, ↓dP_65 hL, ↓dK_T hL ht, ↓dG_T hL ht, ↓dP_T hL ht, ↓dR_T_7 hL ht, dI_T2 hL ht, dS_T2 hL ht, ↓dR_T_8 hL ht, dI_T3 hL ht, dS_T3 hL ht, ↓dR_T_9 hL ht, dI_T4 hL ht, dS_T4 hL ht, ↓dR_T_10 hL ht, dI_T5 hL ht, dS_T5 hL ht, ↓reduceIte, ↓kq_bi, ↓kq_let, ↓kq_rz0, ↓kq_rz1, ↓kq_rzB, ↓Option.bind_some, kq_dvn, kt_lt, kf_lt, kt_eq, kf_eq, decide_true, decide_false, eq_self, Bool.false_eq_true, Bool.true_eq_false, not_true_eq_false, not_false_eq_true, jU_eq, jU_ne, jU_U, jV_eq, jV_ne, jV_V, kn_lit, kn_add, kn_mul, kn_sdm, kn_sub, kn_div, kn_nsdm, kn_lt, kn_eq, kn_pred, kn_m1, kn_m1', kn_a31, kn_shl, kn_shr, kn_bit, nB_0, nB_1, nB_t, nB_f, Nat.zero_add, Nat.add_zero, Nat.reduceAdd, Nat.reduceMul, Nat.reduceSub, Nat.reducePow]
  have b1 : K1 u 1 = nI (δ 0 1) := d0
  clear d0
  refine jW_bi (c_number hL (jTX_U k1 (u := u + 3) (by omega)) (lo := 0) (hi := 32) (by omega) (hH_lit (a := 31) (by omega))) (fun K2 hK => ?_)
  obtain ⟨k2, -, M2⟩ := hK
  have d0 : K2 u 1 = nI (δ 0 1) := by rw [M2.2 u (by omega)]; rw [jU_ne (by omega)]; exact b1
  simp (disch := omega) only [d0, ↓dR_64_0 hL, ↓dK_65 hL, ↓dG_65 hL, ↓dP_65 hL, ↓dK_T hL ht, ↓dG_T hL ht, ↓dP_T hL ht, ↓dR_T_7 hL ht, dI_T2 hL ht, dS_T2 hL ht, ↓dR_T_8 hL ht, dI_T3 hL ht, dS_T3 hL ht, ↓dR_T_9 hL ht, dI_T4 hL ht, dS_T4 hL ht, ↓dR_T_10 hL ht, dI_T5 hL ht, dS_T5 hL ht, ↓reduceIte, ↓kq_bi, ↓kq_let, ↓kq_rz0, ↓kq_rz1, ↓kq_rzB, ↓Option.bind_some, kq_dvn, kt_lt, kf_lt, kt_eq, kf_eq, decide_true, decide_false, eq_self, Bool.false_eq_true, Bool.true_eq_false, not_true_eq_false, not_false_eq_true, jU_eq, jU_ne, jU_U, jV_eq, jV_ne, jV_V, kn_lit, kn_add, kn_mul, kn_sdm, kn_sub, kn_div, kn_nsdm, kn_lt, kn_eq, kn_pred, kn_m1, kn_m1', kn_a31, kn_shl, kn_shr, kn_bit, nB_0, nB_1, nB_t, nB_f, Nat.zero_add, Nat.add_zero, Nat.reduceAdd, Nat.reduceMul, Nat.reduceSub, Nat.reducePow]
  have b2 : K2 u 1 = nI (δ 0 1) := d0
  clear d0
  refine jW_bi (c_number hL (jTX_U k2 (u := u + 4) (by omega)) (lo := 0) (hi := 41) (by omega) (hH_lit (a := 40) (by omega))) (fun K3 hK => ?_)
  obtain ⟨k3, -, M3⟩ := hK
  have d0 : K3 u 1 = nI (δ 0 1) := by rw [M3.2 u (by omega)]; rw [jU_ne (by omega)]; exact b2
  simp (disch := omega) only [d0, ↓dR_64_0 hL, ↓dK_65 hL, ↓dG_65 hL, ↓dP_65 hL, ↓dK_T hL ht, ↓dG_T hL ht, ↓dP_T hL ht, ↓dR_T_7 hL ht, dI_T2 hL ht, dS_T2 hL ht, ↓dR_T_8 hL ht, dI_T3 hL ht, dS_T3 hL ht, ↓dR_T_9 hL ht, dI_T4 hL ht, dS_T4 hL ht, ↓dR_T_10 hL ht, dI_T5 hL ht, dS_T5 hL ht, ↓reduceIte, ↓kq_bi, ↓kq_let, ↓kq_rz0, ↓kq_rz1, ↓kq_rzB, ↓Option.bind_some, kq_dvn, kt_lt, kf_lt, kt_eq, kf_eq, decide_true, decide_false, eq_self, Bool.false_eq_true, Bool.true_eq_false, not_true_eq_false, not_false_eq_true, jU_eq, jU_ne, jU_U, jV_eq, jV_ne, jV_V, kn_lit, kn_add, kn_mul, kn_sdm, kn_sub, kn_div, kn_nsdm, kn_lt, kn_eq, kn_pred, kn_m1, kn_m1', kn_a31, kn_shl, kn_shr, kn_bit, nB_0, nB_1, nB_t, nB_f, Nat.zero_add, Nat.add_zero, Nat.reduceAdd, Nat.reduceMul, Nat.reduceSub, Nat.reducePow]
  have b3 : K3 u 1 = nI (δ 0 1) := d0
  clear d0
  refine jW_s (hP _ ⟨jTX_U (jTX_U k3 (by omega)) (by omega), jCD_add hC (by omega) ?_ (fun i hi hne => ?_) (fun c a1 a2 a3 => ?_) (fun c a1 a2 a3 => ?_), jTu_trans (jTu_trans (jTu_trans (jTu_trans (jTu_trans (jTu_trans (jTu_trans (jTu_trans (jTu_T1 M0) (jTu_U (by omega) (by omega) (by omega))) (jTu_T1 M1)) (jTu_U (by omega) (by omega) (by omega))) (jTu_T1 M2)) (jTu_U (by omega) (by omega) (by omega))) (jTu_T1 M3)) (jTu_U (by omega) (by omega) (by omega))) (jTu_U (by omega) (by omega) (by omega))⟩)
  · rw [jU_eq]; exact jV_eq
  · have hne : ¬ s_cf i = 1 := hne
    rw [jU_eq, jV_ne hne]
    rw [M3.2 u (by omega)]
    rw [jU_ne (by omega), M2.2 u (by omega)]
    rw [jU_ne (by omega), M1.2 u (by omega)]
    rw [jU_ne (by omega), M0.2 u (by omega)]
  · have hc := s_kd_1 c a2 a1 a3
    rcases (show c = 2 ∨ c = 3 ∨ c = 4 ∨ c = 5 by omega) with rfl | rfl | rfl | rfl
    · rw [jU_ne (by omega), jU_ne (by omega), M3.2 (u + 2) (by omega), jU_ne (by omega), M2.2 (u + 2) (by omega), jU_ne (by omega), M1.2 (u + 2) (by omega), jU_eq]
      exact ⟨jV_eq, fun k hk => by rw [jV_ne (by omega), M0.2 (u + 2) (by omega)]⟩
    · rw [jU_ne (by omega), jU_ne (by omega), M3.2 (u + 3) (by omega), jU_ne (by omega), M2.2 (u + 3) (by omega), jU_eq]
      exact ⟨jV_eq, fun k hk => by rw [jV_ne (by omega), M1.2 (u + 3) (by omega), jU_ne (by omega), M0.2 (u + 3) (by omega)]⟩
    · rw [jU_ne (by omega), jU_ne (by omega), M3.2 (u + 4) (by omega), jU_eq]
      exact ⟨jV_eq, fun k hk => by rw [jV_ne (by omega), M2.2 (u + 4) (by omega), jU_ne (by omega), M1.2 (u + 4) (by omega), jU_ne (by omega), M0.2 (u + 4) (by omega)]⟩
    · rw [jU_ne (by omega), jU_eq]
      exact ⟨jV_eq, fun k hk => by rw [jV_ne (by omega), M3.2 (u + 5) (by omega), jU_ne (by omega), M2.2 (u + 5) (by omega), jU_ne (by omega), M1.2 (u + 5) (by omega), jU_ne (by omega), M0.2 (u + 5) (by omega)]⟩
  · have : ¬ c = 2 ∧ ¬ c = 3 ∧ ¬ c = 4 ∧ ¬ c = 5 := ⟨fun a => a3 (by rw [a]; rfl), fun a => a3 (by rw [a]; rfl), fun a => a3 (by rw [a]; rfl), fun a => a3 (by rw [a]; rfl)⟩
    rw [jU_ne (by omega), jU_ne (by omega), M3.2 (u + c) (by omega), jU_ne (by omega), M2.2 (u + c) (by omega), jU_ne (by omega), M1.2 (u + c) (by omega), jU_ne (by omega), M0.2 (u + c) (by omega)]
theorem c_readComer (hL : jLay t u l m b c h) (ht : u = 69 ∨ u = 183) (hT : jTX J tp n y) (hC : jCD J u δ) (hm : δ 0 2 < 10) (h9 : δ 0 0 ≤ 9) : ∃ K, F_Town_readComer u 65 (nI 0) (jz_I h J) = some (jz_I h K) ∧ jTX K tp n (s_rdk tp n δ 2 y).2 ∧ jCD K u (s_add δ 2 (s_rdk tp n δ 2 y).1) ∧ jTu u J K := by
  have hu : 66 < u := by omega
  have c0 : J u 4 = nI (δ 0 2) := hC.1 2 (by omega)
  have cg : J u 0 = nI (δ 0 0) := hC.1 0 (by omega)
  refine jE_n (fun P hP => ?_)
  unfold F_Town_readComer
  simp (disch := omega) only [c0, cg, ↓dR_64_0 hL, ↓dK_65 hL, ↓dG_65 hL, ↓dP_65 hL, ↓dK_T hL ht, ↓dG_T hL ht, ↓dP_T hL ht, ↓dR_T_14 hL ht, dI_T9 hL ht, dS_T9 hL ht, ↓dR_T_15 hL ht, dI_T10 hL ht, dS_T10 hL ht, ↓dR_T_16 hL ht, dI_T11 hL ht, dS_T11 hL ht, ↓reduceIte, ↓kq_bi, ↓kq_let, ↓kq_rz0, ↓kq_rz1, ↓kq_rzB, ↓Option.bind_some, kq_dvn, kt_lt, kf_lt, kt_eq, kf_eq, decide_true, decide_false, eq_self, Bool.false_eq_true, Bool.true_eq_false, not_true_eq_false, not_false_eq_true, jU_eq, jU_ne, jU_U, jV_eq, jV_ne, jV_V, kn_lit, kn_add, kn_mul, kn_sdm, kn_sub, kn_div, kn_nsdm, kn_lt, kn_eq, kn_pred, kn_m1, kn_m1', kn_a31, kn_shl, kn_shr, kn_bit, nB_0, nB_1, nB_t, nB_f, Nat.zero_add, Nat.add_zero, Nat.reduceAdd, Nat.reduceMul, Nat.reduceSub, Nat.reducePow]
  refine jW_bi (c_number hL hT (lo := 0) (hi := δ 0 0) (by omega) (hH_pred (by omega))) (fun K0 hK => ?_)
  obtain ⟨k0, -, M0⟩ := hK
  have d0 : K0 u 4 = nI (δ 0 2) := by rw [M0.2 u (by omega)]; exact c0
  simp (disch := omega) only [d0, ↓dR_64_0 hL, ↓dK_65 hL, ↓dG_65 hL, ↓dP_65 hL, ↓dK_T hL ht, ↓dG_T hL ht, ↓dP_T hL ht, ↓dR_T_14 hL ht, dI_T9 hL ht, dS_T9 hL ht, ↓dR_T_15 hL ht, dI_T10 hL ht, dS_T10 hL ht, ↓dR_T_16 hL ht, dI_T11 hL ht, dS_T11 hL ht, ↓reduceIte, ↓kq_bi, ↓kq_let, ↓kq_rz0, ↓kq_rz1, ↓kq_rzB, ↓Option.bind_some, kq_dvn, kt_lt, kf_lt, kt_eq, kf_eq, decide_true, decide_false, eq_self, Bool.false_eq_true, Bool.true_eq_false, not_true_eq_false, not_false_eq_true, jU_eq, jU_ne, jU_U, jV_eq, jV_ne, jV_V, kn_lit, kn_add, kn_mul, kn_sdm, kn_sub, kn_div, kn_nsdm, kn_lt, kn_eq, kn_pred, kn_m1, kn_m1', kn_a31, kn_shl, kn_shr, kn_bit, nB_0, nB_1, nB_t, nB_f, Nat.zero_add, Nat.add_zero, Nat.reduceAdd, Nat.reduceMul, Nat.reduceSub, Nat.reducePow]
  have b0 : K0 u 4 = nI (δ 0 2) := d0
  clear d0
  refine jW_bi (c_number hL (jTX_U k0 (u := u + 9) (by omega)) (lo := 0) (hi := 100) (by omega) (hH_lit (a := 99) (by omega))) (fun K1 hK => ?_)
  obtain ⟨k1, -, M1⟩ := hK
  have d0 : K1 u 4 = nI (δ 0 2) := by rw [M1.2 u (by omega)]; rw [jU_ne (by omega)]; exact b0
  simp (disch := omega) only [d0, ↓dR_64_0 hL, ↓dK_65 hL, ↓dG_65 hL, ↓dP_65 hL, ↓dK_T hL ht, ↓dG_T hL ht, ↓dP_T hL ht, ↓dR_T_14 hL ht, dI_T9 hL ht, dS_T9 hL ht, ↓dR_T_15 hL ht, dI_T10 hL ht, dS_T10 hL ht, ↓dR_T_16 hL ht, dI_T11 hL ht, dS_T11 hL ht, ↓reduceIte, ↓kq_bi, ↓kq_let, ↓kq_rz0, ↓kq_rz1, ↓kq_rzB, ↓Option.bind_some, kq_dvn, kt_lt, kf_lt, kt_eq, kf_eq, decide_true, decide_false, eq_self, Bool.false_eq_true, Bool.true_eq_false, not_true_eq_false, not_false_eq_true, jU_eq, jU_ne, jU_U, jV_eq, jV_ne, jV_V, kn_lit, kn_add, kn_mul, kn_sdm, kn_sub, kn_div, kn_nsdm, kn_lt, kn_eq, kn_pred, kn_m1, kn_m1', kn_a31, kn_shl, kn_shr, kn_bit, nB_0, nB_1, nB_t, nB_f, Nat.zero_add, Nat.add_zero, Nat.reduceAdd, Nat.reduceMul, Nat.reduceSub, Nat.reducePow]
  have b1 : K1 u 4 = nI (δ 0 2) := d0
  clear d0
  refine jW_bi (c_number hL (jTX_U k1 (u := u + 10) (by omega)) (lo := 0) (hi := 10) (by omega) (hH_lit (a := 9) (by omega))) (fun K2 hK => ?_)
  obtain ⟨k2, -, M2⟩ := hK
  have d0 : K2 u 4 = nI (δ 0 2) := by rw [M2.2 u (by omega)]; rw [jU_ne (by omega)]; exact b1
  simp (disch := omega) only [d0, ↓dR_64_0 hL, ↓dK_65 hL, ↓dG_65 hL, ↓dP_65 hL, ↓dK_T hL ht, ↓dG_T hL ht, ↓dP_T hL ht, ↓dR_T_14 hL ht, dI_T9 hL ht, dS_T9 hL ht, ↓dR_T_15 hL ht, dI_T10 hL ht, dS_T10 hL ht, ↓dR_T_16 hL ht, dI_T11 hL ht, dS_T11 hL ht, ↓reduceIte, ↓kq_bi, ↓kq_let, ↓kq_rz0, ↓kq_rz1, ↓kq_rzB, ↓Option.bind_some, kq_dvn, kt_lt, kf_lt, kt_eq, kf_eq, decide_true, decide_false, eq_self, Bool.false_eq_true, Bool.true_eq_false, not_true_eq_false, not_false_eq_true, jU_eq, jU_ne, jU_U, jV_eq, jV_ne, jV_V, kn_lit, kn_add, kn_mul, kn_sdm, kn_sub, kn_div, kn_nsdm, kn_lt, kn_eq, kn_pred, kn_m1, kn_m1', kn_a31, kn_shl, kn_shr, kn_bit, nB_0, nB_1, nB_t, nB_f, Nat.zero_add, Nat.add_zero, Nat.reduceAdd, Nat.reduceMul, Nat.reduceSub, Nat.reducePow]
  have b2 : K2 u 4 = nI (δ 0 2) := d0
  clear d0
  refine jW_s (hP _ ⟨jTX_U (jTX_U k2 (by omega)) (by omega), jCD_add hC (by omega) ?_ (fun i hi hne => ?_) (fun c a1 a2 a3 => ?_) (fun c a1 a2 a3 => ?_), jTu_trans (jTu_trans (jTu_trans (jTu_trans (jTu_trans (jTu_trans (jTu_T1 M0) (jTu_U (by omega) (by omega) (by omega))) (jTu_T1 M1)) (jTu_U (by omega) (by omega) (by omega))) (jTu_T1 M2)) (jTu_U (by omega) (by omega) (by omega))) (jTu_U (by omega) (by omega) (by omega))⟩)
  · rw [jU_eq]; exact jV_eq
  · have hne : ¬ s_cf i = 4 := hne
    rw [jU_eq, jV_ne hne]
    rw [M2.2 u (by omega)]
    rw [jU_ne (by omega), M1.2 u (by omega)]
    rw [jU_ne (by omega), M0.2 u (by omega)]
  · have hc := s_kd_2 c a2 a1 a3
    rcases (show c = 9 ∨ c = 10 ∨ c = 11 by omega) with rfl | rfl | rfl
    · rw [jU_ne (by omega), jU_ne (by omega), M2.2 (u + 9) (by omega), jU_ne (by omega), M1.2 (u + 9) (by omega), jU_eq]
      exact ⟨jV_eq, fun k hk => by rw [jV_ne (by omega), M0.2 (u + 9) (by omega)]⟩
    · rw [jU_ne (by omega), jU_ne (by omega), M2.2 (u + 10) (by omega), jU_eq]
      exact ⟨jV_eq, fun k hk => by rw [jV_ne (by omega), M1.2 (u + 10) (by omega), jU_ne (by omega), M0.2 (u + 10) (by omega)]⟩
    · rw [jU_ne (by omega), jU_eq]
      exact ⟨jV_eq, fun k hk => by rw [jV_ne (by omega), M2.2 (u + 11) (by omega), jU_ne (by omega), M1.2 (u + 11) (by omega), jU_ne (by omega), M0.2 (u + 11) (by omega)]⟩
  · have : ¬ c = 9 ∧ ¬ c = 10 ∧ ¬ c = 11 := ⟨fun a => a3 (by rw [a]; rfl), fun a => a3 (by rw [a]; rfl), fun a => a3 (by rw [a]; rfl)⟩
    rw [jU_ne (by omega), jU_ne (by omega), M2.2 (u + c) (by omega), jU_ne (by omega), M1.2 (u + c) (by omega), jU_ne (by omega), M0.2 (u + c) (by omega)]
theorem c_readRain (hL : jLay t u l m b c h) (ht : u = 69 ∨ u = 183) (hT : jTX J tp n y) (hC : jCD J u δ) (hm : δ 0 5 < 6) : ∃ K, F_Town_readRain u 65 (nI 0) (jz_I h J) = some (jz_I h K) ∧ jTX K tp n (s_rdk tp n δ 5 y).2 ∧ jCD K u (s_add δ 5 (s_rdk tp n δ 5 y).1) ∧ jTu u J K := by
  have hu : 66 < u := by omega
  have c0 : J u 3 = nI (δ 0 5) := hC.1 5 (by omega)
  refine jE_n (fun P hP => ?_)
  unfold F_Town_readRain
  simp (disch := omega) only [c0, ↓dR_64_0 hL, ↓dK_65 hL, ↓dG_65 hL, ↓dP_65 hL, ↓dK_T hL ht, ↓dG_T hL ht, ↓dP_T hL ht, ↓dR_T_12 hL ht, dI_T7 hL ht, dS_T7 hL ht, ↓dR_T_13 hL ht, dI_T8 hL ht, dS_T8 hL ht, ↓reduceIte, ↓kq_bi, ↓kq_let, ↓kq_rz0, ↓kq_rz1, ↓kq_rzB, ↓Option.bind_some, kq_dvn, kt_lt, kf_lt, kt_eq, kf_eq, decide_true, decide_false, eq_self, Bool.false_eq_true, Bool.true_eq_false, not_true_eq_false, not_false_eq_true, jU_eq, jU_ne, jU_U, jV_eq, jV_ne, jV_V, kn_lit, kn_add, kn_mul, kn_sdm, kn_sub, kn_div, kn_nsdm, kn_lt, kn_eq, kn_pred, kn_m1, kn_m1', kn_a31, kn_shl, kn_shr, kn_bit, nB_0, nB_1, nB_t, nB_f, Nat.zero_add, Nat.add_zero, Nat.reduceAdd, Nat.reduceMul, Nat.reduceSub, Nat.reducePow]
  refine jW_bi (c_number hL hT (lo := 0) (hi := 100) (by omega) (hH_lit (a := 99) (by omega))) (fun K0 hK => ?_)
  obtain ⟨k0, -, M0⟩ := hK
  have d0 : K0 u 3 = nI (δ 0 5) := by rw [M0.2 u (by omega)]; exact c0
  simp (disch := omega) only [d0, ↓dR_64_0 hL, ↓dK_65 hL, ↓dG_65 hL, ↓dP_65 hL, ↓dK_T hL ht, ↓dG_T hL ht, ↓dP_T hL ht, ↓dR_T_12 hL ht, dI_T7 hL ht, dS_T7 hL ht, ↓dR_T_13 hL ht, dI_T8 hL ht, dS_T8 hL ht, ↓reduceIte, ↓kq_bi, ↓kq_let, ↓kq_rz0, ↓kq_rz1, ↓kq_rzB, ↓Option.bind_some, kq_dvn, kt_lt, kf_lt, kt_eq, kf_eq, decide_true, decide_false, eq_self, Bool.false_eq_true, Bool.true_eq_false, not_true_eq_false, not_false_eq_true, jU_eq, jU_ne, jU_U, jV_eq, jV_ne, jV_V, kn_lit, kn_add, kn_mul, kn_sdm, kn_sub, kn_div, kn_nsdm, kn_lt, kn_eq, kn_pred, kn_m1, kn_m1', kn_a31, kn_shl, kn_shr, kn_bit, nB_0, nB_1, nB_t, nB_f, Nat.zero_add, Nat.add_zero, Nat.reduceAdd, Nat.reduceMul, Nat.reduceSub, Nat.reducePow]
  have b0 : K0 u 3 = nI (δ 0 5) := d0
  clear d0
  refine jW_bi (c_number hL (jTX_U k0 (u := u + 7) (by omega)) (lo := s_nuv tp n y) (hi := 100) s_nuv_le (hH_lit (a := 99) (by omega))) (fun K1 hK => ?_)
  obtain ⟨k1, -, M1⟩ := hK
  have d0 : K1 u 3 = nI (δ 0 5) := by rw [M1.2 u (by omega)]; rw [jU_ne (by omega)]; exact b0
  simp (disch := omega) only [d0, ↓dR_64_0 hL, ↓dK_65 hL, ↓dG_65 hL, ↓dP_65 hL, ↓dK_T hL ht, ↓dG_T hL ht, ↓dP_T hL ht, ↓dR_T_12 hL ht, dI_T7 hL ht, dS_T7 hL ht, ↓dR_T_13 hL ht, dI_T8 hL ht, dS_T8 hL ht, ↓reduceIte, ↓kq_bi, ↓kq_let, ↓kq_rz0, ↓kq_rz1, ↓kq_rzB, ↓Option.bind_some, kq_dvn, kt_lt, kf_lt, kt_eq, kf_eq, decide_true, decide_false, eq_self, Bool.false_eq_true, Bool.true_eq_false, not_true_eq_false, not_false_eq_true, jU_eq, jU_ne, jU_U, jV_eq, jV_ne, jV_V, kn_lit, kn_add, kn_mul, kn_sdm, kn_sub, kn_div, kn_nsdm, kn_lt, kn_eq, kn_pred, kn_m1, kn_m1', kn_a31, kn_shl, kn_shr, kn_bit, nB_0, nB_1, nB_t, nB_f, Nat.zero_add, Nat.add_zero, Nat.reduceAdd, Nat.reduceMul, Nat.reduceSub, Nat.reducePow]
  have b1 : K1 u 3 = nI (δ 0 5) := d0
  clear d0
  refine jW_s (hP _ ⟨jTX_U (jTX_U k1 (by omega)) (by omega), jCD_add hC (by omega) ?_ (fun i hi hne => ?_) (fun c a1 a2 a3 => ?_) (fun c a1 a2 a3 => ?_), jTu_trans (jTu_trans (jTu_trans (jTu_trans (jTu_T1 M0) (jTu_U (by omega) (by omega) (by omega))) (jTu_T1 M1)) (jTu_U (by omega) (by omega) (by omega))) (jTu_U (by omega) (by omega) (by omega))⟩)
  · rw [jU_eq]; exact jV_eq
  · have hne : ¬ s_cf i = 3 := hne
    rw [jU_eq, jV_ne hne]
    rw [M1.2 u (by omega)]
    rw [jU_ne (by omega), M0.2 u (by omega)]
  · have hc := s_kd_5 c a2 a1 a3
    rcases (show c = 7 ∨ c = 8 by omega) with rfl | rfl
    · rw [jU_ne (by omega), jU_ne (by omega), M1.2 (u + 7) (by omega), jU_eq]
      exact ⟨jV_eq, fun k hk => by rw [jV_ne (by omega), M0.2 (u + 7) (by omega)]⟩
    · rw [jU_ne (by omega), jU_eq]
      exact ⟨jV_eq, fun k hk => by rw [jV_ne (by omega), M1.2 (u + 8) (by omega), jU_ne (by omega), M0.2 (u + 8) (by omega)]⟩
  · have : ¬ c = 7 ∧ ¬ c = 8 := ⟨fun a => a3 (by rw [a]; rfl), fun a => a3 (by rw [a]; rfl)⟩
    rw [jU_ne (by omega), jU_ne (by omega), M1.2 (u + c) (by omega), jU_ne (by omega), M0.2 (u + c) (by omega)]
theorem c_readGateF (hL : jLay t u l m b c h) (hT : jTX J tp n y) {w : Nat} (hw : w ≤ n) (h6 : J 65 6 = nI w) : ∃ K, F_Town_readGate u 65 (nI 1) (jz_I h J) = some (jz_I h K) ∧ jTX K tp n (s_fa 3 w y) ∧ jT1 J K := by
  refine jE_n (fun P hP => ?_)
  unfold F_Town_readGate
  simp (disch := omega) only [↓dR_64_0 hL, ↓dK_65 hL, ↓dG_65 hL, ↓dP_65 hL, ↓reduceIte, ↓kq_bi, ↓kq_let, ↓kq_rz0, ↓kq_rz1, ↓kq_rzB, ↓Option.bind_some, kq_dvn, kt_lt, kf_lt, kt_eq, kf_eq, decide_true, decide_false, eq_self, Bool.false_eq_true, Bool.true_eq_false, not_true_eq_false, not_false_eq_true, jU_eq, jU_ne, jU_U, jV_eq, jV_ne, jV_V, kn_lit, kn_add, kn_mul, kn_sdm, kn_sub, kn_div, kn_nsdm, kn_lt, kn_eq, kn_pred, kn_m1, kn_m1', kn_a31, kn_shl, kn_shr, kn_bit, nB_0, nB_1, nB_t, nB_f, Nat.zero_add, Nat.add_zero, Nat.reduceAdd, Nat.reduceMul, Nat.reduceSub, Nat.reducePow]
  exact jW_bn (c_fail hL hT (show 1 ≤ 3 by omega) (by omega) hw h6) (fun L hL' => jW_s (hP L ⟨hL'.1, hL'.2.2⟩))
theorem c_readWoodF (hL : jLay t u l m b c h) (hT : jTX J tp n y) {w : Nat} (hw : w ≤ n) (h6 : J 65 6 = nI w) : ∃ K, F_Town_readWood u 65 (nI 1) (jz_I h J) = some (jz_I h K) ∧ jTX K tp n (s_fa 3 w y) ∧ jT1 J K := by
  refine jE_n (fun P hP => ?_)
  unfold F_Town_readWood
  simp (disch := omega) only [↓dR_64_0 hL, ↓dK_65 hL, ↓dG_65 hL, ↓dP_65 hL, ↓reduceIte, ↓kq_bi, ↓kq_let, ↓kq_rz0, ↓kq_rz1, ↓kq_rzB, ↓Option.bind_some, kq_dvn, kt_lt, kf_lt, kt_eq, kf_eq, decide_true, decide_false, eq_self, Bool.false_eq_true, Bool.true_eq_false, not_true_eq_false, not_false_eq_true, jU_eq, jU_ne, jU_U, jV_eq, jV_ne, jV_V, kn_lit, kn_add, kn_mul, kn_sdm, kn_sub, kn_div, kn_nsdm, kn_lt, kn_eq, kn_pred, kn_m1, kn_m1', kn_a31, kn_shl, kn_shr, kn_bit, nB_0, nB_1, nB_t, nB_f, Nat.zero_add, Nat.add_zero, Nat.reduceAdd, Nat.reduceMul, Nat.reduceSub, Nat.reducePow]
  exact jW_bn (c_fail hL hT (show 1 ≤ 3 by omega) (by omega) hw h6) (fun L hL' => jW_s (hP L ⟨hL'.1, hL'.2.2⟩))
theorem c_readWindF (hL : jLay t u l m b c h) (hT : jTX J tp n y) {w : Nat} (hw : w ≤ n) (h6 : J 65 6 = nI w) : ∃ K, F_Town_readWind u 65 (nI 1) (jz_I h J) = some (jz_I h K) ∧ jTX K tp n (s_fa 3 w y) ∧ jT1 J K := by
  refine jE_n (fun P hP => ?_)
  unfold F_Town_readWind
  simp (disch := omega) only [↓dR_64_0 hL, ↓dK_65 hL, ↓dG_65 hL, ↓dP_65 hL, ↓reduceIte, ↓kq_bi, ↓kq_let, ↓kq_rz0, ↓kq_rz1, ↓kq_rzB, ↓Option.bind_some, kq_dvn, kt_lt, kf_lt, kt_eq, kf_eq, decide_true, decide_false, eq_self, Bool.false_eq_true, Bool.true_eq_false, not_true_eq_false, not_false_eq_true, jU_eq, jU_ne, jU_U, jV_eq, jV_ne, jV_V, kn_lit, kn_add, kn_mul, kn_sdm, kn_sub, kn_div, kn_nsdm, kn_lt, kn_eq, kn_pred, kn_m1, kn_m1', kn_a31, kn_shl, kn_shr, kn_bit, nB_0, nB_1, nB_t, nB_f, Nat.zero_add, Nat.add_zero, Nat.reduceAdd, Nat.reduceMul, Nat.reduceSub, Nat.reducePow]
  exact jW_bn (c_fail hL hT (show 1 ≤ 3 by omega) (by omega) hw h6) (fun L hL' => jW_s (hP L ⟨hL'.1, hL'.2.2⟩))
theorem c_readRainF (hL : jLay t u l m b c h) (hT : jTX J tp n y) {w : Nat} (hw : w ≤ n) (h6 : J 65 6 = nI w) : ∃ K, F_Town_readRain u 65 (nI 1) (jz_I h J) = some (jz_I h K) ∧ jTX K tp n (s_fa 3 w y) ∧ jT1 J K := by
  refine jE_n (fun P hP => ?_)
  unfold F_Town_readRain
  simp (disch := omega) only [↓dR_64_0 hL, ↓dK_65 hL, ↓dG_65 hL, ↓dP_65 hL, ↓reduceIte, ↓kq_bi, ↓kq_let, ↓kq_rz0, ↓kq_rz1, ↓kq_rzB, ↓Option.bind_some, kq_dvn, kt_lt, kf_lt, kt_eq, kf_eq, decide_true, decide_false, eq_self, Bool.false_eq_true, Bool.true_eq_false, not_true_eq_false, not_false_eq_true, jU_eq, jU_ne, jU_U, jV_eq, jV_ne, jV_V, kn_lit, kn_add, kn_mul, kn_sdm, kn_sub, kn_div, kn_nsdm, kn_lt, kn_eq, kn_pred, kn_m1, kn_m1', kn_a31, kn_shl, kn_shr, kn_bit, nB_0, nB_1, nB_t, nB_f, Nat.zero_add, Nat.add_zero, Nat.reduceAdd, Nat.reduceMul, Nat.reduceSub, Nat.reducePow]
  exact jW_bn (c_fail hL hT (show 1 ≤ 3 by omega) (by omega) hw h6) (fun L hL' => jW_s (hP L ⟨hL'.1, hL'.2.2⟩))
theorem c_readComerF (hL : jLay t u l m b c h) (hT : jTX J tp n y) {w : Nat} (hw : w ≤ n) (h6 : J 65 6 = nI w) : ∃ K, F_Town_readComer u 65 (nI 1) (jz_I h J) = some (jz_I h K) ∧ jTX K tp n (s_fa 3 w y) ∧ jT1 J K := by
  refine jE_n (fun P hP => ?_)
  unfold F_Town_readComer
  simp (disch := omega) only [↓dR_64_0 hL, ↓dK_65 hL, ↓dG_65 hL, ↓dP_65 hL, ↓reduceIte, ↓kq_bi, ↓kq_let, ↓kq_rz0, ↓kq_rz1, ↓kq_rzB, ↓Option.bind_some, kq_dvn, kt_lt, kf_lt, kt_eq, kf_eq, decide_true, decide_false, eq_self, Bool.false_eq_true, Bool.true_eq_false, not_true_eq_false, not_false_eq_true, jU_eq, jU_ne, jU_U, jV_eq, jV_ne, jV_V, kn_lit, kn_add, kn_mul, kn_sdm, kn_sub, kn_div, kn_nsdm, kn_lt, kn_eq, kn_pred, kn_m1, kn_m1', kn_a31, kn_shl, kn_shr, kn_bit, nB_0, nB_1, nB_t, nB_f, Nat.zero_add, Nat.add_zero, Nat.reduceAdd, Nat.reduceMul, Nat.reduceSub, Nat.reducePow]
  exact jW_bn (c_fail hL hT (show 1 ≤ 3 by omega) (by omega) hw h6) (fun L hL' => jW_s (hP L ⟨hL'.1, hL'.2.2⟩))
theorem c_readSignalF (hL : jLay t u l m b c h) (hT : jTX J tp n y) {w : Nat} (hw : w ≤ n) (h6 : J 65 6 = nI w) : ∃ K, F_Town_readSignal u 65 (nI 1) (jz_I h J) = some (jz_I h K) ∧ jTX K tp n (s_fa 3 w y) ∧ jT1 J K := by
  refine jE_n (fun P hP => ?_)
  unfold F_Town_readSignal
  simp (disch := omega) only [↓dR_64_0 hL, ↓dK_65 hL, ↓dG_65 hL, ↓dP_65 hL, ↓reduceIte, ↓kq_bi, ↓kq_let, ↓kq_rz0, ↓kq_rz1, ↓kq_rzB, ↓Option.bind_some, kq_dvn, kt_lt, kf_lt, kt_eq, kf_eq, decide_true, decide_false, eq_self, Bool.false_eq_true, Bool.true_eq_false, not_true_eq_false, not_false_eq_true, jU_eq, jU_ne, jU_U, jV_eq, jV_ne, jV_V, kn_lit, kn_add, kn_mul, kn_sdm, kn_sub, kn_div, kn_nsdm, kn_lt, kn_eq, kn_pred, kn_m1, kn_m1', kn_a31, kn_shl, kn_shr, kn_bit, nB_0, nB_1, nB_t, nB_f, Nat.zero_add, Nat.add_zero, Nat.reduceAdd, Nat.reduceMul, Nat.reduceSub, Nat.reducePow]
  exact jW_bn (c_fail hL hT (show 1 ≤ 3 by omega) (by omega) hw h6) (fun L hL' => jW_s (hP L ⟨hL'.1, hL'.2.2⟩))
end

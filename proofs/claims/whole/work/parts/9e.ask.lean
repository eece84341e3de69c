/-! PLAIN LEAN: questions, whatever their arguments -/
section
variable {N : Nat} {A : JA}
theorem x_distance (hA : jAG N A) (x1 x2 : Int32) : jDo cdE (fun g => F_SG_distance 64 x1 x2 g) (fun g => F_Mod_distance 205 x1 x2 g) N A := by
  obtain ⟨τ, ω, r, β, H, E, Tp, p, rf, c0, c1⟩ := A
  have ho : jTOK τ := hA.1
  have o0 : τ 0 0 ≤ 9 := ho.1
  have o1 : τ 0 1 ≤ 6 := ho.2.1
  have o2 : τ 0 2 ≤ 10 := ho.2.2.1
  have o3 : τ 0 3 ≤ 8 := ho.2.2.2.1
  by_cases g1 : jIn x1 (τ 0 3)
  case neg =>
    refine jDo_b (k := 0) (by omega) (by decide) hA (fun t u l m b c h I hL hC => ?_) (fun t u l m b c h I hL hC => ?_)
    · show F_SG_distance 64 x1 x2 (jz_I h I) = _
      have hQ := jCC_Q hC hA
      have hT := hQ.1.1
      have ht := jLay_t hL
      unfold F_SG_distance
      rcases jIn_no (by omega) g1 with e | ⟨e1, e2⟩
      · simp (disch := omega) only [↓dR_85_1 hL, cT_f5 hT, F_SG_distance_b41, e, ↓dK_64 hL, ↓dG_64 hL, ↓dP_64 hL, ↓dR_64_2 hL, ↓dK_85 hL, ↓dG_85 hL, ↓dP_85 hL, ↓dZ_85 hL (x := nI 0) (Or.inl rfl), ↓dZ_85 hL (x := nI 1) (Or.inr rfl), ↓dZ_85 hL (Or.inl rfl), ↓dZ_85 hL (Or.inr rfl), ↓dZ_85 hL (nB_01 _), ↓dK_T hL ht, ↓dG_T hL ht, ↓dP_T hL ht, ↓reduceIte, ↓kq_bi, ↓kq_let, ↓kq_rz0, ↓kq_rz1, ↓kq_rzB, ↓Option.bind_some, kq_dvn, kt_lt, kf_lt, kt_eq, kf_eq, decide_true, decide_false, eq_self, Bool.false_eq_true, Bool.true_eq_false, not_true_eq_false, not_false_eq_true, jU_eq, jU_ne, jU_U, jV_eq, jV_ne, jV_V, kn_lit, kn_add, kn_mul, kn_sdm, kn_sub, kn_div, kn_nsdm, kn_lt, kn_eq, kn_pred, kn_m1, kn_m1', kn_a31, kn_shl, kn_shr, kn_bit, nB_0, nB_1, nB_t, nB_f, Nat.zero_add, Nat.add_zero, Nat.reduceAdd, Nat.reduceMul, Nat.reduceSub, Nat.reducePow]
        unfold F_SG_distance_b42
        exact c_bdE hL
      · simp (disch := omega) only [↓dR_85_1 hL, cT_f5 hT, F_SG_distance_b41, e1, e2, ↓dK_64 hL, ↓dG_64 hL, ↓dP_64 hL, ↓dR_64_2 hL, ↓dK_85 hL, ↓dG_85 hL, ↓dP_85 hL, ↓dZ_85 hL (x := nI 0) (Or.inl rfl), ↓dZ_85 hL (x := nI 1) (Or.inr rfl), ↓dZ_85 hL (Or.inl rfl), ↓dZ_85 hL (Or.inr rfl), ↓dZ_85 hL (nB_01 _), ↓dK_T hL ht, ↓dG_T hL ht, ↓dP_T hL ht, ↓reduceIte, ↓kq_bi, ↓kq_let, ↓kq_rz0, ↓kq_rz1, ↓kq_rzB, ↓Option.bind_some, kq_dvn, kt_lt, kf_lt, kt_eq, kf_eq, decide_true, decide_false, eq_self, Bool.false_eq_true, Bool.true_eq_false, not_true_eq_false, not_false_eq_true, jU_eq, jU_ne, jU_U, jV_eq, jV_ne, jV_V, kn_lit, kn_add, kn_mul, kn_sdm, kn_sub, kn_div, kn_nsdm, kn_lt, kn_eq, kn_pred, kn_m1, kn_m1', kn_a31, kn_shl, kn_shr, kn_bit, nB_0, nB_1, nB_t, nB_f, Nat.zero_add, Nat.add_zero, Nat.reduceAdd, Nat.reduceMul, Nat.reduceSub, Nat.reducePow]
        unfold F_SG_distance_b42
        exact c_bdE hL
    · show ∃ J, F_Mod_distance 205 x1 x2 (jz_I h I) = _ ∧ _
      have hQ := jMM_Q hC hA
      have N0 := jN_0 hQ
      have hQ0 := jN_QM N0 hQ
      have hT0 := hQ0.1.1
      unfold F_Mod_distance
      simp (disch := omega) only [m_signalX hL hT0 ho g1, F_Mod_distance_b22, ↓dK_205 hL, ↓dG_205 hL, ↓dP_205 hL, ↓dZ_205 hL (x := nI 0) (Or.inl rfl), ↓dZ_205 hL (x := nI 1) (Or.inr rfl), ↓dZ_205 hL (Or.inl rfl), ↓dZ_205 hL (Or.inr rfl), ↓dZ_205 hL (nB_01 _), ↓dR_205_12 hL, dI_209 hL, dS_209 hL, ↓dR_205_35 hL, dI_691 hL, dS_691 hL, ↓reduceIte, ↓kq_bi, ↓kq_let, ↓kq_rz0, ↓kq_rz1, ↓kq_rzB, ↓Option.bind_some, kq_dvn, kt_lt, kf_lt, kt_eq, kf_eq, decide_true, decide_false, eq_self, Bool.false_eq_true, Bool.true_eq_false, not_true_eq_false, not_false_eq_true, jU_eq, jU_ne, jU_U, jV_eq, jV_ne, jV_V, kn_lit, kn_add, kn_mul, kn_sdm, kn_sub, kn_div, kn_nsdm, kn_lt, kn_eq, kn_pred, kn_m1, kn_m1', kn_a31, kn_shl, kn_shr, kn_bit, nB_0, nB_1, nB_t, nB_f, Nat.zero_add, Nat.add_zero, Nat.reduceAdd, Nat.reduceMul, Nat.reduceSub, Nat.reducePow]
      unfold F_Mod_distance_b27
      exact m_bdF hL (f := 1) (i := 0) (by omega) (by omega) (by omega) (fun g => (if_neg (by decide)).trans rfl)
  obtain ⟨a1, h1, rfl⟩ := g1
  by_cases g2 : jIn x2 (τ 0 3)
  case neg =>
    refine jDo_b (k := 0) (by omega) (by decide) hA (fun t u l m b c h I hL hC => ?_) (fun t u l m b c h I hL hC => ?_)
    · show F_SG_distance 64 (nI a1) x2 (jz_I h I) = _
      have hQ := jCC_Q hC hA
      have hT := hQ.1.1
      have ht := jLay_t hL
      unfold F_SG_distance
      rcases jIn_no (by omega) g2 with e | ⟨e1, e2⟩
      · simp (disch := omega) only [↓dR_85_1 hL, cT_f5 hT, F_SG_distance_b41, e, ↓dK_64 hL, ↓dG_64 hL, ↓dP_64 hL, ↓dR_64_2 hL, ↓dK_85 hL, ↓dG_85 hL, ↓dP_85 hL, ↓dZ_85 hL (x := nI 0) (Or.inl rfl), ↓dZ_85 hL (x := nI 1) (Or.inr rfl), ↓dZ_85 hL (Or.inl rfl), ↓dZ_85 hL (Or.inr rfl), ↓dZ_85 hL (nB_01 _), ↓dK_T hL ht, ↓dG_T hL ht, ↓dP_T hL ht, ↓reduceIte, ↓kq_bi, ↓kq_let, ↓kq_rz0, ↓kq_rz1, ↓kq_rzB, ↓Option.bind_some, kq_dvn, kt_lt, kf_lt, kt_eq, kf_eq, decide_true, decide_false, eq_self, Bool.false_eq_true, Bool.true_eq_false, not_true_eq_false, not_false_eq_true, jU_eq, jU_ne, jU_U, jV_eq, jV_ne, jV_V, kn_lit, kn_add, kn_mul, kn_sdm, kn_sub, kn_div, kn_nsdm, kn_lt, kn_eq, kn_pred, kn_m1, kn_m1', kn_a31, kn_shl, kn_shr, kn_bit, nB_0, nB_1, nB_t, nB_f, Nat.zero_add, Nat.add_zero, Nat.reduceAdd, Nat.reduceMul, Nat.reduceSub, Nat.reducePow]
        unfold F_SG_distance_b42
        exact c_bdE hL
      · simp (disch := omega) only [↓dR_85_1 hL, cT_f5 hT, F_SG_distance_b41, e1, e2, ↓dK_64 hL, ↓dG_64 hL, ↓dP_64 hL, ↓dR_64_2 hL, ↓dK_85 hL, ↓dG_85 hL, ↓dP_85 hL, ↓dZ_85 hL (x := nI 0) (Or.inl rfl), ↓dZ_85 hL (x := nI 1) (Or.inr rfl), ↓dZ_85 hL (Or.inl rfl), ↓dZ_85 hL (Or.inr rfl), ↓dZ_85 hL (nB_01 _), ↓dK_T hL ht, ↓dG_T hL ht, ↓dP_T hL ht, ↓reduceIte, ↓kq_bi, ↓kq_let, ↓kq_rz0, ↓kq_rz1, ↓kq_rzB, ↓Option.bind_some, kq_dvn, kt_lt, kf_lt, kt_eq, kf_eq, decide_true, decide_false, eq_self, Bool.false_eq_true, Bool.true_eq_false, not_true_eq_false, not_false_eq_true, jU_eq, jU_ne, jU_U, jV_eq, jV_ne, jV_V, kn_lit, kn_add, kn_mul, kn_sdm, kn_sub, kn_div, kn_nsdm, kn_lt, kn_eq, kn_pred, kn_m1, kn_m1', kn_a31, kn_shl, kn_shr, kn_bit, nB_0, nB_1, nB_t, nB_f, Nat.zero_add, Nat.add_zero, Nat.reduceAdd, Nat.reduceMul, Nat.reduceSub, Nat.reducePow]
        unfold F_SG_distance_b42
        exact c_bdE hL
    · show ∃ J, F_Mod_distance 205 (nI a1) x2 (jz_I h I) = _ ∧ _
      have hQ := jMM_Q hC hA
      have N0 := jN_0 hQ
      have hQ0 := jN_QM N0 hQ
      have hT0 := hQ0.1.1
      unfold F_Mod_distance
      simp (disch := omega) only [m_isSignal hL hT0 ho h1, m_signalX hL hT0 ho g2, F_Mod_distance_b22, ↓dK_205 hL, ↓dG_205 hL, ↓dP_205 hL, ↓dZ_205 hL (x := nI 0) (Or.inl rfl), ↓dZ_205 hL (x := nI 1) (Or.inr rfl), ↓dZ_205 hL (Or.inl rfl), ↓dZ_205 hL (Or.inr rfl), ↓dZ_205 hL (nB_01 _), ↓dR_205_12 hL, dI_209 hL, dS_209 hL, ↓dR_205_35 hL, dI_691 hL, dS_691 hL, ↓reduceIte, ↓kq_bi, ↓kq_let, ↓kq_rz0, ↓kq_rz1, ↓kq_rzB, ↓Option.bind_some, kq_dvn, kt_lt, kf_lt, kt_eq, kf_eq, decide_true, decide_false, eq_self, Bool.false_eq_true, Bool.true_eq_false, not_true_eq_false, not_false_eq_true, jU_eq, jU_ne, jU_U, jV_eq, jV_ne, jV_V, kn_lit, kn_add, kn_mul, kn_sdm, kn_sub, kn_div, kn_nsdm, kn_lt, kn_eq, kn_pred, kn_m1, kn_m1', kn_a31, kn_shl, kn_shr, kn_bit, nB_0, nB_1, nB_t, nB_f, Nat.zero_add, Nat.add_zero, Nat.reduceAdd, Nat.reduceMul, Nat.reduceSub, Nat.reducePow]
      unfold F_Mod_distance_b27
      exact m_bdF hL (f := 1) (i := 0) (by omega) (by omega) (by omega) (fun g => (if_neg (by decide)).trans rfl)
  obtain ⟨a2, h2, rfl⟩ := g2
  exact jDo_q hA (fun t u l m b c h I hL hC => q_id hL hC (c_distance hL (jCC_Q hC hA) h1 h2)) (fun t u l m b c h I hL hC => m_distance hL (jMM_Q hC hA) h1 h2)
theorem x_read (hA : jAG N A) (x1 : Int32) : jDo cdI (fun g => F_SG_read 64 x1 g) (fun g => F_Mod_read 205 x1 g) N A := by
  obtain ⟨τ, ω, r, β, H, E, Tp, p, rf, c0, c1⟩ := A
  have ho : jTOK τ := hA.1
  have o0 : τ 0 0 ≤ 9 := ho.1
  have o1 : τ 0 1 ≤ 6 := ho.2.1
  have o2 : τ 0 2 ≤ 10 := ho.2.2.1
  have o3 : τ 0 3 ≤ 8 := ho.2.2.2.1
  by_cases g1 : jRg x1 0 511
  case neg =>
    refine jDo_b (k := 1) (by omega) (by decide) hA (fun t u l m b c h I hL hC => ?_) (fun t u l m b c h I hL hC => ?_)
    · show F_SG_read 64 x1 (jz_I h I) = _
      have hQ := jCC_Q hC hA
      have hT := hQ.1.1
      have ht := jLay_t hL
      unfold F_SG_read
      rcases jRg_no (by omega) (by omega) g1 with e | ⟨e1, e2⟩
      · simp (disch := omega) only [F_SG_read_b16, e, ↓dK_64 hL, ↓dG_64 hL, ↓dP_64 hL, ↓dR_64_2 hL, ↓dK_85 hL, ↓dG_85 hL, ↓dP_85 hL, ↓dZ_85 hL (x := nI 0) (Or.inl rfl), ↓dZ_85 hL (x := nI 1) (Or.inr rfl), ↓dZ_85 hL (Or.inl rfl), ↓dZ_85 hL (Or.inr rfl), ↓dZ_85 hL (nB_01 _), ↓dK_T hL ht, ↓dG_T hL ht, ↓dP_T hL ht, ↓reduceIte, ↓kq_bi, ↓kq_let, ↓kq_rz0, ↓kq_rz1, ↓kq_rzB, ↓Option.bind_some, kq_dvn, kt_lt, kf_lt, kt_eq, kf_eq, decide_true, decide_false, eq_self, Bool.false_eq_true, Bool.true_eq_false, not_true_eq_false, not_false_eq_true, jU_eq, jU_ne, jU_U, jV_eq, jV_ne, jV_V, kn_lit, kn_add, kn_mul, kn_sdm, kn_sub, kn_div, kn_nsdm, kn_lt, kn_eq, kn_pred, kn_m1, kn_m1', kn_a31, kn_shl, kn_shr, kn_bit, nB_0, nB_1, nB_t, nB_f, Nat.zero_add, Nat.add_zero, Nat.reduceAdd, Nat.reduceMul, Nat.reduceSub, Nat.reducePow]
        unfold F_SG_read_b17
        exact c_bdA hL
      · simp (disch := omega) only [F_SG_read_b16, e1, e2, ↓dK_64 hL, ↓dG_64 hL, ↓dP_64 hL, ↓dR_64_2 hL, ↓dK_85 hL, ↓dG_85 hL, ↓dP_85 hL, ↓dZ_85 hL (x := nI 0) (Or.inl rfl), ↓dZ_85 hL (x := nI 1) (Or.inr rfl), ↓dZ_85 hL (Or.inl rfl), ↓dZ_85 hL (Or.inr rfl), ↓dZ_85 hL (nB_01 _), ↓dK_T hL ht, ↓dG_T hL ht, ↓dP_T hL ht, ↓reduceIte, ↓kq_bi, ↓kq_let, ↓kq_rz0, ↓kq_rz1, ↓kq_rzB, ↓Option.bind_some, kq_dvn, kt_lt, kf_lt, kt_eq, kf_eq, decide_true, decide_false, eq_self, Bool.false_eq_true, Bool.true_eq_false, not_true_eq_false, not_false_eq_true, jU_eq, jU_ne, jU_U, jV_eq, jV_ne, jV_V, kn_lit, kn_add, kn_mul, kn_sdm, kn_sub, kn_div, kn_nsdm, kn_lt, kn_eq, kn_pred, kn_m1, kn_m1', kn_a31, kn_shl, kn_shr, kn_bit, nB_0, nB_1, nB_t, nB_f, Nat.zero_add, Nat.add_zero, Nat.reduceAdd, Nat.reduceMul, Nat.reduceSub, Nat.reducePow]
        unfold F_SG_read_b17
        exact c_bdA hL
    · show ∃ J, F_Mod_read 205 x1 (jz_I h I) = _ ∧ _
      have hQ := jMM_Q hC hA
      have N0 := jN_0 hQ
      have hQ0 := jN_QM N0 hQ
      have hT0 := hQ0.1.1
      unfold F_Mod_read
      simp (disch := omega) only [m_inX (lo := 0) (hi := 511) (by omega) (by omega) g1, ↓dK_205 hL, ↓dG_205 hL, ↓dP_205 hL, ↓dZ_205 hL (x := nI 0) (Or.inl rfl), ↓dZ_205 hL (x := nI 1) (Or.inr rfl), ↓dZ_205 hL (Or.inl rfl), ↓dZ_205 hL (Or.inr rfl), ↓dZ_205 hL (nB_01 _), ↓dR_205_12 hL, dI_209 hL, dS_209 hL, ↓dR_205_35 hL, dI_691 hL, dS_691 hL, ↓reduceIte, ↓kq_bi, ↓kq_let, ↓kq_rz0, ↓kq_rz1, ↓kq_rzB, ↓Option.bind_some, kq_dvn, kt_lt, kf_lt, kt_eq, kf_eq, decide_true, decide_false, eq_self, Bool.false_eq_true, Bool.true_eq_false, not_true_eq_false, not_false_eq_true, jU_eq, jU_ne, jU_U, jV_eq, jV_ne, jV_V, kn_lit, kn_add, kn_mul, kn_sdm, kn_sub, kn_div, kn_nsdm, kn_lt, kn_eq, kn_pred, kn_m1, kn_m1', kn_a31, kn_shl, kn_shr, kn_bit, nB_0, nB_1, nB_t, nB_f, Nat.zero_add, Nat.add_zero, Nat.reduceAdd, Nat.reduceMul, Nat.reduceSub, Nat.reducePow]
      unfold F_Mod_read_b22
      exact m_bdF hL (f := 1) (i := 1) (by omega) (by omega) (by omega) (fun g => (if_neg (by decide)).trans rfl)
  obtain ⟨a1, l1, h1, rfl⟩ := g1
  exact jDo_q hA (fun t u l m b c h I hL hC => q_id hL hC (c_read hL (jCC_Q hC hA) (show a1 < 512 by omega))) (fun t u l m b c h I hL hC => m_read hL (jMM_Q hC hA) (show a1 < 512 by omega))
theorem x_share (hA : jAG N A) (x1 x2 x3 : Int32) : jDo cdB (fun g => F_SG_share 64 x1 x2 x3 g) (fun g => F_Mod_share 205 x1 x2 x3 g) N A := by
  obtain ⟨τ, ω, r, β, H, E, Tp, p, rf, c0, c1⟩ := A
  have ho : jTOK τ := hA.1
  have o0 : τ 0 0 ≤ 9 := ho.1
  have o1 : τ 0 1 ≤ 6 := ho.2.1
  have o2 : τ 0 2 ≤ 10 := ho.2.2.1
  have o3 : τ 0 3 ≤ 8 := ho.2.2.2.1
  by_cases g1 : jIn x1 (τ 0 0)
  case neg =>
    refine jDo_b (k := 0) (by omega) (by decide) hA (fun t u l m b c h I hL hC => ?_) (fun t u l m b c h I hL hC => ?_)
    · show F_SG_share 64 x1 x2 x3 (jz_I h I) = _
      have hQ := jCC_Q hC hA
      have hT := hQ.1.1
      have ht := jLay_t hL
      unfold F_SG_share
      exact c_bdG hL hQ g1
    · show ∃ J, F_Mod_share 205 x1 x2 x3 (jz_I h I) = _ ∧ _
      have hQ := jMM_Q hC hA
      have N0 := jN_0 hQ
      have hQ0 := jN_QM N0 hQ
      have hT0 := hQ0.1.1
      unfold F_Mod_share
      simp (disch := omega) only [m_gateX hL hT0 ho g1, ↓dK_205 hL, ↓dG_205 hL, ↓dP_205 hL, ↓dZ_205 hL (x := nI 0) (Or.inl rfl), ↓dZ_205 hL (x := nI 1) (Or.inr rfl), ↓dZ_205 hL (Or.inl rfl), ↓dZ_205 hL (Or.inr rfl), ↓dZ_205 hL (nB_01 _), ↓dR_205_12 hL, dI_209 hL, dS_209 hL, ↓dR_205_35 hL, dI_691 hL, dS_691 hL, ↓reduceIte, ↓kq_bi, ↓kq_let, ↓kq_rz0, ↓kq_rz1, ↓kq_rzB, ↓Option.bind_some, kq_dvn, kt_lt, kf_lt, kt_eq, kf_eq, decide_true, decide_false, eq_self, Bool.false_eq_true, Bool.true_eq_false, not_true_eq_false, not_false_eq_true, jU_eq, jU_ne, jU_U, jV_eq, jV_ne, jV_V, kn_lit, kn_add, kn_mul, kn_sdm, kn_sub, kn_div, kn_nsdm, kn_lt, kn_eq, kn_pred, kn_m1, kn_m1', kn_a31, kn_shl, kn_shr, kn_bit, nB_0, nB_1, nB_t, nB_f, Nat.zero_add, Nat.add_zero, Nat.reduceAdd, Nat.reduceMul, Nat.reduceSub, Nat.reducePow]
      unfold F_Mod_share_b19
      exact m_bdF hL (f := 1) (i := 0) (by omega) (by omega) (by omega) (fun g => (if_neg (by decide)).trans rfl)
  obtain ⟨a1, h1, rfl⟩ := g1
  by_cases g2 : jIn x2 (2 ^ τ 0 0)
  case neg =>
    refine jDo_b (k := 1) (by omega) (by decide) hA (fun t u l m b c h I hL hC => ?_) (fun t u l m b c h I hL hC => ?_)
    · show F_SG_share 64 (nI a1) x2 x3 (jz_I h I) = _
      have hQ := jCC_Q hC hA
      have hT := hQ.1.1
      have ht := jLay_t hL
      unfold F_SG_share
      simp (disch := omega) only [c_needGate hL hT ho h1, kq_th, F_SG_share_b28, c_areX hL hQ g2, ↓dK_64 hL, ↓dG_64 hL, ↓dP_64 hL, ↓dR_64_2 hL, ↓dK_85 hL, ↓dG_85 hL, ↓dP_85 hL, ↓dZ_85 hL (x := nI 0) (Or.inl rfl), ↓dZ_85 hL (x := nI 1) (Or.inr rfl), ↓dZ_85 hL (Or.inl rfl), ↓dZ_85 hL (Or.inr rfl), ↓dZ_85 hL (nB_01 _), ↓dK_T hL ht, ↓dG_T hL ht, ↓dP_T hL ht, ↓reduceIte, ↓kq_bi, ↓kq_let, ↓kq_rz0, ↓kq_rz1, ↓kq_rzB, ↓Option.bind_some, kq_dvn, kt_lt, kf_lt, kt_eq, kf_eq, decide_true, decide_false, eq_self, Bool.false_eq_true, Bool.true_eq_false, not_true_eq_false, not_false_eq_true, jU_eq, jU_ne, jU_U, jV_eq, jV_ne, jV_V, kn_lit, kn_add, kn_mul, kn_sdm, kn_sub, kn_div, kn_nsdm, kn_lt, kn_eq, kn_pred, kn_m1, kn_m1', kn_a31, kn_shl, kn_shr, kn_bit, nB_0, nB_1, nB_t, nB_f, Nat.zero_add, Nat.add_zero, Nat.reduceAdd, Nat.reduceMul, Nat.reduceSub, Nat.reducePow]
      unfold F_SG_share_b29
      exact c_bdA hL
    · show ∃ J, F_Mod_share 205 (nI a1) x2 x3 (jz_I h I) = _ ∧ _
      have hQ := jMM_Q hC hA
      have N0 := jN_0 hQ
      have hQ0 := jN_QM N0 hQ
      have hT0 := hQ0.1.1
      unfold F_Mod_share
      simp (disch := omega) only [m_isGate hL hT0 ho h1, ↓dK_205 hL, ↓dG_205 hL, ↓dP_205 hL, ↓dZ_205 hL (x := nI 0) (Or.inl rfl), ↓dZ_205 hL (x := nI 1) (Or.inr rfl), ↓dZ_205 hL (Or.inl rfl), ↓dZ_205 hL (Or.inr rfl), ↓dZ_205 hL (nB_01 _), ↓dR_205_12 hL, dI_209 hL, dS_209 hL, ↓dR_205_35 hL, dI_691 hL, dS_691 hL, ↓reduceIte, ↓kq_bi, ↓kq_let, ↓kq_rz0, ↓kq_rz1, ↓kq_rzB, ↓Option.bind_some, kq_dvn, kt_lt, kf_lt, kt_eq, kf_eq, decide_true, decide_false, eq_self, Bool.false_eq_true, Bool.true_eq_false, not_true_eq_false, not_false_eq_true, jU_eq, jU_ne, jU_U, jV_eq, jV_ne, jV_V, kn_lit, kn_add, kn_mul, kn_sdm, kn_sub, kn_div, kn_nsdm, kn_lt, kn_eq, kn_pred, kn_m1, kn_m1', kn_a31, kn_shl, kn_shr, kn_bit, nB_0, nB_1, nB_t, nB_f, Nat.zero_add, Nat.add_zero, Nat.reduceAdd, Nat.reduceMul, Nat.reduceSub, Nat.reducePow]
      unfold F_Mod_share_b19
      simp (disch := omega) only [m_bad0 hL N0.2.2.2, m_areX hL hT0 ho g2, F_Mod_share_b46, ↓dK_205 hL, ↓dG_205 hL, ↓dP_205 hL, ↓dZ_205 hL (x := nI 0) (Or.inl rfl), ↓dZ_205 hL (x := nI 1) (Or.inr rfl), ↓dZ_205 hL (Or.inl rfl), ↓dZ_205 hL (Or.inr rfl), ↓dZ_205 hL (nB_01 _), ↓dR_205_12 hL, dI_209 hL, dS_209 hL, ↓dR_205_35 hL, dI_691 hL, dS_691 hL, ↓reduceIte, ↓kq_bi, ↓kq_let, ↓kq_rz0, ↓kq_rz1, ↓kq_rzB, ↓Option.bind_some, kq_dvn, kt_lt, kf_lt, kt_eq, kf_eq, decide_true, decide_false, eq_self, Bool.false_eq_true, Bool.true_eq_false, not_true_eq_false, not_false_eq_true, jU_eq, jU_ne, jU_U, jV_eq, jV_ne, jV_V, kn_lit, kn_add, kn_mul, kn_sdm, kn_sub, kn_div, kn_nsdm, kn_lt, kn_eq, kn_pred, kn_m1, kn_m1', kn_a31, kn_shl, kn_shr, kn_bit, nB_0, nB_1, nB_t, nB_f, Nat.zero_add, Nat.add_zero, Nat.reduceAdd, Nat.reduceMul, Nat.reduceSub, Nat.reducePow]
      unfold F_Mod_share_b51
      exact m_bdF hL (f := 2) (i := 1) (by omega) (by omega) (by omega) (fun g => (if_neg (by decide)).trans rfl)
  obtain ⟨a2, h2, rfl⟩ := g2
  by_cases g3 : jRg x3 0 99
  case neg =>
    refine jDo_b (k := 1) (by omega) (by decide) hA (fun t u l m b c h I hL hC => ?_) (fun t u l m b c h I hL hC => ?_)
    · show F_SG_share 64 (nI a1) (nI a2) x3 (jz_I h I) = _
      have hQ := jCC_Q hC hA
      have hT := hQ.1.1
      have ht := jLay_t hL
      unfold F_SG_share
      rcases jRg_no (by omega) (by omega) g3 with e | ⟨e1, e2⟩
      · simp (disch := omega) only [c_needGate hL hT ho h1, kq_th, c_areGates hL hQ h2, F_SG_share_b28, e, ↓dK_64 hL, ↓dG_64 hL, ↓dP_64 hL, ↓dR_64_2 hL, ↓dK_85 hL, ↓dG_85 hL, ↓dP_85 hL, ↓dZ_85 hL (x := nI 0) (Or.inl rfl), ↓dZ_85 hL (x := nI 1) (Or.inr rfl), ↓dZ_85 hL (Or.inl rfl), ↓dZ_85 hL (Or.inr rfl), ↓dZ_85 hL (nB_01 _), ↓dK_T hL ht, ↓dG_T hL ht, ↓dP_T hL ht, ↓reduceIte, ↓kq_bi, ↓kq_let, ↓kq_rz0, ↓kq_rz1, ↓kq_rzB, ↓Option.bind_some, kq_dvn, kt_lt, kf_lt, kt_eq, kf_eq, decide_true, decide_false, eq_self, Bool.false_eq_true, Bool.true_eq_false, not_true_eq_false, not_false_eq_true, jU_eq, jU_ne, jU_U, jV_eq, jV_ne, jV_V, kn_lit, kn_add, kn_mul, kn_sdm, kn_sub, kn_div, kn_nsdm, kn_lt, kn_eq, kn_pred, kn_m1, kn_m1', kn_a31, kn_shl, kn_shr, kn_bit, nB_0, nB_1, nB_t, nB_f, Nat.zero_add, Nat.add_zero, Nat.reduceAdd, Nat.reduceMul, Nat.reduceSub, Nat.reducePow]
        unfold F_SG_share_b29
        exact c_bdA hL
      · simp (disch := omega) only [c_needGate hL hT ho h1, kq_th, c_areGates hL hQ h2, F_SG_share_b28, e1, e2, ↓dK_64 hL, ↓dG_64 hL, ↓dP_64 hL, ↓dR_64_2 hL, ↓dK_85 hL, ↓dG_85 hL, ↓dP_85 hL, ↓dZ_85 hL (x := nI 0) (Or.inl rfl), ↓dZ_85 hL (x := nI 1) (Or.inr rfl), ↓dZ_85 hL (Or.inl rfl), ↓dZ_85 hL (Or.inr rfl), ↓dZ_85 hL (nB_01 _), ↓dK_T hL ht, ↓dG_T hL ht, ↓dP_T hL ht, ↓reduceIte, ↓kq_bi, ↓kq_let, ↓kq_rz0, ↓kq_rz1, ↓kq_rzB, ↓Option.bind_some, kq_dvn, kt_lt, kf_lt, kt_eq, kf_eq, decide_true, decide_false, eq_self, Bool.false_eq_true, Bool.true_eq_false, not_true_eq_false, not_false_eq_true, jU_eq, jU_ne, jU_U, jV_eq, jV_ne, jV_V, kn_lit, kn_add, kn_mul, kn_sdm, kn_sub, kn_div, kn_nsdm, kn_lt, kn_eq, kn_pred, kn_m1, kn_m1', kn_a31, kn_shl, kn_shr, kn_bit, nB_0, nB_1, nB_t, nB_f, Nat.zero_add, Nat.add_zero, Nat.reduceAdd, Nat.reduceMul, Nat.reduceSub, Nat.reducePow]
        unfold F_SG_share_b29
        exact c_bdA hL
    · show ∃ J, F_Mod_share 205 (nI a1) (nI a2) x3 (jz_I h I) = _ ∧ _
      have hQ := jMM_Q hC hA
      have N0 := jN_0 hQ
      have hQ0 := jN_QM N0 hQ
      have hT0 := hQ0.1.1
      unfold F_Mod_share
      simp (disch := omega) only [m_isGate hL hT0 ho h1, ↓dK_205 hL, ↓dG_205 hL, ↓dP_205 hL, ↓dZ_205 hL (x := nI 0) (Or.inl rfl), ↓dZ_205 hL (x := nI 1) (Or.inr rfl), ↓dZ_205 hL (Or.inl rfl), ↓dZ_205 hL (Or.inr rfl), ↓dZ_205 hL (nB_01 _), ↓dR_205_12 hL, dI_209 hL, dS_209 hL, ↓dR_205_35 hL, dI_691 hL, dS_691 hL, ↓reduceIte, ↓kq_bi, ↓kq_let, ↓kq_rz0, ↓kq_rz1, ↓kq_rzB, ↓Option.bind_some, kq_dvn, kt_lt, kf_lt, kt_eq, kf_eq, decide_true, decide_false, eq_self, Bool.false_eq_true, Bool.true_eq_false, not_true_eq_false, not_false_eq_true, jU_eq, jU_ne, jU_U, jV_eq, jV_ne, jV_V, kn_lit, kn_add, kn_mul, kn_sdm, kn_sub, kn_div, kn_nsdm, kn_lt, kn_eq, kn_pred, kn_m1, kn_m1', kn_a31, kn_shl, kn_shr, kn_bit, nB_0, nB_1, nB_t, nB_f, Nat.zero_add, Nat.add_zero, Nat.reduceAdd, Nat.reduceMul, Nat.reduceSub, Nat.reducePow]
      unfold F_Mod_share_b19
      simp (disch := omega) only [m_bad0 hL N0.2.2.2, m_areGates hL hQ0 h2, m_inX (lo := 0) (hi := 99) (by omega) (by omega) g3, F_Mod_share_b46, ↓dK_205 hL, ↓dG_205 hL, ↓dP_205 hL, ↓dZ_205 hL (x := nI 0) (Or.inl rfl), ↓dZ_205 hL (x := nI 1) (Or.inr rfl), ↓dZ_205 hL (Or.inl rfl), ↓dZ_205 hL (Or.inr rfl), ↓dZ_205 hL (nB_01 _), ↓dR_205_12 hL, dI_209 hL, dS_209 hL, ↓dR_205_35 hL, dI_691 hL, dS_691 hL, ↓reduceIte, ↓kq_bi, ↓kq_let, ↓kq_rz0, ↓kq_rz1, ↓kq_rzB, ↓Option.bind_some, kq_dvn, kt_lt, kf_lt, kt_eq, kf_eq, decide_true, decide_false, eq_self, Bool.false_eq_true, Bool.true_eq_false, not_true_eq_false, not_false_eq_true, jU_eq, jU_ne, jU_U, jV_eq, jV_ne, jV_V, kn_lit, kn_add, kn_mul, kn_sdm, kn_sub, kn_div, kn_nsdm, kn_lt, kn_eq, kn_pred, kn_m1, kn_m1', kn_a31, kn_shl, kn_shr, kn_bit, nB_0, nB_1, nB_t, nB_f, Nat.zero_add, Nat.add_zero, Nat.reduceAdd, Nat.reduceMul, Nat.reduceSub, Nat.reducePow]
      unfold F_Mod_share_b51
      exact m_bdF hL (f := 2) (i := 1) (by omega) (by omega) (by omega) (fun g => (if_neg (by decide)).trans rfl)
  obtain ⟨a3, l3, h3, rfl⟩ := g3
  exact jDo_q hA (fun t u l m b c h I hL hC => q_id hL hC (c_share hL (jCC_Q hC hA) h1 h2 h3)) (fun t u l m b c h I hL hC => m_share hL (jMM_Q hC hA) h1 h2 h3)
theorem x_crowd (hA : jAG N A) (x1 : Int32) : jDo cdI (fun g => F_SG_crowd 64 x1 g) (fun g => F_Mod_crowd 205 x1 g) N A := by
  obtain ⟨τ, ω, r, β, H, E, Tp, p, rf, c0, c1⟩ := A
  have ho : jTOK τ := hA.1
  have o0 : τ 0 0 ≤ 9 := ho.1
  have o1 : τ 0 1 ≤ 6 := ho.2.1
  have o2 : τ 0 2 ≤ 10 := ho.2.2.1
  have o3 : τ 0 3 ≤ 8 := ho.2.2.2.1
  by_cases g1 : jBl x1
  case neg =>
    refine jDo_b (k := 1) (by omega) (by decide) hA (fun t u l m b c h I hL hC => ?_) (fun t u l m b c h I hL hC => ?_)
    · show F_SG_crowd 64 x1 (jz_I h I) = _
      have hQ := jCC_Q hC hA
      have hT := hQ.1.1
      have ht := jLay_t hL
      unfold F_SG_crowd
      obtain ⟨e1, e2⟩ := jBl_no g1
      simp (disch := omega) only [e1, e2, ↓dK_64 hL, ↓dG_64 hL, ↓dP_64 hL, ↓dR_64_2 hL, ↓dK_85 hL, ↓dG_85 hL, ↓dP_85 hL, ↓dZ_85 hL (x := nI 0) (Or.inl rfl), ↓dZ_85 hL (x := nI 1) (Or.inr rfl), ↓dZ_85 hL (Or.inl rfl), ↓dZ_85 hL (Or.inr rfl), ↓dZ_85 hL (nB_01 _), ↓dK_T hL ht, ↓dG_T hL ht, ↓dP_T hL ht, ↓reduceIte, ↓kq_bi, ↓kq_let, ↓kq_rz0, ↓kq_rz1, ↓kq_rzB, ↓Option.bind_some, kq_dvn, kt_lt, kf_lt, kt_eq, kf_eq, decide_true, decide_false, eq_self, Bool.false_eq_true, Bool.true_eq_false, not_true_eq_false, not_false_eq_true, jU_eq, jU_ne, jU_U, jV_eq, jV_ne, jV_V, kn_lit, kn_add, kn_mul, kn_sdm, kn_sub, kn_div, kn_nsdm, kn_lt, kn_eq, kn_pred, kn_m1, kn_m1', kn_a31, kn_shl, kn_shr, kn_bit, nB_0, nB_1, nB_t, nB_f, Nat.zero_add, Nat.add_zero, Nat.reduceAdd, Nat.reduceMul, Nat.reduceSub, Nat.reducePow]
      unfold F_SG_crowd_b15
      exact c_bdA hL
    · show ∃ J, F_Mod_crowd 205 x1 (jz_I h I) = _ ∧ _
      have hQ := jMM_Q hC hA
      have N0 := jN_0 hQ
      have hQ0 := jN_QM N0 hQ
      have hT0 := hQ0.1.1
      unfold F_Mod_crowd
      simp (disch := omega) only [m_inX (lo := 0) (hi := 1) (by omega) (by omega) (jBl_rg g1), ↓dK_205 hL, ↓dG_205 hL, ↓dP_205 hL, ↓dZ_205 hL (x := nI 0) (Or.inl rfl), ↓dZ_205 hL (x := nI 1) (Or.inr rfl), ↓dZ_205 hL (Or.inl rfl), ↓dZ_205 hL (Or.inr rfl), ↓dZ_205 hL (nB_01 _), ↓dR_205_12 hL, dI_209 hL, dS_209 hL, ↓dR_205_35 hL, dI_691 hL, dS_691 hL, ↓reduceIte, ↓kq_bi, ↓kq_let, ↓kq_rz0, ↓kq_rz1, ↓kq_rzB, ↓Option.bind_some, kq_dvn, kt_lt, kf_lt, kt_eq, kf_eq, decide_true, decide_false, eq_self, Bool.false_eq_true, Bool.true_eq_false, not_true_eq_false, not_false_eq_true, jU_eq, jU_ne, jU_U, jV_eq, jV_ne, jV_V, kn_lit, kn_add, kn_mul, kn_sdm, kn_sub, kn_div, kn_nsdm, kn_lt, kn_eq, kn_pred, kn_m1, kn_m1', kn_a31, kn_shl, kn_shr, kn_bit, nB_0, nB_1, nB_t, nB_f, Nat.zero_add, Nat.add_zero, Nat.reduceAdd, Nat.reduceMul, Nat.reduceSub, Nat.reducePow]
      unfold F_Mod_crowd_b20
      exact m_bdF hL (f := 1) (i := 1) (by omega) (by omega) (by omega) (fun g => (if_neg (by decide)).trans rfl)
  obtain ⟨a1, rfl⟩ := g1
  exact jDo_q hA (fun t u l m b c h I hL hC => q_c85 hL hC (c_crowd hL (jCC_Q hC hA) a1)) (fun t u l m b c h I hL hC => m_crowd hL (jMM_Q hC hA) a1)
theorem x_turned (hA : jAG N A) (x1 : Int32) : jDo cdI (fun g => F_SG_turned 64 x1 g) (fun g => F_Mod_turned 205 x1 g) N A := by
  obtain ⟨τ, ω, r, β, H, E, Tp, p, rf, c0, c1⟩ := A
  have ho : jTOK τ := hA.1
  have o0 : τ 0 0 ≤ 9 := ho.1
  have o1 : τ 0 1 ≤ 6 := ho.2.1
  have o2 : τ 0 2 ≤ 10 := ho.2.2.1
  have o3 : τ 0 3 ≤ 8 := ho.2.2.2.1
  by_cases g1 : jRg x1 0 96
  case neg =>
    refine jDo_b (k := 1) (by omega) (by decide) hA (fun t u l m b c h I hL hC => ?_) (fun t u l m b c h I hL hC => ?_)
    · show F_SG_turned 64 x1 (jz_I h I) = _
      have hQ := jCC_Q hC hA
      have hT := hQ.1.1
      have ht := jLay_t hL
      unfold F_SG_turned
      rcases jRg_no (by omega) (by omega) g1 with e | ⟨e1, e2⟩
      · simp (disch := omega) only [F_SG_turned_b15, e, ↓dK_64 hL, ↓dG_64 hL, ↓dP_64 hL, ↓dR_64_2 hL, ↓dK_85 hL, ↓dG_85 hL, ↓dP_85 hL, ↓dZ_85 hL (x := nI 0) (Or.inl rfl), ↓dZ_85 hL (x := nI 1) (Or.inr rfl), ↓dZ_85 hL (Or.inl rfl), ↓dZ_85 hL (Or.inr rfl), ↓dZ_85 hL (nB_01 _), ↓dK_T hL ht, ↓dG_T hL ht, ↓dP_T hL ht, ↓reduceIte, ↓kq_bi, ↓kq_let, ↓kq_rz0, ↓kq_rz1, ↓kq_rzB, ↓Option.bind_some, kq_dvn, kt_lt, kf_lt, kt_eq, kf_eq, decide_true, decide_false, eq_self, Bool.false_eq_true, Bool.true_eq_false, not_true_eq_false, not_false_eq_true, jU_eq, jU_ne, jU_U, jV_eq, jV_ne, jV_V, kn_lit, kn_add, kn_mul, kn_sdm, kn_sub, kn_div, kn_nsdm, kn_lt, kn_eq, kn_pred, kn_m1, kn_m1', kn_a31, kn_shl, kn_shr, kn_bit, nB_0, nB_1, nB_t, nB_f, Nat.zero_add, Nat.add_zero, Nat.reduceAdd, Nat.reduceMul, Nat.reduceSub, Nat.reducePow]
        unfold F_SG_turned_b16
        exact c_bdA hL
      · simp (disch := omega) only [F_SG_turned_b15, e1, e2, ↓dK_64 hL, ↓dG_64 hL, ↓dP_64 hL, ↓dR_64_2 hL, ↓dK_85 hL, ↓dG_85 hL, ↓dP_85 hL, ↓dZ_85 hL (x := nI 0) (Or.inl rfl), ↓dZ_85 hL (x := nI 1) (Or.inr rfl), ↓dZ_85 hL (Or.inl rfl), ↓dZ_85 hL (Or.inr rfl), ↓dZ_85 hL (nB_01 _), ↓dK_T hL ht, ↓dG_T hL ht, ↓dP_T hL ht, ↓reduceIte, ↓kq_bi, ↓kq_let, ↓kq_rz0, ↓kq_rz1, ↓kq_rzB, ↓Option.bind_some, kq_dvn, kt_lt, kf_lt, kt_eq, kf_eq, decide_true, decide_false, eq_self, Bool.false_eq_true, Bool.true_eq_false, not_true_eq_false, not_false_eq_true, jU_eq, jU_ne, jU_U, jV_eq, jV_ne, jV_V, kn_lit, kn_add, kn_mul, kn_sdm, kn_sub, kn_div, kn_nsdm, kn_lt, kn_eq, kn_pred, kn_m1, kn_m1', kn_a31, kn_shl, kn_shr, kn_bit, nB_0, nB_1, nB_t, nB_f, Nat.zero_add, Nat.add_zero, Nat.reduceAdd, Nat.reduceMul, Nat.reduceSub, Nat.reducePow]
        unfold F_SG_turned_b16
        exact c_bdA hL
    · show ∃ J, F_Mod_turned 205 x1 (jz_I h I) = _ ∧ _
      have hQ := jMM_Q hC hA
      have N0 := jN_0 hQ
      have hQ0 := jN_QM N0 hQ
      have hT0 := hQ0.1.1
      unfold F_Mod_turned
      simp (disch := omega) only [m_inX (lo := 0) (hi := 96) (by omega) (by omega) g1, ↓dK_205 hL, ↓dG_205 hL, ↓dP_205 hL, ↓dZ_205 hL (x := nI 0) (Or.inl rfl), ↓dZ_205 hL (x := nI 1) (Or.inr rfl), ↓dZ_205 hL (Or.inl rfl), ↓dZ_205 hL (Or.inr rfl), ↓dZ_205 hL (nB_01 _), ↓dR_205_12 hL, dI_209 hL, dS_209 hL, ↓dR_205_35 hL, dI_691 hL, dS_691 hL, ↓reduceIte, ↓kq_bi, ↓kq_let, ↓kq_rz0, ↓kq_rz1, ↓kq_rzB, ↓Option.bind_some, kq_dvn, kt_lt, kf_lt, kt_eq, kf_eq, decide_true, decide_false, eq_self, Bool.false_eq_true, Bool.true_eq_false, not_true_eq_false, not_false_eq_true, jU_eq, jU_ne, jU_U, jV_eq, jV_ne, jV_V, kn_lit, kn_add, kn_mul, kn_sdm, kn_sub, kn_div, kn_nsdm, kn_lt, kn_eq, kn_pred, kn_m1, kn_m1', kn_a31, kn_shl, kn_shr, kn_bit, nB_0, nB_1, nB_t, nB_f, Nat.zero_add, Nat.add_zero, Nat.reduceAdd, Nat.reduceMul, Nat.reduceSub, Nat.reducePow]
      unfold F_Mod_turned_b21
      exact m_bdF hL (f := 1) (i := 1) (by omega) (by omega) (by omega) (fun g => (if_neg (by decide)).trans rfl)
  obtain ⟨a1, l1, h1, rfl⟩ := g1
  exact jDo_q hA (fun t u l m b c h I hL hC => q_c90 hL hC (c_turned hL (jCC_Q hC hA) hA.2.2.1.2.1 h1)) (fun t u l m b c h I hL hC => m_turned hL (jMM_Q hC hA) h1)
theorem x_thickest (hA : jAG N A) (x1 : Int32) : jDo cdI (fun g => F_SG_thickest 64 x1 g) (fun g => F_Mod_thickest 205 x1 g) N A := by
  obtain ⟨τ, ω, r, β, H, E, Tp, p, rf, c0, c1⟩ := A
  have ho : jTOK τ := hA.1
  have o0 : τ 0 0 ≤ 9 := ho.1
  have o1 : τ 0 1 ≤ 6 := ho.2.1
  have o2 : τ 0 2 ≤ 10 := ho.2.2.1
  have o3 : τ 0 3 ≤ 8 := ho.2.2.2.1
  by_cases g1 : jBl x1
  case neg =>
    refine jDo_b (k := 1) (by omega) (by decide) hA (fun t u l m b c h I hL hC => ?_) (fun t u l m b c h I hL hC => ?_)
    · show F_SG_thickest 64 x1 (jz_I h I) = _
      have hQ := jCC_Q hC hA
      have hT := hQ.1.1
      have ht := jLay_t hL
      unfold F_SG_thickest
      obtain ⟨e1, e2⟩ := jBl_no g1
      simp (disch := omega) only [e1, e2, ↓dK_64 hL, ↓dG_64 hL, ↓dP_64 hL, ↓dR_64_2 hL, ↓dK_85 hL, ↓dG_85 hL, ↓dP_85 hL, ↓dZ_85 hL (x := nI 0) (Or.inl rfl), ↓dZ_85 hL (x := nI 1) (Or.inr rfl), ↓dZ_85 hL (Or.inl rfl), ↓dZ_85 hL (Or.inr rfl), ↓dZ_85 hL (nB_01 _), ↓dK_T hL ht, ↓dG_T hL ht, ↓dP_T hL ht, ↓reduceIte, ↓kq_bi, ↓kq_let, ↓kq_rz0, ↓kq_rz1, ↓kq_rzB, ↓Option.bind_some, kq_dvn, kt_lt, kf_lt, kt_eq, kf_eq, decide_true, decide_false, eq_self, Bool.false_eq_true, Bool.true_eq_false, not_true_eq_false, not_false_eq_true, jU_eq, jU_ne, jU_U, jV_eq, jV_ne, jV_V, kn_lit, kn_add, kn_mul, kn_sdm, kn_sub, kn_div, kn_nsdm, kn_lt, kn_eq, kn_pred, kn_m1, kn_m1', kn_a31, kn_shl, kn_shr, kn_bit, nB_0, nB_1, nB_t, nB_f, Nat.zero_add, Nat.add_zero, Nat.reduceAdd, Nat.reduceMul, Nat.reduceSub, Nat.reducePow]
      unfold F_SG_thickest_b15
      exact c_bdA hL
    · show ∃ J, F_Mod_thickest 205 x1 (jz_I h I) = _ ∧ _
      have hQ := jMM_Q hC hA
      have N0 := jN_0 hQ
      have hQ0 := jN_QM N0 hQ
      have hT0 := hQ0.1.1
      unfold F_Mod_thickest
      simp (disch := omega) only [m_inX (lo := 0) (hi := 1) (by omega) (by omega) (jBl_rg g1), ↓dK_205 hL, ↓dG_205 hL, ↓dP_205 hL, ↓dZ_205 hL (x := nI 0) (Or.inl rfl), ↓dZ_205 hL (x := nI 1) (Or.inr rfl), ↓dZ_205 hL (Or.inl rfl), ↓dZ_205 hL (Or.inr rfl), ↓dZ_205 hL (nB_01 _), ↓dR_205_12 hL, dI_209 hL, dS_209 hL, ↓dR_205_35 hL, dI_691 hL, dS_691 hL, ↓reduceIte, ↓kq_bi, ↓kq_let, ↓kq_rz0, ↓kq_rz1, ↓kq_rzB, ↓Option.bind_some, kq_dvn, kt_lt, kf_lt, kt_eq, kf_eq, decide_true, decide_false, eq_self, Bool.false_eq_true, Bool.true_eq_false, not_true_eq_false, not_false_eq_true, jU_eq, jU_ne, jU_U, jV_eq, jV_ne, jV_V, kn_lit, kn_add, kn_mul, kn_sdm, kn_sub, kn_div, kn_nsdm, kn_lt, kn_eq, kn_pred, kn_m1, kn_m1', kn_a31, kn_shl, kn_shr, kn_bit, nB_0, nB_1, nB_t, nB_f, Nat.zero_add, Nat.add_zero, Nat.reduceAdd, Nat.reduceMul, Nat.reduceSub, Nat.reducePow]
      unfold F_Mod_thickest_b20
      exact m_bdF hL (f := 1) (i := 1) (by omega) (by omega) (by omega) (fun g => (if_neg (by decide)).trans rfl)
  obtain ⟨a1, rfl⟩ := g1
  exact jDo_q hA (fun t u l m b c h I hL hC => q_c90 hL hC (c_thickest hL (jCC_Q hC hA) a1)) (fun t u l m b c h I hL hC => m_thickest hL (jMM_Q hC hA) a1)
theorem x_ahead (hA : jAG N A) (x1 x2 : Int32) : jDo cdI (fun g => F_SG_ahead 64 x1 x2 g) (fun g => F_Mod_ahead 205 x1 x2 g) N A := by
  obtain ⟨τ, ω, r, β, H, E, Tp, p, rf, c0, c1⟩ := A
  have ho : jTOK τ := hA.1
  have o0 : τ 0 0 ≤ 9 := ho.1
  have o1 : τ 0 1 ≤ 6 := ho.2.1
  have o2 : τ 0 2 ≤ 10 := ho.2.2.1
  have o3 : τ 0 3 ≤ 8 := ho.2.2.2.1
  by_cases g1 : jRg x1 0 96
  case neg =>
    refine jDo_b (k := 1) (by omega) (by decide) hA (fun t u l m b c h I hL hC => ?_) (fun t u l m b c h I hL hC => ?_)
    · show F_SG_ahead 64 x1 x2 (jz_I h I) = _
      have hQ := jCC_Q hC hA
      have hT := hQ.1.1
      have ht := jLay_t hL
      unfold F_SG_ahead
      rcases jRg_no (by omega) (by omega) g1 with e | ⟨e1, e2⟩
      · simp (disch := omega) only [F_SG_ahead_b24, e, ↓dK_64 hL, ↓dG_64 hL, ↓dP_64 hL, ↓dR_64_2 hL, ↓dK_85 hL, ↓dG_85 hL, ↓dP_85 hL, ↓dZ_85 hL (x := nI 0) (Or.inl rfl), ↓dZ_85 hL (x := nI 1) (Or.inr rfl), ↓dZ_85 hL (Or.inl rfl), ↓dZ_85 hL (Or.inr rfl), ↓dZ_85 hL (nB_01 _), ↓dK_T hL ht, ↓dG_T hL ht, ↓dP_T hL ht, ↓reduceIte, ↓kq_bi, ↓kq_let, ↓kq_rz0, ↓kq_rz1, ↓kq_rzB, ↓Option.bind_some, kq_dvn, kt_lt, kf_lt, kt_eq, kf_eq, decide_true, decide_false, eq_self, Bool.false_eq_true, Bool.true_eq_false, not_true_eq_false, not_false_eq_true, jU_eq, jU_ne, jU_U, jV_eq, jV_ne, jV_V, kn_lit, kn_add, kn_mul, kn_sdm, kn_sub, kn_div, kn_nsdm, kn_lt, kn_eq, kn_pred, kn_m1, kn_m1', kn_a31, kn_shl, kn_shr, kn_bit, nB_0, nB_1, nB_t, nB_f, Nat.zero_add, Nat.add_zero, Nat.reduceAdd, Nat.reduceMul, Nat.reduceSub, Nat.reducePow]
        unfold F_SG_ahead_b25
        exact c_bdA hL
      · simp (disch := omega) only [F_SG_ahead_b24, e1, e2, ↓dK_64 hL, ↓dG_64 hL, ↓dP_64 hL, ↓dR_64_2 hL, ↓dK_85 hL, ↓dG_85 hL, ↓dP_85 hL, ↓dZ_85 hL (x := nI 0) (Or.inl rfl), ↓dZ_85 hL (x := nI 1) (Or.inr rfl), ↓dZ_85 hL (Or.inl rfl), ↓dZ_85 hL (Or.inr rfl), ↓dZ_85 hL (nB_01 _), ↓dK_T hL ht, ↓dG_T hL ht, ↓dP_T hL ht, ↓reduceIte, ↓kq_bi, ↓kq_let, ↓kq_rz0, ↓kq_rz1, ↓kq_rzB, ↓Option.bind_some, kq_dvn, kt_lt, kf_lt, kt_eq, kf_eq, decide_true, decide_false, eq_self, Bool.false_eq_true, Bool.true_eq_false, not_true_eq_false, not_false_eq_true, jU_eq, jU_ne, jU_U, jV_eq, jV_ne, jV_V, kn_lit, kn_add, kn_mul, kn_sdm, kn_sub, kn_div, kn_nsdm, kn_lt, kn_eq, kn_pred, kn_m1, kn_m1', kn_a31, kn_shl, kn_shr, kn_bit, nB_0, nB_1, nB_t, nB_f, Nat.zero_add, Nat.add_zero, Nat.reduceAdd, Nat.reduceMul, Nat.reduceSub, Nat.reducePow]
        unfold F_SG_ahead_b25
        exact c_bdA hL
    · show ∃ J, F_Mod_ahead 205 x1 x2 (jz_I h I) = _ ∧ _
      have hQ := jMM_Q hC hA
      have N0 := jN_0 hQ
      have hQ0 := jN_QM N0 hQ
      have hT0 := hQ0.1.1
      unfold F_Mod_ahead
      simp (disch := omega) only [m_inX (lo := 0) (hi := 96) (by omega) (by omega) g1, F_Mod_ahead_b25, ↓dK_205 hL, ↓dG_205 hL, ↓dP_205 hL, ↓dZ_205 hL (x := nI 0) (Or.inl rfl), ↓dZ_205 hL (x := nI 1) (Or.inr rfl), ↓dZ_205 hL (Or.inl rfl), ↓dZ_205 hL (Or.inr rfl), ↓dZ_205 hL (nB_01 _), ↓dR_205_12 hL, dI_209 hL, dS_209 hL, ↓dR_205_35 hL, dI_691 hL, dS_691 hL, ↓reduceIte, ↓kq_bi, ↓kq_let, ↓kq_rz0, ↓kq_rz1, ↓kq_rzB, ↓Option.bind_some, kq_dvn, kt_lt, kf_lt, kt_eq, kf_eq, decide_true, decide_false, eq_self, Bool.false_eq_true, Bool.true_eq_false, not_true_eq_false, not_false_eq_true, jU_eq, jU_ne, jU_U, jV_eq, jV_ne, jV_V, kn_lit, kn_add, kn_mul, kn_sdm, kn_sub, kn_div, kn_nsdm, kn_lt, kn_eq, kn_pred, kn_m1, kn_m1', kn_a31, kn_shl, kn_shr, kn_bit, nB_0, nB_1, nB_t, nB_f, Nat.zero_add, Nat.add_zero, Nat.reduceAdd, Nat.reduceMul, Nat.reduceSub, Nat.reducePow]
      unfold F_Mod_ahead_b30
      exact m_bdF hL (f := 1) (i := 1) (by omega) (by omega) (by omega) (fun g => (if_neg (by decide)).trans rfl)
  obtain ⟨a1, l1, h1, rfl⟩ := g1
  by_cases g2 : jRg x2 0 2
  case neg =>
    refine jDo_b (k := 1) (by omega) (by decide) hA (fun t u l m b c h I hL hC => ?_) (fun t u l m b c h I hL hC => ?_)
    · show F_SG_ahead 64 (nI a1) x2 (jz_I h I) = _
      have hQ := jCC_Q hC hA
      have hT := hQ.1.1
      have ht := jLay_t hL
      unfold F_SG_ahead
      rcases jRg_no (by omega) (by omega) g2 with e | ⟨e1, e2⟩
      · simp (disch := omega) only [F_SG_ahead_b24, e, ↓dK_64 hL, ↓dG_64 hL, ↓dP_64 hL, ↓dR_64_2 hL, ↓dK_85 hL, ↓dG_85 hL, ↓dP_85 hL, ↓dZ_85 hL (x := nI 0) (Or.inl rfl), ↓dZ_85 hL (x := nI 1) (Or.inr rfl), ↓dZ_85 hL (Or.inl rfl), ↓dZ_85 hL (Or.inr rfl), ↓dZ_85 hL (nB_01 _), ↓dK_T hL ht, ↓dG_T hL ht, ↓dP_T hL ht, ↓reduceIte, ↓kq_bi, ↓kq_let, ↓kq_rz0, ↓kq_rz1, ↓kq_rzB, ↓Option.bind_some, kq_dvn, kt_lt, kf_lt, kt_eq, kf_eq, decide_true, decide_false, eq_self, Bool.false_eq_true, Bool.true_eq_false, not_true_eq_false, not_false_eq_true, jU_eq, jU_ne, jU_U, jV_eq, jV_ne, jV_V, kn_lit, kn_add, kn_mul, kn_sdm, kn_sub, kn_div, kn_nsdm, kn_lt, kn_eq, kn_pred, kn_m1, kn_m1', kn_a31, kn_shl, kn_shr, kn_bit, nB_0, nB_1, nB_t, nB_f, Nat.zero_add, Nat.add_zero, Nat.reduceAdd, Nat.reduceMul, Nat.reduceSub, Nat.reducePow]
        unfold F_SG_ahead_b25
        exact c_bdA hL
      · simp (disch := omega) only [F_SG_ahead_b24, e1, e2, ↓dK_64 hL, ↓dG_64 hL, ↓dP_64 hL, ↓dR_64_2 hL, ↓dK_85 hL, ↓dG_85 hL, ↓dP_85 hL, ↓dZ_85 hL (x := nI 0) (Or.inl rfl), ↓dZ_85 hL (x := nI 1) (Or.inr rfl), ↓dZ_85 hL (Or.inl rfl), ↓dZ_85 hL (Or.inr rfl), ↓dZ_85 hL (nB_01 _), ↓dK_T hL ht, ↓dG_T hL ht, ↓dP_T hL ht, ↓reduceIte, ↓kq_bi, ↓kq_let, ↓kq_rz0, ↓kq_rz1, ↓kq_rzB, ↓Option.bind_some, kq_dvn, kt_lt, kf_lt, kt_eq, kf_eq, decide_true, decide_false, eq_self, Bool.false_eq_true, Bool.true_eq_false, not_true_eq_false, not_false_eq_true, jU_eq, jU_ne, jU_U, jV_eq, jV_ne, jV_V, kn_lit, kn_add, kn_mul, kn_sdm, kn_sub, kn_div, kn_nsdm, kn_lt, kn_eq, kn_pred, kn_m1, kn_m1', kn_a31, kn_shl, kn_shr, kn_bit, nB_0, nB_1, nB_t, nB_f, Nat.zero_add, Nat.add_zero, Nat.reduceAdd, Nat.reduceMul, Nat.reduceSub, Nat.reducePow]
        unfold F_SG_ahead_b25
        exact c_bdA hL
    · show ∃ J, F_Mod_ahead 205 (nI a1) x2 (jz_I h I) = _ ∧ _
      have hQ := jMM_Q hC hA
      have N0 := jN_0 hQ
      have hQ0 := jN_QM N0 hQ
      have hT0 := hQ0.1.1
      unfold F_Mod_ahead
      simp (disch := omega) only [m_in1, m_inX (lo := 0) (hi := 2) (by omega) (by omega) g2, F_Mod_ahead_b25, ↓dK_205 hL, ↓dG_205 hL, ↓dP_205 hL, ↓dZ_205 hL (x := nI 0) (Or.inl rfl), ↓dZ_205 hL (x := nI 1) (Or.inr rfl), ↓dZ_205 hL (Or.inl rfl), ↓dZ_205 hL (Or.inr rfl), ↓dZ_205 hL (nB_01 _), ↓dR_205_12 hL, dI_209 hL, dS_209 hL, ↓dR_205_35 hL, dI_691 hL, dS_691 hL, ↓reduceIte, ↓kq_bi, ↓kq_let, ↓kq_rz0, ↓kq_rz1, ↓kq_rzB, ↓Option.bind_some, kq_dvn, kt_lt, kf_lt, kt_eq, kf_eq, decide_true, decide_false, eq_self, Bool.false_eq_true, Bool.true_eq_false, not_true_eq_false, not_false_eq_true, jU_eq, jU_ne, jU_U, jV_eq, jV_ne, jV_V, kn_lit, kn_add, kn_mul, kn_sdm, kn_sub, kn_div, kn_nsdm, kn_lt, kn_eq, kn_pred, kn_m1, kn_m1', kn_a31, kn_shl, kn_shr, kn_bit, nB_0, nB_1, nB_t, nB_f, Nat.zero_add, Nat.add_zero, Nat.reduceAdd, Nat.reduceMul, Nat.reduceSub, Nat.reducePow]
      unfold F_Mod_ahead_b30
      exact m_bdF hL (f := 1) (i := 1) (by omega) (by omega) (by omega) (fun g => (if_neg (by decide)).trans rfl)
  obtain ⟨a2, l2, h2, rfl⟩ := g2
  exact jDo_q hA (fun t u l m b c h I hL hC => q_c90 hL hC (c_ahead hL (jCC_Q hC hA) h1 h2)) (fun t u l m b c h I hL hC => m_ahead hL (jMM_Q hC hA) h1 h2)
theorem x_days (hA : jAG N A) (x1 x2 x3 x4 : Int32) : jDo cdI (fun g => F_SG_days 64 x1 x2 x3 x4 g) (fun g => F_Mod_days 205 x1 x2 x3 x4 g) N A := by
  obtain ⟨τ, ω, r, β, H, E, Tp, p, rf, c0, c1⟩ := A
  have ho : jTOK τ := hA.1
  have o0 : τ 0 0 ≤ 9 := ho.1
  have o1 : τ 0 1 ≤ 6 := ho.2.1
  have o2 : τ 0 2 ≤ 10 := ho.2.2.1
  have o3 : τ 0 3 ≤ 8 := ho.2.2.2.1
  by_cases g2 : jRg x2 0 16
  case neg =>
    refine jDo_b (k := 1) (by omega) (by decide) hA (fun t u l m b c h I hL hC => ?_) (fun t u l m b c h I hL hC => ?_)
    · show F_SG_days 64 x1 x2 x3 x4 (jz_I h I) = _
      have hQ := jCC_Q hC hA
      have hT := hQ.1.1
      have ht := jLay_t hL
      unfold F_SG_days
      rcases jRg_no (by omega) (by omega) g2 with e | ⟨e1, e2⟩
      · simp (disch := omega) only [F_SG_days_b37, e, ↓dK_64 hL, ↓dG_64 hL, ↓dP_64 hL, ↓dR_64_2 hL, ↓dK_85 hL, ↓dG_85 hL, ↓dP_85 hL, ↓dZ_85 hL (x := nI 0) (Or.inl rfl), ↓dZ_85 hL (x := nI 1) (Or.inr rfl), ↓dZ_85 hL (Or.inl rfl), ↓dZ_85 hL (Or.inr rfl), ↓dZ_85 hL (nB_01 _), ↓dK_T hL ht, ↓dG_T hL ht, ↓dP_T hL ht, ↓reduceIte, ↓kq_bi, ↓kq_let, ↓kq_rz0, ↓kq_rz1, ↓kq_rzB, ↓Option.bind_some, kq_dvn, kt_lt, kf_lt, kt_eq, kf_eq, decide_true, decide_false, eq_self, Bool.false_eq_true, Bool.true_eq_false, not_true_eq_false, not_false_eq_true, jU_eq, jU_ne, jU_U, jV_eq, jV_ne, jV_V, kn_lit, kn_add, kn_mul, kn_sdm, kn_sub, kn_div, kn_nsdm, kn_lt, kn_eq, kn_pred, kn_m1, kn_m1', kn_a31, kn_shl, kn_shr, kn_bit, nB_0, nB_1, nB_t, nB_f, Nat.zero_add, Nat.add_zero, Nat.reduceAdd, Nat.reduceMul, Nat.reduceSub, Nat.reducePow]
        unfold F_SG_days_b38
        exact c_bdA hL
      · simp (disch := omega) only [F_SG_days_b37, e1, e2, ↓dK_64 hL, ↓dG_64 hL, ↓dP_64 hL, ↓dR_64_2 hL, ↓dK_85 hL, ↓dG_85 hL, ↓dP_85 hL, ↓dZ_85 hL (x := nI 0) (Or.inl rfl), ↓dZ_85 hL (x := nI 1) (Or.inr rfl), ↓dZ_85 hL (Or.inl rfl), ↓dZ_85 hL (Or.inr rfl), ↓dZ_85 hL (nB_01 _), ↓dK_T hL ht, ↓dG_T hL ht, ↓dP_T hL ht, ↓reduceIte, ↓kq_bi, ↓kq_let, ↓kq_rz0, ↓kq_rz1, ↓kq_rzB, ↓Option.bind_some, kq_dvn, kt_lt, kf_lt, kt_eq, kf_eq, decide_true, decide_false, eq_self, Bool.false_eq_true, Bool.true_eq_false, not_true_eq_false, not_false_eq_true, jU_eq, jU_ne, jU_U, jV_eq, jV_ne, jV_V, kn_lit, kn_add, kn_mul, kn_sdm, kn_sub, kn_div, kn_nsdm, kn_lt, kn_eq, kn_pred, kn_m1, kn_m1', kn_a31, kn_shl, kn_shr, kn_bit, nB_0, nB_1, nB_t, nB_f, Nat.zero_add, Nat.add_zero, Nat.reduceAdd, Nat.reduceMul, Nat.reduceSub, Nat.reducePow]
        unfold F_SG_days_b38
        exact c_bdA hL
    · show ∃ J, F_Mod_days 205 x1 x2 x3 x4 (jz_I h I) = _ ∧ _
      have hQ := jMM_Q hC hA
      have N0 := jN_0 hQ
      have hQ0 := jN_QM N0 hQ
      have hT0 := hQ0.1.1
      unfold F_Mod_days
      simp (disch := omega) only [m_daysX1 g2, F_Mod_days_b24, ↓dK_205 hL, ↓dG_205 hL, ↓dP_205 hL, ↓dZ_205 hL (x := nI 0) (Or.inl rfl), ↓dZ_205 hL (x := nI 1) (Or.inr rfl), ↓dZ_205 hL (Or.inl rfl), ↓dZ_205 hL (Or.inr rfl), ↓dZ_205 hL (nB_01 _), ↓dR_205_12 hL, dI_209 hL, dS_209 hL, ↓dR_205_35 hL, dI_691 hL, dS_691 hL, ↓reduceIte, ↓kq_bi, ↓kq_let, ↓kq_rz0, ↓kq_rz1, ↓kq_rzB, ↓Option.bind_some, kq_dvn, kt_lt, kf_lt, kt_eq, kf_eq, decide_true, decide_false, eq_self, Bool.false_eq_true, Bool.true_eq_false, not_true_eq_false, not_false_eq_true, jU_eq, jU_ne, jU_U, jV_eq, jV_ne, jV_V, kn_lit, kn_add, kn_mul, kn_sdm, kn_sub, kn_div, kn_nsdm, kn_lt, kn_eq, kn_pred, kn_m1, kn_m1', kn_a31, kn_shl, kn_shr, kn_bit, nB_0, nB_1, nB_t, nB_f, Nat.zero_add, Nat.add_zero, Nat.reduceAdd, Nat.reduceMul, Nat.reduceSub, Nat.reducePow]
      unfold F_Mod_days_b29
      exact m_bdF hL (f := 1) (i := 1) (by omega) (by omega) (by omega) (fun g => (if_neg (by decide)).trans rfl)
  obtain ⟨a2, l2, h2, rfl⟩ := g2
  by_cases g3 : jRg x3 1 96
  case neg =>
    refine jDo_b (k := 1) (by omega) (by decide) hA (fun t u l m b c h I hL hC => ?_) (fun t u l m b c h I hL hC => ?_)
    · show F_SG_days 64 x1 (nI a2) x3 x4 (jz_I h I) = _
      have hQ := jCC_Q hC hA
      have hT := hQ.1.1
      have ht := jLay_t hL
      unfold F_SG_days
      rcases jRg_no (by omega) (by omega) g3 with e | ⟨e1, e2⟩
      · simp (disch := omega) only [F_SG_days_b37, e, ↓dK_64 hL, ↓dG_64 hL, ↓dP_64 hL, ↓dR_64_2 hL, ↓dK_85 hL, ↓dG_85 hL, ↓dP_85 hL, ↓dZ_85 hL (x := nI 0) (Or.inl rfl), ↓dZ_85 hL (x := nI 1) (Or.inr rfl), ↓dZ_85 hL (Or.inl rfl), ↓dZ_85 hL (Or.inr rfl), ↓dZ_85 hL (nB_01 _), ↓dK_T hL ht, ↓dG_T hL ht, ↓dP_T hL ht, ↓reduceIte, ↓kq_bi, ↓kq_let, ↓kq_rz0, ↓kq_rz1, ↓kq_rzB, ↓Option.bind_some, kq_dvn, kt_lt, kf_lt, kt_eq, kf_eq, decide_true, decide_false, eq_self, Bool.false_eq_true, Bool.true_eq_false, not_true_eq_false, not_false_eq_true, jU_eq, jU_ne, jU_U, jV_eq, jV_ne, jV_V, kn_lit, kn_add, kn_mul, kn_sdm, kn_sub, kn_div, kn_nsdm, kn_lt, kn_eq, kn_pred, kn_m1, kn_m1', kn_a31, kn_shl, kn_shr, kn_bit, nB_0, nB_1, nB_t, nB_f, Nat.zero_add, Nat.add_zero, Nat.reduceAdd, Nat.reduceMul, Nat.reduceSub, Nat.reducePow]
        unfold F_SG_days_b38
        exact c_bdA hL
      · simp (disch := omega) only [F_SG_days_b37, e1, e2, ↓dK_64 hL, ↓dG_64 hL, ↓dP_64 hL, ↓dR_64_2 hL, ↓dK_85 hL, ↓dG_85 hL, ↓dP_85 hL, ↓dZ_85 hL (x := nI 0) (Or.inl rfl), ↓dZ_85 hL (x := nI 1) (Or.inr rfl), ↓dZ_85 hL (Or.inl rfl), ↓dZ_85 hL (Or.inr rfl), ↓dZ_85 hL (nB_01 _), ↓dK_T hL ht, ↓dG_T hL ht, ↓dP_T hL ht, ↓reduceIte, ↓kq_bi, ↓kq_let, ↓kq_rz0, ↓kq_rz1, ↓kq_rzB, ↓Option.bind_some, kq_dvn, kt_lt, kf_lt, kt_eq, kf_eq, decide_true, decide_false, eq_self, Bool.false_eq_true, Bool.true_eq_false, not_true_eq_false, not_false_eq_true, jU_eq, jU_ne, jU_U, jV_eq, jV_ne, jV_V, kn_lit, kn_add, kn_mul, kn_sdm, kn_sub, kn_div, kn_nsdm, kn_lt, kn_eq, kn_pred, kn_m1, kn_m1', kn_a31, kn_shl, kn_shr, kn_bit, nB_0, nB_1, nB_t, nB_f, Nat.zero_add, Nat.add_zero, Nat.reduceAdd, Nat.reduceMul, Nat.reduceSub, Nat.reducePow]
        unfold F_SG_days_b38
        exact c_bdA hL
    · show ∃ J, F_Mod_days 205 x1 (nI a2) x3 x4 (jz_I h I) = _ ∧ _
      have hQ := jMM_Q hC hA
      have N0 := jN_0 hQ
      have hQ0 := jN_QM N0 hQ
      have hT0 := hQ0.1.1
      unfold F_Mod_days
      simp (disch := omega) only [m_daysX2 h2 g3, F_Mod_days_b24, ↓dK_205 hL, ↓dG_205 hL, ↓dP_205 hL, ↓dZ_205 hL (x := nI 0) (Or.inl rfl), ↓dZ_205 hL (x := nI 1) (Or.inr rfl), ↓dZ_205 hL (Or.inl rfl), ↓dZ_205 hL (Or.inr rfl), ↓dZ_205 hL (nB_01 _), ↓dR_205_12 hL, dI_209 hL, dS_209 hL, ↓dR_205_35 hL, dI_691 hL, dS_691 hL, ↓reduceIte, ↓kq_bi, ↓kq_let, ↓kq_rz0, ↓kq_rz1, ↓kq_rzB, ↓Option.bind_some, kq_dvn, kt_lt, kf_lt, kt_eq, kf_eq, decide_true, decide_false, eq_self, Bool.false_eq_true, Bool.true_eq_false, not_true_eq_false, not_false_eq_true, jU_eq, jU_ne, jU_U, jV_eq, jV_ne, jV_V, kn_lit, kn_add, kn_mul, kn_sdm, kn_sub, kn_div, kn_nsdm, kn_lt, kn_eq, kn_pred, kn_m1, kn_m1', kn_a31, kn_shl, kn_shr, kn_bit, nB_0, nB_1, nB_t, nB_f, Nat.zero_add, Nat.add_zero, Nat.reduceAdd, Nat.reduceMul, Nat.reduceSub, Nat.reducePow]
      unfold F_Mod_days_b29
      exact m_bdF hL (f := 1) (i := 1) (by omega) (by omega) (by omega) (fun g => (if_neg (by decide)).trans rfl)
  obtain ⟨a3, l3, h3, rfl⟩ := g3
  by_cases g4 : jRg x4 0 3
  case neg =>
    refine jDo_b (k := 1) (by omega) (by decide) hA (fun t u l m b c h I hL hC => ?_) (fun t u l m b c h I hL hC => ?_)
    · show F_SG_days 64 x1 (nI a2) (nI a3) x4 (jz_I h I) = _
      have hQ := jCC_Q hC hA
      have hT := hQ.1.1
      have ht := jLay_t hL
      unfold F_SG_days
      rcases jRg_no (by omega) (by omega) g4 with e | ⟨e1, e2⟩
      · simp (disch := omega) only [F_SG_days_b37, e, ↓dK_64 hL, ↓dG_64 hL, ↓dP_64 hL, ↓dR_64_2 hL, ↓dK_85 hL, ↓dG_85 hL, ↓dP_85 hL, ↓dZ_85 hL (x := nI 0) (Or.inl rfl), ↓dZ_85 hL (x := nI 1) (Or.inr rfl), ↓dZ_85 hL (Or.inl rfl), ↓dZ_85 hL (Or.inr rfl), ↓dZ_85 hL (nB_01 _), ↓dK_T hL ht, ↓dG_T hL ht, ↓dP_T hL ht, ↓reduceIte, ↓kq_bi, ↓kq_let, ↓kq_rz0, ↓kq_rz1, ↓kq_rzB, ↓Option.bind_some, kq_dvn, kt_lt, kf_lt, kt_eq, kf_eq, decide_true, decide_false, eq_self, Bool.false_eq_true, Bool.true_eq_false, not_true_eq_false, not_false_eq_true, jU_eq, jU_ne, jU_U, jV_eq, jV_ne, jV_V, kn_lit, kn_add, kn_mul, kn_sdm, kn_sub, kn_div, kn_nsdm, kn_lt, kn_eq, kn_pred, kn_m1, kn_m1', kn_a31, kn_shl, kn_shr, kn_bit, nB_0, nB_1, nB_t, nB_f, Nat.zero_add, Nat.add_zero, Nat.reduceAdd, Nat.reduceMul, Nat.reduceSub, Nat.reducePow]
        unfold F_SG_days_b38
        exact c_bdA hL
      · simp (disch := omega) only [F_SG_days_b37, e1, e2, ↓dK_64 hL, ↓dG_64 hL, ↓dP_64 hL, ↓dR_64_2 hL, ↓dK_85 hL, ↓dG_85 hL, ↓dP_85 hL, ↓dZ_85 hL (x := nI 0) (Or.inl rfl), ↓dZ_85 hL (x := nI 1) (Or.inr rfl), ↓dZ_85 hL (Or.inl rfl), ↓dZ_85 hL (Or.inr rfl), ↓dZ_85 hL (nB_01 _), ↓dK_T hL ht, ↓dG_T hL ht, ↓dP_T hL ht, ↓reduceIte, ↓kq_bi, ↓kq_let, ↓kq_rz0, ↓kq_rz1, ↓kq_rzB, ↓Option.bind_some, kq_dvn, kt_lt, kf_lt, kt_eq, kf_eq, decide_true, decide_false, eq_self, Bool.false_eq_true, Bool.true_eq_false, not_true_eq_false, not_false_eq_true, jU_eq, jU_ne, jU_U, jV_eq, jV_ne, jV_V, kn_lit, kn_add, kn_mul, kn_sdm, kn_sub, kn_div, kn_nsdm, kn_lt, kn_eq, kn_pred, kn_m1, kn_m1', kn_a31, kn_shl, kn_shr, kn_bit, nB_0, nB_1, nB_t, nB_f, Nat.zero_add, Nat.add_zero, Nat.reduceAdd, Nat.reduceMul, Nat.reduceSub, Nat.reducePow]
        unfold F_SG_days_b38
        exact c_bdA hL
    · show ∃ J, F_Mod_days 205 x1 (nI a2) (nI a3) x4 (jz_I h I) = _ ∧ _
      have hQ := jMM_Q hC hA
      have N0 := jN_0 hQ
      have hQ0 := jN_QM N0 hQ
      have hT0 := hQ0.1.1
      unfold F_Mod_days
      simp (disch := omega) only [m_areDays h2 l3 h3, m_inX (lo := 0) (hi := 3) (by omega) (by omega) g4, F_Mod_days_b24, ↓dK_205 hL, ↓dG_205 hL, ↓dP_205 hL, ↓dZ_205 hL (x := nI 0) (Or.inl rfl), ↓dZ_205 hL (x := nI 1) (Or.inr rfl), ↓dZ_205 hL (Or.inl rfl), ↓dZ_205 hL (Or.inr rfl), ↓dZ_205 hL (nB_01 _), ↓dR_205_12 hL, dI_209 hL, dS_209 hL, ↓dR_205_35 hL, dI_691 hL, dS_691 hL, ↓reduceIte, ↓kq_bi, ↓kq_let, ↓kq_rz0, ↓kq_rz1, ↓kq_rzB, ↓Option.bind_some, kq_dvn, kt_lt, kf_lt, kt_eq, kf_eq, decide_true, decide_false, eq_self, Bool.false_eq_true, Bool.true_eq_false, not_true_eq_false, not_false_eq_true, jU_eq, jU_ne, jU_U, jV_eq, jV_ne, jV_V, kn_lit, kn_add, kn_mul, kn_sdm, kn_sub, kn_div, kn_nsdm, kn_lt, kn_eq, kn_pred, kn_m1, kn_m1', kn_a31, kn_shl, kn_shr, kn_bit, nB_0, nB_1, nB_t, nB_f, Nat.zero_add, Nat.add_zero, Nat.reduceAdd, Nat.reduceMul, Nat.reduceSub, Nat.reducePow]
      unfold F_Mod_days_b29
      exact m_bdF hL (f := 1) (i := 1) (by omega) (by omega) (by omega) (fun g => (if_neg (by decide)).trans rfl)
  obtain ⟨a4, l4, h4, rfl⟩ := g4
  exact jDo_q hA (fun t u l m b c h I hL hC => q_d hL hC (c_days hL (jCC_Q hC hA) h2 l3 h3 h4)) (fun t u l m b c h I hL hC => m_days hL (jMM_Q hC hA) h2 l3 h3 h4)
theorem x_span (hA : jAG N A) (x1 x2 x3 x4 x5 : Int32) : jDo cdI (fun g => F_SG_span 64 x1 x2 x3 x4 x5 g) (fun g => F_Mod_span 205 x1 x2 x3 x4 x5 g) N A := by
  obtain ⟨τ, ω, r, β, H, E, Tp, p, rf, c0, c1⟩ := A
  have ho : jTOK τ := hA.1
  have o0 : τ 0 0 ≤ 9 := ho.1
  have o1 : τ 0 1 ≤ 6 := ho.2.1
  have o2 : τ 0 2 ≤ 10 := ho.2.2.1
  have o3 : τ 0 3 ≤ 8 := ho.2.2.2.1
  by_cases g2 : jRg x2 1 20
  case neg =>
    refine jDo_b (k := 1) (by omega) (by decide) hA (fun t u l m b c h I hL hC => ?_) (fun t u l m b c h I hL hC => ?_)
    · show F_SG_span 64 x1 x2 x3 x4 x5 (jz_I h I) = _
      have hQ := jCC_Q hC hA
      have hT := hQ.1.1
      have ht := jLay_t hL
      unfold F_SG_span
      rcases jRg_no (by omega) (by omega) g2 with e | ⟨e1, e2⟩
      · simp (disch := omega) only [F_SG_span_b26, e, ↓dK_64 hL, ↓dG_64 hL, ↓dP_64 hL, ↓dR_64_2 hL, ↓dK_85 hL, ↓dG_85 hL, ↓dP_85 hL, ↓dZ_85 hL (x := nI 0) (Or.inl rfl), ↓dZ_85 hL (x := nI 1) (Or.inr rfl), ↓dZ_85 hL (Or.inl rfl), ↓dZ_85 hL (Or.inr rfl), ↓dZ_85 hL (nB_01 _), ↓dK_T hL ht, ↓dG_T hL ht, ↓dP_T hL ht, ↓reduceIte, ↓kq_bi, ↓kq_let, ↓kq_rz0, ↓kq_rz1, ↓kq_rzB, ↓Option.bind_some, kq_dvn, kt_lt, kf_lt, kt_eq, kf_eq, decide_true, decide_false, eq_self, Bool.false_eq_true, Bool.true_eq_false, not_true_eq_false, not_false_eq_true, jU_eq, jU_ne, jU_U, jV_eq, jV_ne, jV_V, kn_lit, kn_add, kn_mul, kn_sdm, kn_sub, kn_div, kn_nsdm, kn_lt, kn_eq, kn_pred, kn_m1, kn_m1', kn_a31, kn_shl, kn_shr, kn_bit, nB_0, nB_1, nB_t, nB_f, Nat.zero_add, Nat.add_zero, Nat.reduceAdd, Nat.reduceMul, Nat.reduceSub, Nat.reducePow]
        unfold F_SG_span_b27
        exact c_bdA hL
      · simp (disch := omega) only [F_SG_span_b26, e1, e2, ↓dK_64 hL, ↓dG_64 hL, ↓dP_64 hL, ↓dR_64_2 hL, ↓dK_85 hL, ↓dG_85 hL, ↓dP_85 hL, ↓dZ_85 hL (x := nI 0) (Or.inl rfl), ↓dZ_85 hL (x := nI 1) (Or.inr rfl), ↓dZ_85 hL (Or.inl rfl), ↓dZ_85 hL (Or.inr rfl), ↓dZ_85 hL (nB_01 _), ↓dK_T hL ht, ↓dG_T hL ht, ↓dP_T hL ht, ↓reduceIte, ↓kq_bi, ↓kq_let, ↓kq_rz0, ↓kq_rz1, ↓kq_rzB, ↓Option.bind_some, kq_dvn, kt_lt, kf_lt, kt_eq, kf_eq, decide_true, decide_false, eq_self, Bool.false_eq_true, Bool.true_eq_false, not_true_eq_false, not_false_eq_true, jU_eq, jU_ne, jU_U, jV_eq, jV_ne, jV_V, kn_lit, kn_add, kn_mul, kn_sdm, kn_sub, kn_div, kn_nsdm, kn_lt, kn_eq, kn_pred, kn_m1, kn_m1', kn_a31, kn_shl, kn_shr, kn_bit, nB_0, nB_1, nB_t, nB_f, Nat.zero_add, Nat.add_zero, Nat.reduceAdd, Nat.reduceMul, Nat.reduceSub, Nat.reducePow]
        unfold F_SG_span_b27
        exact c_bdA hL
    · show ∃ J, F_Mod_span 205 x1 x2 x3 x4 x5 (jz_I h I) = _ ∧ _
      have hQ := jMM_Q hC hA
      have N0 := jN_0 hQ
      have hQ0 := jN_QM N0 hQ
      have hT0 := hQ0.1.1
      unfold F_Mod_span
      simp (disch := omega) only [m_inX (lo := 1) (hi := 20) (by omega) (by omega) g2, F_Mod_span_b35, ↓dK_205 hL, ↓dG_205 hL, ↓dP_205 hL, ↓dZ_205 hL (x := nI 0) (Or.inl rfl), ↓dZ_205 hL (x := nI 1) (Or.inr rfl), ↓dZ_205 hL (Or.inl rfl), ↓dZ_205 hL (Or.inr rfl), ↓dZ_205 hL (nB_01 _), ↓dR_205_12 hL, dI_209 hL, dS_209 hL, ↓dR_205_35 hL, dI_691 hL, dS_691 hL, ↓reduceIte, ↓kq_bi, ↓kq_let, ↓kq_rz0, ↓kq_rz1, ↓kq_rzB, ↓Option.bind_some, kq_dvn, kt_lt, kf_lt, kt_eq, kf_eq, decide_true, decide_false, eq_self, Bool.false_eq_true, Bool.true_eq_false, not_true_eq_false, not_false_eq_true, jU_eq, jU_ne, jU_U, jV_eq, jV_ne, jV_V, kn_lit, kn_add, kn_mul, kn_sdm, kn_sub, kn_div, kn_nsdm, kn_lt, kn_eq, kn_pred, kn_m1, kn_m1', kn_a31, kn_shl, kn_shr, kn_bit, nB_0, nB_1, nB_t, nB_f, Nat.zero_add, Nat.add_zero, Nat.reduceAdd, Nat.reduceMul, Nat.reduceSub, Nat.reducePow]
      unfold F_Mod_span_b40
      exact m_bdF hL (f := 1) (i := 1) (by omega) (by omega) (by omega) (fun g => (if_neg (by decide)).trans rfl)
  obtain ⟨a2, l2, h2, rfl⟩ := g2
  by_cases g3 : jRg x3 0 16
  case neg =>
    refine jDo_b (k := 1) (by omega) (by decide) hA (fun t u l m b c h I hL hC => ?_) (fun t u l m b c h I hL hC => ?_)
    · show F_SG_span 64 x1 (nI a2) x3 x4 x5 (jz_I h I) = _
      have hQ := jCC_Q hC hA
      have hT := hQ.1.1
      have ht := jLay_t hL
      unfold F_SG_span
      rcases jRg_no (by omega) (by omega) g3 with e | ⟨e1, e2⟩
      · simp (disch := omega) only [F_SG_span_b26, e, ↓dK_64 hL, ↓dG_64 hL, ↓dP_64 hL, ↓dR_64_2 hL, ↓dK_85 hL, ↓dG_85 hL, ↓dP_85 hL, ↓dZ_85 hL (x := nI 0) (Or.inl rfl), ↓dZ_85 hL (x := nI 1) (Or.inr rfl), ↓dZ_85 hL (Or.inl rfl), ↓dZ_85 hL (Or.inr rfl), ↓dZ_85 hL (nB_01 _), ↓dK_T hL ht, ↓dG_T hL ht, ↓dP_T hL ht, ↓reduceIte, ↓kq_bi, ↓kq_let, ↓kq_rz0, ↓kq_rz1, ↓kq_rzB, ↓Option.bind_some, kq_dvn, kt_lt, kf_lt, kt_eq, kf_eq, decide_true, decide_false, eq_self, Bool.false_eq_true, Bool.true_eq_false, not_true_eq_false, not_false_eq_true, jU_eq, jU_ne, jU_U, jV_eq, jV_ne, jV_V, kn_lit, kn_add, kn_mul, kn_sdm, kn_sub, kn_div, kn_nsdm, kn_lt, kn_eq, kn_pred, kn_m1, kn_m1', kn_a31, kn_shl, kn_shr, kn_bit, nB_0, nB_1, nB_t, nB_f, Nat.zero_add, Nat.add_zero, Nat.reduceAdd, Nat.reduceMul, Nat.reduceSub, Nat.reducePow]
        unfold F_SG_span_b27
        exact c_bdA hL
      · simp (disch := omega) only [F_SG_span_b26, e1, e2, ↓dK_64 hL, ↓dG_64 hL, ↓dP_64 hL, ↓dR_64_2 hL, ↓dK_85 hL, ↓dG_85 hL, ↓dP_85 hL, ↓dZ_85 hL (x := nI 0) (Or.inl rfl), ↓dZ_85 hL (x := nI 1) (Or.inr rfl), ↓dZ_85 hL (Or.inl rfl), ↓dZ_85 hL (Or.inr rfl), ↓dZ_85 hL (nB_01 _), ↓dK_T hL ht, ↓dG_T hL ht, ↓dP_T hL ht, ↓reduceIte, ↓kq_bi, ↓kq_let, ↓kq_rz0, ↓kq_rz1, ↓kq_rzB, ↓Option.bind_some, kq_dvn, kt_lt, kf_lt, kt_eq, kf_eq, decide_true, decide_false, eq_self, Bool.false_eq_true, Bool.true_eq_false, not_true_eq_false, not_false_eq_true, jU_eq, jU_ne, jU_U, jV_eq, jV_ne, jV_V, kn_lit, kn_add, kn_mul, kn_sdm, kn_sub, kn_div, kn_nsdm, kn_lt, kn_eq, kn_pred, kn_m1, kn_m1', kn_a31, kn_shl, kn_shr, kn_bit, nB_0, nB_1, nB_t, nB_f, Nat.zero_add, Nat.add_zero, Nat.reduceAdd, Nat.reduceMul, Nat.reduceSub, Nat.reducePow]
        unfold F_SG_span_b27
        exact c_bdA hL
    · show ∃ J, F_Mod_span 205 x1 (nI a2) x3 x4 x5 (jz_I h I) = _ ∧ _
      have hQ := jMM_Q hC hA
      have N0 := jN_0 hQ
      have hQ0 := jN_QM N0 hQ
      have hT0 := hQ0.1.1
      unfold F_Mod_span
      simp (disch := omega) only [m_in1, m_daysX1 g3, F_Mod_span_b35, ↓dK_205 hL, ↓dG_205 hL, ↓dP_205 hL, ↓dZ_205 hL (x := nI 0) (Or.inl rfl), ↓dZ_205 hL (x := nI 1) (Or.inr rfl), ↓dZ_205 hL (Or.inl rfl), ↓dZ_205 hL (Or.inr rfl), ↓dZ_205 hL (nB_01 _), ↓dR_205_12 hL, dI_209 hL, dS_209 hL, ↓dR_205_35 hL, dI_691 hL, dS_691 hL, ↓reduceIte, ↓kq_bi, ↓kq_let, ↓kq_rz0, ↓kq_rz1, ↓kq_rzB, ↓Option.bind_some, kq_dvn, kt_lt, kf_lt, kt_eq, kf_eq, decide_true, decide_false, eq_self, Bool.false_eq_true, Bool.true_eq_false, not_true_eq_false, not_false_eq_true, jU_eq, jU_ne, jU_U, jV_eq, jV_ne, jV_V, kn_lit, kn_add, kn_mul, kn_sdm, kn_sub, kn_div, kn_nsdm, kn_lt, kn_eq, kn_pred, kn_m1, kn_m1', kn_a31, kn_shl, kn_shr, kn_bit, nB_0, nB_1, nB_t, nB_f, Nat.zero_add, Nat.add_zero, Nat.reduceAdd, Nat.reduceMul, Nat.reduceSub, Nat.reducePow]
      unfold F_Mod_span_b40
      exact m_bdF hL (f := 1) (i := 1) (by omega) (by omega) (by omega) (fun g => (if_neg (by decide)).trans rfl)
  obtain ⟨a3, l3, h3, rfl⟩ := g3
  by_cases g4 : jRg x4 1 96
  case neg =>
    refine jDo_b (k := 1) (by omega) (by decide) hA (fun t u l m b c h I hL hC => ?_) (fun t u l m b c h I hL hC => ?_)
    · show F_SG_span 64 x1 (nI a2) (nI a3) x4 x5 (jz_I h I) = _
      have hQ := jCC_Q hC hA
      have hT := hQ.1.1
      have ht := jLay_t hL
      unfold F_SG_span
      simp (disch := omega) only [↓dK_64 hL, ↓dG_64 hL, ↓dP_64 hL, ↓dR_64_2 hL, ↓dK_85 hL, ↓dG_85 hL, ↓dP_85 hL, ↓dZ_85 hL (x := nI 0) (Or.inl rfl), ↓dZ_85 hL (x := nI 1) (Or.inr rfl), ↓dZ_85 hL (Or.inl rfl), ↓dZ_85 hL (Or.inr rfl), ↓dZ_85 hL (nB_01 _), ↓dK_T hL ht, ↓dG_T hL ht, ↓dP_T hL ht, ↓reduceIte, ↓kq_bi, ↓kq_let, ↓kq_rz0, ↓kq_rz1, ↓kq_rzB, ↓Option.bind_some, kq_dvn, kt_lt, kf_lt, kt_eq, kf_eq, decide_true, decide_false, eq_self, Bool.false_eq_true, Bool.true_eq_false, not_true_eq_false, not_false_eq_true, jU_eq, jU_ne, jU_U, jV_eq, jV_ne, jV_V, kn_lit, kn_add, kn_mul, kn_sdm, kn_sub, kn_div, kn_nsdm, kn_lt, kn_eq, kn_pred, kn_m1, kn_m1', kn_a31, kn_shl, kn_shr, kn_bit, nB_0, nB_1, nB_t, nB_f, Nat.zero_add, Nat.add_zero, Nat.reduceAdd, Nat.reduceMul, Nat.reduceSub, Nat.reducePow]
      unfold F_SG_span_b27
      rcases jRg_no (by omega) (by omega) g4 with e | ⟨e1, e2⟩
      · simp (disch := omega) only [c_need1, kq_th, F_SG_span_b59, e, ↓dK_64 hL, ↓dG_64 hL, ↓dP_64 hL, ↓dR_64_2 hL, ↓dK_85 hL, ↓dG_85 hL, ↓dP_85 hL, ↓dZ_85 hL (x := nI 0) (Or.inl rfl), ↓dZ_85 hL (x := nI 1) (Or.inr rfl), ↓dZ_85 hL (Or.inl rfl), ↓dZ_85 hL (Or.inr rfl), ↓dZ_85 hL (nB_01 _), ↓dK_T hL ht, ↓dG_T hL ht, ↓dP_T hL ht, ↓reduceIte, ↓kq_bi, ↓kq_let, ↓kq_rz0, ↓kq_rz1, ↓kq_rzB, ↓Option.bind_some, kq_dvn, kt_lt, kf_lt, kt_eq, kf_eq, decide_true, decide_false, eq_self, Bool.false_eq_true, Bool.true_eq_false, not_true_eq_false, not_false_eq_true, jU_eq, jU_ne, jU_U, jV_eq, jV_ne, jV_V, kn_lit, kn_add, kn_mul, kn_sdm, kn_sub, kn_div, kn_nsdm, kn_lt, kn_eq, kn_pred, kn_m1, kn_m1', kn_a31, kn_shl, kn_shr, kn_bit, nB_0, nB_1, nB_t, nB_f, Nat.zero_add, Nat.add_zero, Nat.reduceAdd, Nat.reduceMul, Nat.reduceSub, Nat.reducePow]
        unfold F_SG_span_b60
        exact c_bdA hL
      · simp (disch := omega) only [c_need1, kq_th, F_SG_span_b59, e1, e2, ↓dK_64 hL, ↓dG_64 hL, ↓dP_64 hL, ↓dR_64_2 hL, ↓dK_85 hL, ↓dG_85 hL, ↓dP_85 hL, ↓dZ_85 hL (x := nI 0) (Or.inl rfl), ↓dZ_85 hL (x := nI 1) (Or.inr rfl), ↓dZ_85 hL (Or.inl rfl), ↓dZ_85 hL (Or.inr rfl), ↓dZ_85 hL (nB_01 _), ↓dK_T hL ht, ↓dG_T hL ht, ↓dP_T hL ht, ↓reduceIte, ↓kq_bi, ↓kq_let, ↓kq_rz0, ↓kq_rz1, ↓kq_rzB, ↓Option.bind_some, kq_dvn, kt_lt, kf_lt, kt_eq, kf_eq, decide_true, decide_false, eq_self, Bool.false_eq_true, Bool.true_eq_false, not_true_eq_false, not_false_eq_true, jU_eq, jU_ne, jU_U, jV_eq, jV_ne, jV_V, kn_lit, kn_add, kn_mul, kn_sdm, kn_sub, kn_div, kn_nsdm, kn_lt, kn_eq, kn_pred, kn_m1, kn_m1', kn_a31, kn_shl, kn_shr, kn_bit, nB_0, nB_1, nB_t, nB_f, Nat.zero_add, Nat.add_zero, Nat.reduceAdd, Nat.reduceMul, Nat.reduceSub, Nat.reducePow]
        unfold F_SG_span_b60
        exact c_bdA hL
    · show ∃ J, F_Mod_span 205 x1 (nI a2) (nI a3) x4 x5 (jz_I h I) = _ ∧ _
      have hQ := jMM_Q hC hA
      have N0 := jN_0 hQ
      have hQ0 := jN_QM N0 hQ
      have hT0 := hQ0.1.1
      unfold F_Mod_span
      simp (disch := omega) only [m_in1, m_daysX2 h3 g4, F_Mod_span_b35, ↓dK_205 hL, ↓dG_205 hL, ↓dP_205 hL, ↓dZ_205 hL (x := nI 0) (Or.inl rfl), ↓dZ_205 hL (x := nI 1) (Or.inr rfl), ↓dZ_205 hL (Or.inl rfl), ↓dZ_205 hL (Or.inr rfl), ↓dZ_205 hL (nB_01 _), ↓dR_205_12 hL, dI_209 hL, dS_209 hL, ↓dR_205_35 hL, dI_691 hL, dS_691 hL, ↓reduceIte, ↓kq_bi, ↓kq_let, ↓kq_rz0, ↓kq_rz1, ↓kq_rzB, ↓Option.bind_some, kq_dvn, kt_lt, kf_lt, kt_eq, kf_eq, decide_true, decide_false, eq_self, Bool.false_eq_true, Bool.true_eq_false, not_true_eq_false, not_false_eq_true, jU_eq, jU_ne, jU_U, jV_eq, jV_ne, jV_V, kn_lit, kn_add, kn_mul, kn_sdm, kn_sub, kn_div, kn_nsdm, kn_lt, kn_eq, kn_pred, kn_m1, kn_m1', kn_a31, kn_shl, kn_shr, kn_bit, nB_0, nB_1, nB_t, nB_f, Nat.zero_add, Nat.add_zero, Nat.reduceAdd, Nat.reduceMul, Nat.reduceSub, Nat.reducePow]
      unfold F_Mod_span_b40
      exact m_bdF hL (f := 1) (i := 1) (by omega) (by omega) (by omega) (fun g => (if_neg (by decide)).trans rfl)
  obtain ⟨a4, l4, h4, rfl⟩ := g4
  by_cases g5 : jRg x5 0 2
  case neg =>
    refine jDo_b (k := 1) (by omega) (by decide) hA (fun t u l m b c h I hL hC => ?_) (fun t u l m b c h I hL hC => ?_)
    · show F_SG_span 64 x1 (nI a2) (nI a3) (nI a4) x5 (jz_I h I) = _
      have hQ := jCC_Q hC hA
      have hT := hQ.1.1
      have ht := jLay_t hL
      unfold F_SG_span
      simp (disch := omega) only [↓dK_64 hL, ↓dG_64 hL, ↓dP_64 hL, ↓dR_64_2 hL, ↓dK_85 hL, ↓dG_85 hL, ↓dP_85 hL, ↓dZ_85 hL (x := nI 0) (Or.inl rfl), ↓dZ_85 hL (x := nI 1) (Or.inr rfl), ↓dZ_85 hL (Or.inl rfl), ↓dZ_85 hL (Or.inr rfl), ↓dZ_85 hL (nB_01 _), ↓dK_T hL ht, ↓dG_T hL ht, ↓dP_T hL ht, ↓reduceIte, ↓kq_bi, ↓kq_let, ↓kq_rz0, ↓kq_rz1, ↓kq_rzB, ↓Option.bind_some, kq_dvn, kt_lt, kf_lt, kt_eq, kf_eq, decide_true, decide_false, eq_self, Bool.false_eq_true, Bool.true_eq_false, not_true_eq_false, not_false_eq_true, jU_eq, jU_ne, jU_U, jV_eq, jV_ne, jV_V, kn_lit, kn_add, kn_mul, kn_sdm, kn_sub, kn_div, kn_nsdm, kn_lt, kn_eq, kn_pred, kn_m1, kn_m1', kn_a31, kn_shl, kn_shr, kn_bit, nB_0, nB_1, nB_t, nB_f, Nat.zero_add, Nat.add_zero, Nat.reduceAdd, Nat.reduceMul, Nat.reduceSub, Nat.reducePow]
      unfold F_SG_span_b27
      rcases jRg_no (by omega) (by omega) g5 with e | ⟨e1, e2⟩
      · simp (disch := omega) only [c_need1, kq_th, F_SG_span_b59, e, ↓dK_64 hL, ↓dG_64 hL, ↓dP_64 hL, ↓dR_64_2 hL, ↓dK_85 hL, ↓dG_85 hL, ↓dP_85 hL, ↓dZ_85 hL (x := nI 0) (Or.inl rfl), ↓dZ_85 hL (x := nI 1) (Or.inr rfl), ↓dZ_85 hL (Or.inl rfl), ↓dZ_85 hL (Or.inr rfl), ↓dZ_85 hL (nB_01 _), ↓dK_T hL ht, ↓dG_T hL ht, ↓dP_T hL ht, ↓reduceIte, ↓kq_bi, ↓kq_let, ↓kq_rz0, ↓kq_rz1, ↓kq_rzB, ↓Option.bind_some, kq_dvn, kt_lt, kf_lt, kt_eq, kf_eq, decide_true, decide_false, eq_self, Bool.false_eq_true, Bool.true_eq_false, not_true_eq_false, not_false_eq_true, jU_eq, jU_ne, jU_U, jV_eq, jV_ne, jV_V, kn_lit, kn_add, kn_mul, kn_sdm, kn_sub, kn_div, kn_nsdm, kn_lt, kn_eq, kn_pred, kn_m1, kn_m1', kn_a31, kn_shl, kn_shr, kn_bit, nB_0, nB_1, nB_t, nB_f, Nat.zero_add, Nat.add_zero, Nat.reduceAdd, Nat.reduceMul, Nat.reduceSub, Nat.reducePow]
        unfold F_SG_span_b60
        exact c_bdA hL
      · simp (disch := omega) only [c_need1, kq_th, F_SG_span_b59, e1, e2, ↓dK_64 hL, ↓dG_64 hL, ↓dP_64 hL, ↓dR_64_2 hL, ↓dK_85 hL, ↓dG_85 hL, ↓dP_85 hL, ↓dZ_85 hL (x := nI 0) (Or.inl rfl), ↓dZ_85 hL (x := nI 1) (Or.inr rfl), ↓dZ_85 hL (Or.inl rfl), ↓dZ_85 hL (Or.inr rfl), ↓dZ_85 hL (nB_01 _), ↓dK_T hL ht, ↓dG_T hL ht, ↓dP_T hL ht, ↓reduceIte, ↓kq_bi, ↓kq_let, ↓kq_rz0, ↓kq_rz1, ↓kq_rzB, ↓Option.bind_some, kq_dvn, kt_lt, kf_lt, kt_eq, kf_eq, decide_true, decide_false, eq_self, Bool.false_eq_true, Bool.true_eq_false, not_true_eq_false, not_false_eq_true, jU_eq, jU_ne, jU_U, jV_eq, jV_ne, jV_V, kn_lit, kn_add, kn_mul, kn_sdm, kn_sub, kn_div, kn_nsdm, kn_lt, kn_eq, kn_pred, kn_m1, kn_m1', kn_a31, kn_shl, kn_shr, kn_bit, nB_0, nB_1, nB_t, nB_f, Nat.zero_add, Nat.add_zero, Nat.reduceAdd, Nat.reduceMul, Nat.reduceSub, Nat.reducePow]
        unfold F_SG_span_b60
        exact c_bdA hL
    · show ∃ J, F_Mod_span 205 x1 (nI a2) (nI a3) (nI a4) x5 (jz_I h I) = _ ∧ _
      have hQ := jMM_Q hC hA
      have N0 := jN_0 hQ
      have hQ0 := jN_QM N0 hQ
      have hT0 := hQ0.1.1
      unfold F_Mod_span
      simp (disch := omega) only [m_in1, m_areDays h3 l4 h4, m_inX (lo := 0) (hi := 2) (by omega) (by omega) g5, F_Mod_span_b35, ↓dK_205 hL, ↓dG_205 hL, ↓dP_205 hL, ↓dZ_205 hL (x := nI 0) (Or.inl rfl), ↓dZ_205 hL (x := nI 1) (Or.inr rfl), ↓dZ_205 hL (Or.inl rfl), ↓dZ_205 hL (Or.inr rfl), ↓dZ_205 hL (nB_01 _), ↓dR_205_12 hL, dI_209 hL, dS_209 hL, ↓dR_205_35 hL, dI_691 hL, dS_691 hL, ↓reduceIte, ↓kq_bi, ↓kq_let, ↓kq_rz0, ↓kq_rz1, ↓kq_rzB, ↓Option.bind_some, kq_dvn, kt_lt, kf_lt, kt_eq, kf_eq, decide_true, decide_false, eq_self, Bool.false_eq_true, Bool.true_eq_false, not_true_eq_false, not_false_eq_true, jU_eq, jU_ne, jU_U, jV_eq, jV_ne, jV_V, kn_lit, kn_add, kn_mul, kn_sdm, kn_sub, kn_div, kn_nsdm, kn_lt, kn_eq, kn_pred, kn_m1, kn_m1', kn_a31, kn_shl, kn_shr, kn_bit, nB_0, nB_1, nB_t, nB_f, Nat.zero_add, Nat.add_zero, Nat.reduceAdd, Nat.reduceMul, Nat.reduceSub, Nat.reducePow]
      unfold F_Mod_span_b40
      exact m_bdF hL (f := 1) (i := 1) (by omega) (by omega) (by omega) (fun g => (if_neg (by decide)).trans rfl)
  obtain ⟨a5, l5, h5, rfl⟩ := g5
  exact jDo_q hA (fun t u l m b c h I hL hC => q_d hL hC (c_span hL (jCC_Q hC hA) l2 h2 h3 l4 h4 h5)) (fun t u l m b c h I hL hC => m_span hL (jMM_Q hC hA) l2 h2 h3 l4 h4 h5)
end

/-! PLAIN LEAN: questions, whatever their arguments -/
section
variable {N : Nat} {A : JA}
theorem x_keeps (hA : jAG N A) (x1 x2 x3 x4 x5 : Int32) : jDo cdB (fun g => F_SG_keeps 64 x1 x2 x3 x4 x5 g) (fun g => F_Mod_keeps 205 x1 x2 x3 x4 x5 g) N A := by
  obtain ⟨τ, ω, r, β, H, E, Tp, p, rf, c0, c1⟩ := A
  have ho : jTOK τ := hA.1
  have o0 : τ 0 0 ≤ 9 := ho.1
  have o1 : τ 0 1 ≤ 6 := ho.2.1
  have o2 : τ 0 2 ≤ 10 := ho.2.2.1
  have o3 : τ 0 3 ≤ 8 := ho.2.2.2.1
  by_cases g1 : jIn x1 (τ 0 0)
  case neg =>
    refine jDo_b (k := 0) (by omega) (by decide) hA (fun t u l m b c h I hL hC => ?_) (fun t u l m b c h I hL hC => ?_)
    · show F_SG_keeps 64 x1 x2 x3 x4 x5 (jz_I h I) = _
      have hQ := jCC_Q hC hA
      have hT := hQ.1.1
      have ht := jLay_t hL
      unfold F_SG_keeps
      exact c_bdG hL hQ g1
    · show ∃ J, F_Mod_keeps 205 x1 x2 x3 x4 x5 (jz_I h I) = _ ∧ _
      have hQ := jMM_Q hC hA
      have N0 := jN_0 hQ
      have hQ0 := jN_QM N0 hQ
      have hT0 := hQ0.1.1
      unfold F_Mod_keeps
      simp (disch := omega) only [m_gateX hL hT0 ho g1, F_Mod_keeps_b22, ↓dK_205 hL, ↓dG_205 hL, ↓dP_205 hL, ↓dZ_205 hL (x := nI 0) (Or.inl rfl), ↓dZ_205 hL (x := nI 1) (Or.inr rfl), ↓dZ_205 hL (Or.inl rfl), ↓dZ_205 hL (Or.inr rfl), ↓dZ_205 hL (nB_01 _), ↓dR_205_12 hL, dI_209 hL, dS_209 hL, ↓dR_205_35 hL, dI_691 hL, dS_691 hL, ↓reduceIte, ↓kq_bi, ↓kq_let, ↓kq_rz0, ↓kq_rz1, ↓kq_rzB, ↓Option.bind_some, kq_dvn, kt_lt, kf_lt, kt_eq, kf_eq, decide_true, decide_false, eq_self, Bool.false_eq_true, Bool.true_eq_false, not_true_eq_false, not_false_eq_true, jU_eq, jU_ne, jU_U, jV_eq, jV_ne, jV_V, kn_lit, kn_add, kn_mul, kn_sdm, kn_sub, kn_div, kn_nsdm, kn_lt, kn_eq, kn_pred, kn_m1, kn_m1', kn_a31, kn_shl, kn_shr, kn_bit, nB_0, nB_1, nB_t, nB_f, Nat.zero_add, Nat.add_zero, Nat.reduceAdd, Nat.reduceMul, Nat.reduceSub, Nat.reducePow]
      unfold F_Mod_keeps_b27
      exact m_bdF hL (f := 1) (i := 0) (by omega) (by omega) (by omega) (fun g => (if_neg (by decide)).trans rfl)
  obtain ⟨a1, h1, rfl⟩ := g1
  by_cases g2 : jIn x2 (τ 0 1)
  case neg =>
    refine jDo_b (k := 0) (by omega) (by decide) hA (fun t u l m b c h I hL hC => ?_) (fun t u l m b c h I hL hC => ?_)
    · show F_SG_keeps 64 (nI a1) x2 x3 x4 x5 (jz_I h I) = _
      have hQ := jCC_Q hC hA
      have hT := hQ.1.1
      have ht := jLay_t hL
      unfold F_SG_keeps
      rw [dK_64 hL, c_needGate hL hT ho h1, kq_th]
      exact c_bdW hL hQ g2
    · show ∃ J, F_Mod_keeps 205 (nI a1) x2 x3 x4 x5 (jz_I h I) = _ ∧ _
      have hQ := jMM_Q hC hA
      have N0 := jN_0 hQ
      have hQ0 := jN_QM N0 hQ
      have hT0 := hQ0.1.1
      unfold F_Mod_keeps
      simp (disch := omega) only [m_isGate hL hT0 ho h1, m_woodX hL hT0 ho g2, F_Mod_keeps_b22, ↓dK_205 hL, ↓dG_205 hL, ↓dP_205 hL, ↓dZ_205 hL (x := nI 0) (Or.inl rfl), ↓dZ_205 hL (x := nI 1) (Or.inr rfl), ↓dZ_205 hL (Or.inl rfl), ↓dZ_205 hL (Or.inr rfl), ↓dZ_205 hL (nB_01 _), ↓dR_205_12 hL, dI_209 hL, dS_209 hL, ↓dR_205_35 hL, dI_691 hL, dS_691 hL, ↓reduceIte, ↓kq_bi, ↓kq_let, ↓kq_rz0, ↓kq_rz1, ↓kq_rzB, ↓Option.bind_some, kq_dvn, kt_lt, kf_lt, kt_eq, kf_eq, decide_true, decide_false, eq_self, Bool.false_eq_true, Bool.true_eq_false, not_true_eq_false, not_false_eq_true, jU_eq, jU_ne, jU_U, jV_eq, jV_ne, jV_V, kn_lit, kn_add, kn_mul, kn_sdm, kn_sub, kn_div, kn_nsdm, kn_lt, kn_eq, kn_pred, kn_m1, kn_m1', kn_a31, kn_shl, kn_shr, kn_bit, nB_0, nB_1, nB_t, nB_f, Nat.zero_add, Nat.add_zero, Nat.reduceAdd, Nat.reduceMul, Nat.reduceSub, Nat.reducePow]
      unfold F_Mod_keeps_b27
      exact m_bdF hL (f := 1) (i := 0) (by omega) (by omega) (by omega) (fun g => (if_neg (by decide)).trans rfl)
  obtain ⟨a2, h2, rfl⟩ := g2
  by_cases g3 : jRg x3 0 5
  case neg =>
    refine jDo_b (k := 1) (by omega) (by decide) hA (fun t u l m b c h I hL hC => ?_) (fun t u l m b c h I hL hC => ?_)
    · show F_SG_keeps 64 (nI a1) (nI a2) x3 x4 x5 (jz_I h I) = _
      have hQ := jCC_Q hC hA
      have hT := hQ.1.1
      have ht := jLay_t hL
      unfold F_SG_keeps
      rcases jRg_no (by omega) (by omega) g3 with e | ⟨e1, e2⟩
      · simp (disch := omega) only [c_needGate hL hT ho h1, kq_th, c_needWood hL hT ho h2, kq_th, F_SG_keeps_b24, e, ↓dK_64 hL, ↓dG_64 hL, ↓dP_64 hL, ↓dR_64_2 hL, ↓dK_85 hL, ↓dG_85 hL, ↓dP_85 hL, ↓dZ_85 hL (x := nI 0) (Or.inl rfl), ↓dZ_85 hL (x := nI 1) (Or.inr rfl), ↓dZ_85 hL (Or.inl rfl), ↓dZ_85 hL (Or.inr rfl), ↓dZ_85 hL (nB_01 _), ↓dK_T hL ht, ↓dG_T hL ht, ↓dP_T hL ht, ↓reduceIte, ↓kq_bi, ↓kq_let, ↓kq_rz0, ↓kq_rz1, ↓kq_rzB, ↓Option.bind_some, kq_dvn, kt_lt, kf_lt, kt_eq, kf_eq, decide_true, decide_false, eq_self, Bool.false_eq_true, Bool.true_eq_false, not_true_eq_false, not_false_eq_true, jU_eq, jU_ne, jU_U, jV_eq, jV_ne, jV_V, kn_lit, kn_add, kn_mul, kn_sdm, kn_sub, kn_div, kn_nsdm, kn_lt, kn_eq, kn_pred, kn_m1, kn_m1', kn_a31, kn_shl, kn_shr, kn_bit, nB_0, nB_1, nB_t, nB_f, Nat.zero_add, Nat.add_zero, Nat.reduceAdd, Nat.reduceMul, Nat.reduceSub, Nat.reducePow]
        unfold F_SG_keeps_b25
        exact c_bdA hL
      · simp (disch := omega) only [c_needGate hL hT ho h1, kq_th, c_needWood hL hT ho h2, kq_th, F_SG_keeps_b24, e1, e2, ↓dK_64 hL, ↓dG_64 hL, ↓dP_64 hL, ↓dR_64_2 hL, ↓dK_85 hL, ↓dG_85 hL, ↓dP_85 hL, ↓dZ_85 hL (x := nI 0) (Or.inl rfl), ↓dZ_85 hL (x := nI 1) (Or.inr rfl), ↓dZ_85 hL (Or.inl rfl), ↓dZ_85 hL (Or.inr rfl), ↓dZ_85 hL (nB_01 _), ↓dK_T hL ht, ↓dG_T hL ht, ↓dP_T hL ht, ↓reduceIte, ↓kq_bi, ↓kq_let, ↓kq_rz0, ↓kq_rz1, ↓kq_rzB, ↓Option.bind_some, kq_dvn, kt_lt, kf_lt, kt_eq, kf_eq, decide_true, decide_false, eq_self, Bool.false_eq_true, Bool.true_eq_false, not_true_eq_false, not_false_eq_true, jU_eq, jU_ne, jU_U, jV_eq, jV_ne, jV_V, kn_lit, kn_add, kn_mul, kn_sdm, kn_sub, kn_div, kn_nsdm, kn_lt, kn_eq, kn_pred, kn_m1, kn_m1', kn_a31, kn_shl, kn_shr, kn_bit, nB_0, nB_1, nB_t, nB_f, Nat.zero_add, Nat.add_zero, Nat.reduceAdd, Nat.reduceMul, Nat.reduceSub, Nat.reducePow]
        unfold F_SG_keeps_b25
        exact c_bdA hL
    · show ∃ J, F_Mod_keeps 205 (nI a1) (nI a2) x3 x4 x5 (jz_I h I) = _ ∧ _
      have hQ := jMM_Q hC hA
      have N0 := jN_0 hQ
      have hQ0 := jN_QM N0 hQ
      have hT0 := hQ0.1.1
      unfold F_Mod_keeps
      simp (disch := omega) only [m_isGate hL hT0 ho h1, m_isWood hL hT0 ho h2, ↓dK_205 hL, ↓dG_205 hL, ↓dP_205 hL, ↓dZ_205 hL (x := nI 0) (Or.inl rfl), ↓dZ_205 hL (x := nI 1) (Or.inr rfl), ↓dZ_205 hL (Or.inl rfl), ↓dZ_205 hL (Or.inr rfl), ↓dZ_205 hL (nB_01 _), ↓dR_205_12 hL, dI_209 hL, dS_209 hL, ↓dR_205_35 hL, dI_691 hL, dS_691 hL, ↓reduceIte, ↓kq_bi, ↓kq_let, ↓kq_rz0, ↓kq_rz1, ↓kq_rzB, ↓Option.bind_some, kq_dvn, kt_lt, kf_lt, kt_eq, kf_eq, decide_true, decide_false, eq_self, Bool.false_eq_true, Bool.true_eq_false, not_true_eq_false, not_false_eq_true, jU_eq, jU_ne, jU_U, jV_eq, jV_ne, jV_V, kn_lit, kn_add, kn_mul, kn_sdm, kn_sub, kn_div, kn_nsdm, kn_lt, kn_eq, kn_pred, kn_m1, kn_m1', kn_a31, kn_shl, kn_shr, kn_bit, nB_0, nB_1, nB_t, nB_f, Nat.zero_add, Nat.add_zero, Nat.reduceAdd, Nat.reduceMul, Nat.reduceSub, Nat.reducePow]
      unfold F_Mod_keeps_b27
      simp (disch := omega) only [m_bad0 hL N0.2.2.2, m_inX (lo := 0) (hi := 5) (by omega) (by omega) g3, F_Mod_keeps_b77, ↓dK_205 hL, ↓dG_205 hL, ↓dP_205 hL, ↓dZ_205 hL (x := nI 0) (Or.inl rfl), ↓dZ_205 hL (x := nI 1) (Or.inr rfl), ↓dZ_205 hL (Or.inl rfl), ↓dZ_205 hL (Or.inr rfl), ↓dZ_205 hL (nB_01 _), ↓dR_205_12 hL, dI_209 hL, dS_209 hL, ↓dR_205_35 hL, dI_691 hL, dS_691 hL, ↓reduceIte, ↓kq_bi, ↓kq_let, ↓kq_rz0, ↓kq_rz1, ↓kq_rzB, ↓Option.bind_some, kq_dvn, kt_lt, kf_lt, kt_eq, kf_eq, decide_true, decide_false, eq_self, Bool.false_eq_true, Bool.true_eq_false, not_true_eq_false, not_false_eq_true, jU_eq, jU_ne, jU_U, jV_eq, jV_ne, jV_V, kn_lit, kn_add, kn_mul, kn_sdm, kn_sub, kn_div, kn_nsdm, kn_lt, kn_eq, kn_pred, kn_m1, kn_m1', kn_a31, kn_shl, kn_shr, kn_bit, nB_0, nB_1, nB_t, nB_f, Nat.zero_add, Nat.add_zero, Nat.reduceAdd, Nat.reduceMul, Nat.reduceSub, Nat.reducePow]
      unfold F_Mod_keeps_b82
      exact m_bdF hL (f := 2) (i := 1) (by omega) (by omega) (by omega) (fun g => (if_neg (by decide)).trans rfl)
  obtain ⟨a3, l3, h3, rfl⟩ := g3
  have hpw := kn_pow (k := a3) (by omega)
  by_cases g4 : jIn x4 (2 ^ a3)
  case neg =>
    refine jDo_b (k := 1) (by omega) (by decide) hA (fun t u l m b c h I hL hC => ?_) (fun t u l m b c h I hL hC => ?_)
    · show F_SG_keeps 64 (nI a1) (nI a2) (nI a3) x4 x5 (jz_I h I) = _
      have hQ := jCC_Q hC hA
      have hT := hQ.1.1
      have ht := jLay_t hL
      unfold F_SG_keeps
      simp (disch := omega) only [c_needGate hL hT ho h1, kq_th, c_needWood hL hT ho h2, kq_th, ↓dK_64 hL, ↓dG_64 hL, ↓dP_64 hL, ↓dR_64_2 hL, ↓dK_85 hL, ↓dG_85 hL, ↓dP_85 hL, ↓dZ_85 hL (x := nI 0) (Or.inl rfl), ↓dZ_85 hL (x := nI 1) (Or.inr rfl), ↓dZ_85 hL (Or.inl rfl), ↓dZ_85 hL (Or.inr rfl), ↓dZ_85 hL (nB_01 _), ↓dK_T hL ht, ↓dG_T hL ht, ↓dP_T hL ht, ↓reduceIte, ↓kq_bi, ↓kq_let, ↓kq_rz0, ↓kq_rz1, ↓kq_rzB, ↓Option.bind_some, kq_dvn, kt_lt, kf_lt, kt_eq, kf_eq, decide_true, decide_false, eq_self, Bool.false_eq_true, Bool.true_eq_false, not_true_eq_false, not_false_eq_true, jU_eq, jU_ne, jU_U, jV_eq, jV_ne, jV_V, kn_lit, kn_add, kn_mul, kn_sdm, kn_sub, kn_div, kn_nsdm, kn_lt, kn_eq, kn_pred, kn_m1, kn_m1', kn_a31, kn_shl, kn_shr, kn_bit, nB_0, nB_1, nB_t, nB_f, Nat.zero_add, Nat.add_zero, Nat.reduceAdd, Nat.reduceMul, Nat.reduceSub, Nat.reducePow]
      unfold F_SG_keeps_b25
      rcases jIn_no (kn_pow (by omega)) g4 with e | ⟨e1, e2⟩
      · simp (disch := omega) only [c_need1, kq_th, Nat.one_mul, F_SG_keeps_b57, e, ↓dK_64 hL, ↓dG_64 hL, ↓dP_64 hL, ↓dR_64_2 hL, ↓dK_85 hL, ↓dG_85 hL, ↓dP_85 hL, ↓dZ_85 hL (x := nI 0) (Or.inl rfl), ↓dZ_85 hL (x := nI 1) (Or.inr rfl), ↓dZ_85 hL (Or.inl rfl), ↓dZ_85 hL (Or.inr rfl), ↓dZ_85 hL (nB_01 _), ↓dK_T hL ht, ↓dG_T hL ht, ↓dP_T hL ht, ↓reduceIte, ↓kq_bi, ↓kq_let, ↓kq_rz0, ↓kq_rz1, ↓kq_rzB, ↓Option.bind_some, kq_dvn, kt_lt, kf_lt, kt_eq, kf_eq, decide_true, decide_false, eq_self, Bool.false_eq_true, Bool.true_eq_false, not_true_eq_false, not_false_eq_true, jU_eq, jU_ne, jU_U, jV_eq, jV_ne, jV_V, kn_lit, kn_add, kn_mul, kn_sdm, kn_sub, kn_div, kn_nsdm, kn_lt, kn_eq, kn_pred, kn_m1, kn_m1', kn_a31, kn_shl, kn_shr, kn_bit, nB_0, nB_1, nB_t, nB_f, Nat.zero_add, Nat.add_zero, Nat.reduceAdd, Nat.reduceMul, Nat.reduceSub, Nat.reducePow]
        unfold F_SG_keeps_b58
        exact c_bdA hL
      · simp (disch := omega) only [c_need1, kq_th, Nat.one_mul, F_SG_keeps_b57, e1, e2, ↓dK_64 hL, ↓dG_64 hL, ↓dP_64 hL, ↓dR_64_2 hL, ↓dK_85 hL, ↓dG_85 hL, ↓dP_85 hL, ↓dZ_85 hL (x := nI 0) (Or.inl rfl), ↓dZ_85 hL (x := nI 1) (Or.inr rfl), ↓dZ_85 hL (Or.inl rfl), ↓dZ_85 hL (Or.inr rfl), ↓dZ_85 hL (nB_01 _), ↓dK_T hL ht, ↓dG_T hL ht, ↓dP_T hL ht, ↓reduceIte, ↓kq_bi, ↓kq_let, ↓kq_rz0, ↓kq_rz1, ↓kq_rzB, ↓Option.bind_some, kq_dvn, kt_lt, kf_lt, kt_eq, kf_eq, decide_true, decide_false, eq_self, Bool.false_eq_true, Bool.true_eq_false, not_true_eq_false, not_false_eq_true, jU_eq, jU_ne, jU_U, jV_eq, jV_ne, jV_V, kn_lit, kn_add, kn_mul, kn_sdm, kn_sub, kn_div, kn_nsdm, kn_lt, kn_eq, kn_pred, kn_m1, kn_m1', kn_a31, kn_shl, kn_shr, kn_bit, nB_0, nB_1, nB_t, nB_f, Nat.zero_add, Nat.add_zero, Nat.reduceAdd, Nat.reduceMul, Nat.reduceSub, Nat.reducePow]
        unfold F_SG_keeps_b58
        exact c_bdA hL
    · show ∃ J, F_Mod_keeps 205 (nI a1) (nI a2) (nI a3) x4 x5 (jz_I h I) = _ ∧ _
      have hQ := jMM_Q hC hA
      have N0 := jN_0 hQ
      have hQ0 := jN_QM N0 hQ
      have hT0 := hQ0.1.1
      unfold F_Mod_keeps
      simp (disch := omega) only [m_isGate hL hT0 ho h1, m_isWood hL hT0 ho h2, ↓dK_205 hL, ↓dG_205 hL, ↓dP_205 hL, ↓dZ_205 hL (x := nI 0) (Or.inl rfl), ↓dZ_205 hL (x := nI 1) (Or.inr rfl), ↓dZ_205 hL (Or.inl rfl), ↓dZ_205 hL (Or.inr rfl), ↓dZ_205 hL (nB_01 _), ↓dR_205_12 hL, dI_209 hL, dS_209 hL, ↓dR_205_35 hL, dI_691 hL, dS_691 hL, ↓reduceIte, ↓kq_bi, ↓kq_let, ↓kq_rz0, ↓kq_rz1, ↓kq_rzB, ↓Option.bind_some, kq_dvn, kt_lt, kf_lt, kt_eq, kf_eq, decide_true, decide_false, eq_self, Bool.false_eq_true, Bool.true_eq_false, not_true_eq_false, not_false_eq_true, jU_eq, jU_ne, jU_U, jV_eq, jV_ne, jV_V, kn_lit, kn_add, kn_mul, kn_sdm, kn_sub, kn_div, kn_nsdm, kn_lt, kn_eq, kn_pred, kn_m1, kn_m1', kn_a31, kn_shl, kn_shr, kn_bit, nB_0, nB_1, nB_t, nB_f, Nat.zero_add, Nat.add_zero, Nat.reduceAdd, Nat.reduceMul, Nat.reduceSub, Nat.reducePow]
      unfold F_Mod_keeps_b27
      simp (disch := omega) only [m_bad0 hL N0.2.2.2, m_in1, m_more, m_less, m_inX1 (n := 2 ^ a3) (kn_pow (by omega)) g4, m_inX (lo := 0) (hi := 2 ^ a3 - 1) (by omega) (Nat.lt_of_le_of_lt (Nat.sub_le _ _) (kn_pow (by omega))) (jIn_rg (by rw [Nat.sub_add_cancel (Nat.two_pow_pos a3)]; exact g4)), Nat.one_mul, F_Mod_keeps_b77, ↓dK_205 hL, ↓dG_205 hL, ↓dP_205 hL, ↓dZ_205 hL (x := nI 0) (Or.inl rfl), ↓dZ_205 hL (x := nI 1) (Or.inr rfl), ↓dZ_205 hL (Or.inl rfl), ↓dZ_205 hL (Or.inr rfl), ↓dZ_205 hL (nB_01 _), ↓dR_205_12 hL, dI_209 hL, dS_209 hL, ↓dR_205_35 hL, dI_691 hL, dS_691 hL, ↓reduceIte, ↓kq_bi, ↓kq_let, ↓kq_rz0, ↓kq_rz1, ↓kq_rzB, ↓Option.bind_some, kq_dvn, kt_lt, kf_lt, kt_eq, kf_eq, decide_true, decide_false, eq_self, Bool.false_eq_true, Bool.true_eq_false, not_true_eq_false, not_false_eq_true, jU_eq, jU_ne, jU_U, jV_eq, jV_ne, jV_V, kn_lit, kn_add, kn_mul, kn_sdm, kn_sub, kn_div, kn_nsdm, kn_lt, kn_eq, kn_pred, kn_m1, kn_m1', kn_a31, kn_shl, kn_shr, kn_bit, nB_0, nB_1, nB_t, nB_f, Nat.zero_add, Nat.add_zero, Nat.reduceAdd, Nat.reduceMul, Nat.reduceSub, Nat.reducePow]
      unfold F_Mod_keeps_b82
      exact m_bdF hL (f := 2) (i := 1) (by omega) (by omega) (by omega) (fun g => (if_neg (by decide)).trans rfl)
  obtain ⟨a4, h4, rfl⟩ := g4
  by_cases g5 : jBl x5
  case neg =>
    refine jDo_b (k := 1) (by omega) (by decide) hA (fun t u l m b c h I hL hC => ?_) (fun t u l m b c h I hL hC => ?_)
    · show F_SG_keeps 64 (nI a1) (nI a2) (nI a3) (nI a4) x5 (jz_I h I) = _
      have hQ := jCC_Q hC hA
      have hT := hQ.1.1
      have ht := jLay_t hL
      unfold F_SG_keeps
      simp (disch := omega) only [c_needGate hL hT ho h1, kq_th, c_needWood hL hT ho h2, kq_th, ↓dK_64 hL, ↓dG_64 hL, ↓dP_64 hL, ↓dR_64_2 hL, ↓dK_85 hL, ↓dG_85 hL, ↓dP_85 hL, ↓dZ_85 hL (x := nI 0) (Or.inl rfl), ↓dZ_85 hL (x := nI 1) (Or.inr rfl), ↓dZ_85 hL (Or.inl rfl), ↓dZ_85 hL (Or.inr rfl), ↓dZ_85 hL (nB_01 _), ↓dK_T hL ht, ↓dG_T hL ht, ↓dP_T hL ht, ↓reduceIte, ↓kq_bi, ↓kq_let, ↓kq_rz0, ↓kq_rz1, ↓kq_rzB, ↓Option.bind_some, kq_dvn, kt_lt, kf_lt, kt_eq, kf_eq, decide_true, decide_false, eq_self, Bool.false_eq_true, Bool.true_eq_false, not_true_eq_false, not_false_eq_true, jU_eq, jU_ne, jU_U, jV_eq, jV_ne, jV_V, kn_lit, kn_add, kn_mul, kn_sdm, kn_sub, kn_div, kn_nsdm, kn_lt, kn_eq, kn_pred, kn_m1, kn_m1', kn_a31, kn_shl, kn_shr, kn_bit, nB_0, nB_1, nB_t, nB_f, Nat.zero_add, Nat.add_zero, Nat.reduceAdd, Nat.reduceMul, Nat.reduceSub, Nat.reducePow]
      unfold F_SG_keeps_b25
      obtain ⟨e1, e2⟩ := jBl_no g5
      simp (disch := omega) only [c_need1, kq_th, Nat.one_mul, F_SG_keeps_b57, e1, e2, ↓dK_64 hL, ↓dG_64 hL, ↓dP_64 hL, ↓dR_64_2 hL, ↓dK_85 hL, ↓dG_85 hL, ↓dP_85 hL, ↓dZ_85 hL (x := nI 0) (Or.inl rfl), ↓dZ_85 hL (x := nI 1) (Or.inr rfl), ↓dZ_85 hL (Or.inl rfl), ↓dZ_85 hL (Or.inr rfl), ↓dZ_85 hL (nB_01 _), ↓dK_T hL ht, ↓dG_T hL ht, ↓dP_T hL ht, ↓reduceIte, ↓kq_bi, ↓kq_let, ↓kq_rz0, ↓kq_rz1, ↓kq_rzB, ↓Option.bind_some, kq_dvn, kt_lt, kf_lt, kt_eq, kf_eq, decide_true, decide_false, eq_self, Bool.false_eq_true, Bool.true_eq_false, not_true_eq_false, not_false_eq_true, jU_eq, jU_ne, jU_U, jV_eq, jV_ne, jV_V, kn_lit, kn_add, kn_mul, kn_sdm, kn_sub, kn_div, kn_nsdm, kn_lt, kn_eq, kn_pred, kn_m1, kn_m1', kn_a31, kn_shl, kn_shr, kn_bit, nB_0, nB_1, nB_t, nB_f, Nat.zero_add, Nat.add_zero, Nat.reduceAdd, Nat.reduceMul, Nat.reduceSub, Nat.reducePow]
      unfold F_SG_keeps_b58
      exact c_bdA hL
    · show ∃ J, F_Mod_keeps 205 (nI a1) (nI a2) (nI a3) (nI a4) x5 (jz_I h I) = _ ∧ _
      have hQ := jMM_Q hC hA
      have N0 := jN_0 hQ
      have hQ0 := jN_QM N0 hQ
      have hT0 := hQ0.1.1
      unfold F_Mod_keeps
      simp (disch := omega) only [m_isGate hL hT0 ho h1, m_isWood hL hT0 ho h2, ↓dK_205 hL, ↓dG_205 hL, ↓dP_205 hL, ↓dZ_205 hL (x := nI 0) (Or.inl rfl), ↓dZ_205 hL (x := nI 1) (Or.inr rfl), ↓dZ_205 hL (Or.inl rfl), ↓dZ_205 hL (Or.inr rfl), ↓dZ_205 hL (nB_01 _), ↓dR_205_12 hL, dI_209 hL, dS_209 hL, ↓dR_205_35 hL, dI_691 hL, dS_691 hL, ↓reduceIte, ↓kq_bi, ↓kq_let, ↓kq_rz0, ↓kq_rz1, ↓kq_rzB, ↓Option.bind_some, kq_dvn, kt_lt, kf_lt, kt_eq, kf_eq, decide_true, decide_false, eq_self, Bool.false_eq_true, Bool.true_eq_false, not_true_eq_false, not_false_eq_true, jU_eq, jU_ne, jU_U, jV_eq, jV_ne, jV_V, kn_lit, kn_add, kn_mul, kn_sdm, kn_sub, kn_div, kn_nsdm, kn_lt, kn_eq, kn_pred, kn_m1, kn_m1', kn_a31, kn_shl, kn_shr, kn_bit, nB_0, nB_1, nB_t, nB_f, Nat.zero_add, Nat.add_zero, Nat.reduceAdd, Nat.reduceMul, Nat.reduceSub, Nat.reducePow]
      unfold F_Mod_keeps_b27
      simp (disch := omega) only [m_bad0 hL N0.2.2.2, m_in1, m_more, m_less, Nat.one_mul, m_inX (lo := 0) (hi := 1) (by omega) (by omega) (jBl_rg g5), F_Mod_keeps_b77, ↓dK_205 hL, ↓dG_205 hL, ↓dP_205 hL, ↓dZ_205 hL (x := nI 0) (Or.inl rfl), ↓dZ_205 hL (x := nI 1) (Or.inr rfl), ↓dZ_205 hL (Or.inl rfl), ↓dZ_205 hL (Or.inr rfl), ↓dZ_205 hL (nB_01 _), ↓dR_205_12 hL, dI_209 hL, dS_209 hL, ↓dR_205_35 hL, dI_691 hL, dS_691 hL, ↓reduceIte, ↓kq_bi, ↓kq_let, ↓kq_rz0, ↓kq_rz1, ↓kq_rzB, ↓Option.bind_some, kq_dvn, kt_lt, kf_lt, kt_eq, kf_eq, decide_true, decide_false, eq_self, Bool.false_eq_true, Bool.true_eq_false, not_true_eq_false, not_false_eq_true, jU_eq, jU_ne, jU_U, jV_eq, jV_ne, jV_V, kn_lit, kn_add, kn_mul, kn_sdm, kn_sub, kn_div, kn_nsdm, kn_lt, kn_eq, kn_pred, kn_m1, kn_m1', kn_a31, kn_shl, kn_shr, kn_bit, nB_0, nB_1, nB_t, nB_f, Nat.zero_add, Nat.add_zero, Nat.reduceAdd, Nat.reduceMul, Nat.reduceSub, Nat.reducePow]
      unfold F_Mod_keeps_b82
      exact m_bdF hL (f := 2) (i := 1) (by omega) (by omega) (by omega) (fun g => (if_neg (by decide)).trans rfl)
  obtain ⟨a5, rfl⟩ := g5
  exact jDo_q hA (fun t u l m b c h I hL hC => q_k hL hC (c_keeps hL (jCC_Q hC hA) h1 h2 h3 h4 a5)) (fun t u l m b c h I hL hC => m_keeps hL (jMM_Q hC hA) h1 h2 h3 h4 a5)
theorem x_thief (hA : jAG N A) (x1 x2 : Int32) : jDo cdB (fun g => F_SG_thief 64 x1 x2 g) (fun g => F_Mod_thief 205 x1 x2 g) N A := by
  obtain ⟨τ, ω, r, β, H, E, Tp, p, rf, c0, c1⟩ := A
  have ho : jTOK τ := hA.1
  have o0 : τ 0 0 ≤ 9 := ho.1
  have o1 : τ 0 1 ≤ 6 := ho.2.1
  have o2 : τ 0 2 ≤ 10 := ho.2.2.1
  have o3 : τ 0 3 ≤ 8 := ho.2.2.2.1
  by_cases g1 : jIn x1 (τ 0 0)
  case neg =>
    refine jDo_b (k := 0) (by omega) (by decide) hA (fun t u l m b c h I hL hC => ?_) (fun t u l m b c h I hL hC => ?_)
    · show F_SG_thief 64 x1 x2 (jz_I h I) = _
      have hQ := jCC_Q hC hA
      have hT := hQ.1.1
      have ht := jLay_t hL
      unfold F_SG_thief
      exact c_bdG hL hQ g1
    · show ∃ J, F_Mod_thief 205 x1 x2 (jz_I h I) = _ ∧ _
      have hQ := jMM_Q hC hA
      have N0 := jN_0 hQ
      have hQ0 := jN_QM N0 hQ
      have hT0 := hQ0.1.1
      unfold F_Mod_thief
      simp (disch := omega) only [m_gateX hL hT0 ho g1, ↓dK_205 hL, ↓dG_205 hL, ↓dP_205 hL, ↓dZ_205 hL (x := nI 0) (Or.inl rfl), ↓dZ_205 hL (x := nI 1) (Or.inr rfl), ↓dZ_205 hL (Or.inl rfl), ↓dZ_205 hL (Or.inr rfl), ↓dZ_205 hL (nB_01 _), ↓dR_205_12 hL, dI_209 hL, dS_209 hL, ↓dR_205_35 hL, dI_691 hL, dS_691 hL, ↓reduceIte, ↓kq_bi, ↓kq_let, ↓kq_rz0, ↓kq_rz1, ↓kq_rzB, ↓Option.bind_some, kq_dvn, kt_lt, kf_lt, kt_eq, kf_eq, decide_true, decide_false, eq_self, Bool.false_eq_true, Bool.true_eq_false, not_true_eq_false, not_false_eq_true, jU_eq, jU_ne, jU_U, jV_eq, jV_ne, jV_V, kn_lit, kn_add, kn_mul, kn_sdm, kn_sub, kn_div, kn_nsdm, kn_lt, kn_eq, kn_pred, kn_m1, kn_m1', kn_a31, kn_shl, kn_shr, kn_bit, nB_0, nB_1, nB_t, nB_f, Nat.zero_add, Nat.add_zero, Nat.reduceAdd, Nat.reduceMul, Nat.reduceSub, Nat.reducePow]
      unfold F_Mod_thief_b19
      exact m_bdF hL (f := 1) (i := 0) (by omega) (by omega) (by omega) (fun g => (if_neg (by decide)).trans rfl)
  obtain ⟨a1, h1, rfl⟩ := g1
  by_cases g2 : jBl x2
  case neg =>
    refine jDo_b (k := 1) (by omega) (by decide) hA (fun t u l m b c h I hL hC => ?_) (fun t u l m b c h I hL hC => ?_)
    · show F_SG_thief 64 (nI a1) x2 (jz_I h I) = _
      have hQ := jCC_Q hC hA
      have hT := hQ.1.1
      have ht := jLay_t hL
      unfold F_SG_thief
      obtain ⟨e1, e2⟩ := jBl_no g2
      simp (disch := omega) only [c_needGate hL hT ho h1, kq_th, e1, e2, ↓dK_64 hL, ↓dG_64 hL, ↓dP_64 hL, ↓dR_64_2 hL, ↓dK_85 hL, ↓dG_85 hL, ↓dP_85 hL, ↓dZ_85 hL (x := nI 0) (Or.inl rfl), ↓dZ_85 hL (x := nI 1) (Or.inr rfl), ↓dZ_85 hL (Or.inl rfl), ↓dZ_85 hL (Or.inr rfl), ↓dZ_85 hL (nB_01 _), ↓dK_T hL ht, ↓dG_T hL ht, ↓dP_T hL ht, ↓reduceIte, ↓kq_bi, ↓kq_let, ↓kq_rz0, ↓kq_rz1, ↓kq_rzB, ↓Option.bind_some, kq_dvn, kt_lt, kf_lt, kt_eq, kf_eq, decide_true, decide_false, eq_self, Bool.false_eq_true, Bool.true_eq_false, not_true_eq_false, not_false_eq_true, jU_eq, jU_ne, jU_U, jV_eq, jV_ne, jV_V, kn_lit, kn_add, kn_mul, kn_sdm, kn_sub, kn_div, kn_nsdm, kn_lt, kn_eq, kn_pred, kn_m1, kn_m1', kn_a31, kn_shl, kn_shr, kn_bit, nB_0, nB_1, nB_t, nB_f, Nat.zero_add, Nat.add_zero, Nat.reduceAdd, Nat.reduceMul, Nat.reduceSub, Nat.reducePow]
      unfold F_SG_thief_b20
      exact c_bdA hL
    · show ∃ J, F_Mod_thief 205 (nI a1) x2 (jz_I h I) = _ ∧ _
      have hQ := jMM_Q hC hA
      have N0 := jN_0 hQ
      have hQ0 := jN_QM N0 hQ
      have hT0 := hQ0.1.1
      unfold F_Mod_thief
      simp (disch := omega) only [m_isGate hL hT0 ho h1, ↓dK_205 hL, ↓dG_205 hL, ↓dP_205 hL, ↓dZ_205 hL (x := nI 0) (Or.inl rfl), ↓dZ_205 hL (x := nI 1) (Or.inr rfl), ↓dZ_205 hL (Or.inl rfl), ↓dZ_205 hL (Or.inr rfl), ↓dZ_205 hL (nB_01 _), ↓dR_205_12 hL, dI_209 hL, dS_209 hL, ↓dR_205_35 hL, dI_691 hL, dS_691 hL, ↓reduceIte, ↓kq_bi, ↓kq_let, ↓kq_rz0, ↓kq_rz1, ↓kq_rzB, ↓Option.bind_some, kq_dvn, kt_lt, kf_lt, kt_eq, kf_eq, decide_true, decide_false, eq_self, Bool.false_eq_true, Bool.true_eq_false, not_true_eq_false, not_false_eq_true, jU_eq, jU_ne, jU_U, jV_eq, jV_ne, jV_V, kn_lit, kn_add, kn_mul, kn_sdm, kn_sub, kn_div, kn_nsdm, kn_lt, kn_eq, kn_pred, kn_m1, kn_m1', kn_a31, kn_shl, kn_shr, kn_bit, nB_0, nB_1, nB_t, nB_f, Nat.zero_add, Nat.add_zero, Nat.reduceAdd, Nat.reduceMul, Nat.reduceSub, Nat.reducePow]
      unfold F_Mod_thief_b19
      simp (disch := omega) only [m_bad0 hL N0.2.2.2, m_inX (lo := 0) (hi := 1) (by omega) (by omega) (jBl_rg g2), ↓dK_205 hL, ↓dG_205 hL, ↓dP_205 hL, ↓dZ_205 hL (x := nI 0) (Or.inl rfl), ↓dZ_205 hL (x := nI 1) (Or.inr rfl), ↓dZ_205 hL (Or.inl rfl), ↓dZ_205 hL (Or.inr rfl), ↓dZ_205 hL (nB_01 _), ↓dR_205_12 hL, dI_209 hL, dS_209 hL, ↓dR_205_35 hL, dI_691 hL, dS_691 hL, ↓reduceIte, ↓kq_bi, ↓kq_let, ↓kq_rz0, ↓kq_rz1, ↓kq_rzB, ↓Option.bind_some, kq_dvn, kt_lt, kf_lt, kt_eq, kf_eq, decide_true, decide_false, eq_self, Bool.false_eq_true, Bool.true_eq_false, not_true_eq_false, not_false_eq_true, jU_eq, jU_ne, jU_U, jV_eq, jV_ne, jV_V, kn_lit, kn_add, kn_mul, kn_sdm, kn_sub, kn_div, kn_nsdm, kn_lt, kn_eq, kn_pred, kn_m1, kn_m1', kn_a31, kn_shl, kn_shr, kn_bit, nB_0, nB_1, nB_t, nB_f, Nat.zero_add, Nat.add_zero, Nat.reduceAdd, Nat.reduceMul, Nat.reduceSub, Nat.reducePow]
      unfold F_Mod_thief_b42
      exact m_bdF hL (f := 2) (i := 1) (by omega) (by omega) (by omega) (fun g => (if_neg (by decide)).trans rfl)
  obtain ⟨a2, rfl⟩ := g2
  exact jDo_q hA (fun t u l m b c h I hL hC => q_c90 hL hC (c_thief hL (jCC_Q hC hA) h1 a2)) (fun t u l m b c h I hL hC => m_thief hL (jMM_Q hC hA) h1 a2)
theorem x_guard (hA : jAG N A) (x1 x2 : Int32) : jDo cdI (fun g => F_SG_guard 64 x1 x2 g) (fun g => F_Mod_guard 205 x1 x2 g) N A := by
  obtain ⟨τ, ω, r, β, H, E, Tp, p, rf, c0, c1⟩ := A
  have ho : jTOK τ := hA.1
  have o0 : τ 0 0 ≤ 9 := ho.1
  have o1 : τ 0 1 ≤ 6 := ho.2.1
  have o2 : τ 0 2 ≤ 10 := ho.2.2.1
  have o3 : τ 0 3 ≤ 8 := ho.2.2.2.1
  by_cases g1 : jRg x1 1 24
  case neg =>
    refine jDo_b (k := 1) (by omega) (by decide) hA (fun t u l m b c h I hL hC => ?_) (fun t u l m b c h I hL hC => ?_)
    · show F_SG_guard 64 x1 x2 (jz_I h I) = _
      have hQ := jCC_Q hC hA
      have hT := hQ.1.1
      have ht := jLay_t hL
      unfold F_SG_guard
      rcases jRg_no (by omega) (by omega) g1 with e | ⟨e1, e2⟩
      · simp (disch := omega) only [F_SG_guard_b25, e, ↓dK_64 hL, ↓dG_64 hL, ↓dP_64 hL, ↓dR_64_2 hL, ↓dK_85 hL, ↓dG_85 hL, ↓dP_85 hL, ↓dZ_85 hL (x := nI 0) (Or.inl rfl), ↓dZ_85 hL (x := nI 1) (Or.inr rfl), ↓dZ_85 hL (Or.inl rfl), ↓dZ_85 hL (Or.inr rfl), ↓dZ_85 hL (nB_01 _), ↓dK_T hL ht, ↓dG_T hL ht, ↓dP_T hL ht, ↓reduceIte, ↓kq_bi, ↓kq_let, ↓kq_rz0, ↓kq_rz1, ↓kq_rzB, ↓Option.bind_some, kq_dvn, kt_lt, kf_lt, kt_eq, kf_eq, decide_true, decide_false, eq_self, Bool.false_eq_true, Bool.true_eq_false, not_true_eq_false, not_false_eq_true, jU_eq, jU_ne, jU_U, jV_eq, jV_ne, jV_V, kn_lit, kn_add, kn_mul, kn_sdm, kn_sub, kn_div, kn_nsdm, kn_lt, kn_eq, kn_pred, kn_m1, kn_m1', kn_a31, kn_shl, kn_shr, kn_bit, nB_0, nB_1, nB_t, nB_f, Nat.zero_add, Nat.add_zero, Nat.reduceAdd, Nat.reduceMul, Nat.reduceSub, Nat.reducePow]
        unfold F_SG_guard_b26
        exact c_bdA hL
      · simp (disch := omega) only [F_SG_guard_b25, e1, e2, ↓dK_64 hL, ↓dG_64 hL, ↓dP_64 hL, ↓dR_64_2 hL, ↓dK_85 hL, ↓dG_85 hL, ↓dP_85 hL, ↓dZ_85 hL (x := nI 0) (Or.inl rfl), ↓dZ_85 hL (x := nI 1) (Or.inr rfl), ↓dZ_85 hL (Or.inl rfl), ↓dZ_85 hL (Or.inr rfl), ↓dZ_85 hL (nB_01 _), ↓dK_T hL ht, ↓dG_T hL ht, ↓dP_T hL ht, ↓reduceIte, ↓kq_bi, ↓kq_let, ↓kq_rz0, ↓kq_rz1, ↓kq_rzB, ↓Option.bind_some, kq_dvn, kt_lt, kf_lt, kt_eq, kf_eq, decide_true, decide_false, eq_self, Bool.false_eq_true, Bool.true_eq_false, not_true_eq_false, not_false_eq_true, jU_eq, jU_ne, jU_U, jV_eq, jV_ne, jV_V, kn_lit, kn_add, kn_mul, kn_sdm, kn_sub, kn_div, kn_nsdm, kn_lt, kn_eq, kn_pred, kn_m1, kn_m1', kn_a31, kn_shl, kn_shr, kn_bit, nB_0, nB_1, nB_t, nB_f, Nat.zero_add, Nat.add_zero, Nat.reduceAdd, Nat.reduceMul, Nat.reduceSub, Nat.reducePow]
        unfold F_SG_guard_b26
        exact c_bdA hL
    · show ∃ J, F_Mod_guard 205 x1 x2 (jz_I h I) = _ ∧ _
      have hQ := jMM_Q hC hA
      have N0 := jN_0 hQ
      have hQ0 := jN_QM N0 hQ
      have hT0 := hQ0.1.1
      unfold F_Mod_guard
      simp (disch := omega) only [m_inX (lo := 1) (hi := 24) (by omega) (by omega) g1, F_Mod_guard_b25, ↓dK_205 hL, ↓dG_205 hL, ↓dP_205 hL, ↓dZ_205 hL (x := nI 0) (Or.inl rfl), ↓dZ_205 hL (x := nI 1) (Or.inr rfl), ↓dZ_205 hL (Or.inl rfl), ↓dZ_205 hL (Or.inr rfl), ↓dZ_205 hL (nB_01 _), ↓dR_205_12 hL, dI_209 hL, dS_209 hL, ↓dR_205_35 hL, dI_691 hL, dS_691 hL, ↓reduceIte, ↓kq_bi, ↓kq_let, ↓kq_rz0, ↓kq_rz1, ↓kq_rzB, ↓Option.bind_some, kq_dvn, kt_lt, kf_lt, kt_eq, kf_eq, decide_true, decide_false, eq_self, Bool.false_eq_true, Bool.true_eq_false, not_true_eq_false, not_false_eq_true, jU_eq, jU_ne, jU_U, jV_eq, jV_ne, jV_V, kn_lit, kn_add, kn_mul, kn_sdm, kn_sub, kn_div, kn_nsdm, kn_lt, kn_eq, kn_pred, kn_m1, kn_m1', kn_a31, kn_shl, kn_shr, kn_bit, nB_0, nB_1, nB_t, nB_f, Nat.zero_add, Nat.add_zero, Nat.reduceAdd, Nat.reduceMul, Nat.reduceSub, Nat.reducePow]
      unfold F_Mod_guard_b30
      exact m_bdF hL (f := 1) (i := 1) (by omega) (by omega) (by omega) (fun g => (if_neg (by decide)).trans rfl)
  obtain ⟨a1, l1, h1, rfl⟩ := g1
  by_cases g2 : jRg x2 0 2
  case neg =>
    refine jDo_b (k := 1) (by omega) (by decide) hA (fun t u l m b c h I hL hC => ?_) (fun t u l m b c h I hL hC => ?_)
    · show F_SG_guard 64 (nI a1) x2 (jz_I h I) = _
      have hQ := jCC_Q hC hA
      have hT := hQ.1.1
      have ht := jLay_t hL
      unfold F_SG_guard
      rcases jRg_no (by omega) (by omega) g2 with e | ⟨e1, e2⟩
      · simp (disch := omega) only [F_SG_guard_b25, e, ↓dK_64 hL, ↓dG_64 hL, ↓dP_64 hL, ↓dR_64_2 hL, ↓dK_85 hL, ↓dG_85 hL, ↓dP_85 hL, ↓dZ_85 hL (x := nI 0) (Or.inl rfl), ↓dZ_85 hL (x := nI 1) (Or.inr rfl), ↓dZ_85 hL (Or.inl rfl), ↓dZ_85 hL (Or.inr rfl), ↓dZ_85 hL (nB_01 _), ↓dK_T hL ht, ↓dG_T hL ht, ↓dP_T hL ht, ↓reduceIte, ↓kq_bi, ↓kq_let, ↓kq_rz0, ↓kq_rz1, ↓kq_rzB, ↓Option.bind_some, kq_dvn, kt_lt, kf_lt, kt_eq, kf_eq, decide_true, decide_false, eq_self, Bool.false_eq_true, Bool.true_eq_false, not_true_eq_false, not_false_eq_true, jU_eq, jU_ne, jU_U, jV_eq, jV_ne, jV_V, kn_lit, kn_add, kn_mul, kn_sdm, kn_sub, kn_div, kn_nsdm, kn_lt, kn_eq, kn_pred, kn_m1, kn_m1', kn_a31, kn_shl, kn_shr, kn_bit, nB_0, nB_1, nB_t, nB_f, Nat.zero_add, Nat.add_zero, Nat.reduceAdd, Nat.reduceMul, Nat.reduceSub, Nat.reducePow]
        unfold F_SG_guard_b26
        exact c_bdA hL
      · simp (disch := omega) only [F_SG_guard_b25, e1, e2, ↓dK_64 hL, ↓dG_64 hL, ↓dP_64 hL, ↓dR_64_2 hL, ↓dK_85 hL, ↓dG_85 hL, ↓dP_85 hL, ↓dZ_85 hL (x := nI 0) (Or.inl rfl), ↓dZ_85 hL (x := nI 1) (Or.inr rfl), ↓dZ_85 hL (Or.inl rfl), ↓dZ_85 hL (Or.inr rfl), ↓dZ_85 hL (nB_01 _), ↓dK_T hL ht, ↓dG_T hL ht, ↓dP_T hL ht, ↓reduceIte, ↓kq_bi, ↓kq_let, ↓kq_rz0, ↓kq_rz1, ↓kq_rzB, ↓Option.bind_some, kq_dvn, kt_lt, kf_lt, kt_eq, kf_eq, decide_true, decide_false, eq_self, Bool.false_eq_true, Bool.true_eq_false, not_true_eq_false, not_false_eq_true, jU_eq, jU_ne, jU_U, jV_eq, jV_ne, jV_V, kn_lit, kn_add, kn_mul, kn_sdm, kn_sub, kn_div, kn_nsdm, kn_lt, kn_eq, kn_pred, kn_m1, kn_m1', kn_a31, kn_shl, kn_shr, kn_bit, nB_0, nB_1, nB_t, nB_f, Nat.zero_add, Nat.add_zero, Nat.reduceAdd, Nat.reduceMul, Nat.reduceSub, Nat.reducePow]
        unfold F_SG_guard_b26
        exact c_bdA hL
    · show ∃ J, F_Mod_guard 205 (nI a1) x2 (jz_I h I) = _ ∧ _
      have hQ := jMM_Q hC hA
      have N0 := jN_0 hQ
      have hQ0 := jN_QM N0 hQ
      have hT0 := hQ0.1.1
      unfold F_Mod_guard
      simp (disch := omega) only [m_in1, m_inX (lo := 0) (hi := 2) (by omega) (by omega) g2, F_Mod_guard_b25, ↓dK_205 hL, ↓dG_205 hL, ↓dP_205 hL, ↓dZ_205 hL (x := nI 0) (Or.inl rfl), ↓dZ_205 hL (x := nI 1) (Or.inr rfl), ↓dZ_205 hL (Or.inl rfl), ↓dZ_205 hL (Or.inr rfl), ↓dZ_205 hL (nB_01 _), ↓dR_205_12 hL, dI_209 hL, dS_209 hL, ↓dR_205_35 hL, dI_691 hL, dS_691 hL, ↓reduceIte, ↓kq_bi, ↓kq_let, ↓kq_rz0, ↓kq_rz1, ↓kq_rzB, ↓Option.bind_some, kq_dvn, kt_lt, kf_lt, kt_eq, kf_eq, decide_true, decide_false, eq_self, Bool.false_eq_true, Bool.true_eq_false, not_true_eq_false, not_false_eq_true, jU_eq, jU_ne, jU_U, jV_eq, jV_ne, jV_V, kn_lit, kn_add, kn_mul, kn_sdm, kn_sub, kn_div, kn_nsdm, kn_lt, kn_eq, kn_pred, kn_m1, kn_m1', kn_a31, kn_shl, kn_shr, kn_bit, nB_0, nB_1, nB_t, nB_f, Nat.zero_add, Nat.add_zero, Nat.reduceAdd, Nat.reduceMul, Nat.reduceSub, Nat.reducePow]
      unfold F_Mod_guard_b30
      exact m_bdF hL (f := 1) (i := 1) (by omega) (by omega) (by omega) (fun g => (if_neg (by decide)).trans rfl)
  obtain ⟨a2, l2, h2, rfl⟩ := g2
  exact jDo_q hA (fun t u l m b c h I hL hC => q_g hL hC (c_guard hL (jCC_Q hC hA) l1 h1 h2)) (fun t u l m b c h I hL hC => m_guard hL (jMM_Q hC hA) l1 h1 h2)
theorem x_lean (hA : jAG N A) (x1 x2 x3 : Int32) : jDo cdB (fun g => F_SG_lean 64 x1 x2 x3 g) (fun g => F_Mod_lean 205 x1 x2 x3 g) N A := by
  obtain ⟨τ, ω, r, β, H, E, Tp, p, rf, c0, c1⟩ := A
  have ho : jTOK τ := hA.1
  have o0 : τ 0 0 ≤ 9 := ho.1
  have o1 : τ 0 1 ≤ 6 := ho.2.1
  have o2 : τ 0 2 ≤ 10 := ho.2.2.1
  have o3 : τ 0 3 ≤ 8 := ho.2.2.2.1
  by_cases g1 : jIn x1 (τ 0 0)
  case neg =>
    refine jDo_b (k := 0) (by omega) (by decide) hA (fun t u l m b c h I hL hC => ?_) (fun t u l m b c h I hL hC => ?_)
    · show F_SG_lean 64 x1 x2 x3 (jz_I h I) = _
      have hQ := jCC_Q hC hA
      have hT := hQ.1.1
      have ht := jLay_t hL
      unfold F_SG_lean
      exact c_bdG hL hQ g1
    · show ∃ J, F_Mod_lean 205 x1 x2 x3 (jz_I h I) = _ ∧ _
      have hQ := jMM_Q hC hA
      have N0 := jN_0 hQ
      have hQ0 := jN_QM N0 hQ
      have hT0 := hQ0.1.1
      unfold F_Mod_lean
      simp (disch := omega) only [m_gateX hL hT0 ho g1, ↓dK_205 hL, ↓dG_205 hL, ↓dP_205 hL, ↓dZ_205 hL (x := nI 0) (Or.inl rfl), ↓dZ_205 hL (x := nI 1) (Or.inr rfl), ↓dZ_205 hL (Or.inl rfl), ↓dZ_205 hL (Or.inr rfl), ↓dZ_205 hL (nB_01 _), ↓dR_205_12 hL, dI_209 hL, dS_209 hL, ↓dR_205_35 hL, dI_691 hL, dS_691 hL, ↓reduceIte, ↓kq_bi, ↓kq_let, ↓kq_rz0, ↓kq_rz1, ↓kq_rzB, ↓Option.bind_some, kq_dvn, kt_lt, kf_lt, kt_eq, kf_eq, decide_true, decide_false, eq_self, Bool.false_eq_true, Bool.true_eq_false, not_true_eq_false, not_false_eq_true, jU_eq, jU_ne, jU_U, jV_eq, jV_ne, jV_V, kn_lit, kn_add, kn_mul, kn_sdm, kn_sub, kn_div, kn_nsdm, kn_lt, kn_eq, kn_pred, kn_m1, kn_m1', kn_a31, kn_shl, kn_shr, kn_bit, nB_0, nB_1, nB_t, nB_f, Nat.zero_add, Nat.add_zero, Nat.reduceAdd, Nat.reduceMul, Nat.reduceSub, Nat.reducePow]
      unfold F_Mod_lean_b19
      exact m_bdF hL (f := 1) (i := 0) (by omega) (by omega) (by omega) (fun g => (if_neg (by decide)).trans rfl)
  obtain ⟨a1, h1, rfl⟩ := g1
  by_cases g2 : jIn x2 (2 ^ τ 0 0)
  case neg =>
    refine jDo_b (k := 1) (by omega) (by decide) hA (fun t u l m b c h I hL hC => ?_) (fun t u l m b c h I hL hC => ?_)
    · show F_SG_lean 64 (nI a1) x2 x3 (jz_I h I) = _
      have hQ := jCC_Q hC hA
      have hT := hQ.1.1
      have ht := jLay_t hL
      unfold F_SG_lean
      simp (disch := omega) only [c_needGate hL hT ho h1, kq_th, F_SG_lean_b27, c_areX hL hQ g2, ↓dK_64 hL, ↓dG_64 hL, ↓dP_64 hL, ↓dR_64_2 hL, ↓dK_85 hL, ↓dG_85 hL, ↓dP_85 hL, ↓dZ_85 hL (x := nI 0) (Or.inl rfl), ↓dZ_85 hL (x := nI 1) (Or.inr rfl), ↓dZ_85 hL (Or.inl rfl), ↓dZ_85 hL (Or.inr rfl), ↓dZ_85 hL (nB_01 _), ↓dK_T hL ht, ↓dG_T hL ht, ↓dP_T hL ht, ↓reduceIte, ↓kq_bi, ↓kq_let, ↓kq_rz0, ↓kq_rz1, ↓kq_rzB, ↓Option.bind_some, kq_dvn, kt_lt, kf_lt, kt_eq, kf_eq, decide_true, decide_false, eq_self, Bool.false_eq_true, Bool.true_eq_false, not_true_eq_false, not_false_eq_true, jU_eq, jU_ne, jU_U, jV_eq, jV_ne, jV_V, kn_lit, kn_add, kn_mul, kn_sdm, kn_sub, kn_div, kn_nsdm, kn_lt, kn_eq, kn_pred, kn_m1, kn_m1', kn_a31, kn_shl, kn_shr, kn_bit, nB_0, nB_1, nB_t, nB_f, Nat.zero_add, Nat.add_zero, Nat.reduceAdd, Nat.reduceMul, Nat.reduceSub, Nat.reducePow]
      unfold F_SG_lean_b28
      exact c_bdA hL
    · show ∃ J, F_Mod_lean 205 (nI a1) x2 x3 (jz_I h I) = _ ∧ _
      have hQ := jMM_Q hC hA
      have N0 := jN_0 hQ
      have hQ0 := jN_QM N0 hQ
      have hT0 := hQ0.1.1
      unfold F_Mod_lean
      simp (disch := omega) only [m_isGate hL hT0 ho h1, ↓dK_205 hL, ↓dG_205 hL, ↓dP_205 hL, ↓dZ_205 hL (x := nI 0) (Or.inl rfl), ↓dZ_205 hL (x := nI 1) (Or.inr rfl), ↓dZ_205 hL (Or.inl rfl), ↓dZ_205 hL (Or.inr rfl), ↓dZ_205 hL (nB_01 _), ↓dR_205_12 hL, dI_209 hL, dS_209 hL, ↓dR_205_35 hL, dI_691 hL, dS_691 hL, ↓reduceIte, ↓kq_bi, ↓kq_let, ↓kq_rz0, ↓kq_rz1, ↓kq_rzB, ↓Option.bind_some, kq_dvn, kt_lt, kf_lt, kt_eq, kf_eq, decide_true, decide_false, eq_self, Bool.false_eq_true, Bool.true_eq_false, not_true_eq_false, not_false_eq_true, jU_eq, jU_ne, jU_U, jV_eq, jV_ne, jV_V, kn_lit, kn_add, kn_mul, kn_sdm, kn_sub, kn_div, kn_nsdm, kn_lt, kn_eq, kn_pred, kn_m1, kn_m1', kn_a31, kn_shl, kn_shr, kn_bit, nB_0, nB_1, nB_t, nB_f, Nat.zero_add, Nat.add_zero, Nat.reduceAdd, Nat.reduceMul, Nat.reduceSub, Nat.reducePow]
      unfold F_Mod_lean_b19
      simp (disch := omega) only [m_bad0 hL N0.2.2.2, m_areX hL hT0 ho g2, F_Mod_lean_b45, ↓dK_205 hL, ↓dG_205 hL, ↓dP_205 hL, ↓dZ_205 hL (x := nI 0) (Or.inl rfl), ↓dZ_205 hL (x := nI 1) (Or.inr rfl), ↓dZ_205 hL (Or.inl rfl), ↓dZ_205 hL (Or.inr rfl), ↓dZ_205 hL (nB_01 _), ↓dR_205_12 hL, dI_209 hL, dS_209 hL, ↓dR_205_35 hL, dI_691 hL, dS_691 hL, ↓reduceIte, ↓kq_bi, ↓kq_let, ↓kq_rz0, ↓kq_rz1, ↓kq_rzB, ↓Option.bind_some, kq_dvn, kt_lt, kf_lt, kt_eq, kf_eq, decide_true, decide_false, eq_self, Bool.false_eq_true, Bool.true_eq_false, not_true_eq_false, not_false_eq_true, jU_eq, jU_ne, jU_U, jV_eq, jV_ne, jV_V, kn_lit, kn_add, kn_mul, kn_sdm, kn_sub, kn_div, kn_nsdm, kn_lt, kn_eq, kn_pred, kn_m1, kn_m1', kn_a31, kn_shl, kn_shr, kn_bit, nB_0, nB_1, nB_t, nB_f, Nat.zero_add, Nat.add_zero, Nat.reduceAdd, Nat.reduceMul, Nat.reduceSub, Nat.reducePow]
      unfold F_Mod_lean_b50
      exact m_bdF hL (f := 2) (i := 1) (by omega) (by omega) (by omega) (fun g => (if_neg (by decide)).trans rfl)
  obtain ⟨a2, h2, rfl⟩ := g2
  by_cases g3 : jBl x3
  case neg =>
    refine jDo_b (k := 1) (by omega) (by decide) hA (fun t u l m b c h I hL hC => ?_) (fun t u l m b c h I hL hC => ?_)
    · show F_SG_lean 64 (nI a1) (nI a2) x3 (jz_I h I) = _
      have hQ := jCC_Q hC hA
      have hT := hQ.1.1
      have ht := jLay_t hL
      unfold F_SG_lean
      obtain ⟨e1, e2⟩ := jBl_no g3
      simp (disch := omega) only [c_needGate hL hT ho h1, kq_th, c_areGates hL hQ h2, F_SG_lean_b27, e1, e2, ↓dK_64 hL, ↓dG_64 hL, ↓dP_64 hL, ↓dR_64_2 hL, ↓dK_85 hL, ↓dG_85 hL, ↓dP_85 hL, ↓dZ_85 hL (x := nI 0) (Or.inl rfl), ↓dZ_85 hL (x := nI 1) (Or.inr rfl), ↓dZ_85 hL (Or.inl rfl), ↓dZ_85 hL (Or.inr rfl), ↓dZ_85 hL (nB_01 _), ↓dK_T hL ht, ↓dG_T hL ht, ↓dP_T hL ht, ↓reduceIte, ↓kq_bi, ↓kq_let, ↓kq_rz0, ↓kq_rz1, ↓kq_rzB, ↓Option.bind_some, kq_dvn, kt_lt, kf_lt, kt_eq, kf_eq, decide_true, decide_false, eq_self, Bool.false_eq_true, Bool.true_eq_false, not_true_eq_false, not_false_eq_true, jU_eq, jU_ne, jU_U, jV_eq, jV_ne, jV_V, kn_lit, kn_add, kn_mul, kn_sdm, kn_sub, kn_div, kn_nsdm, kn_lt, kn_eq, kn_pred, kn_m1, kn_m1', kn_a31, kn_shl, kn_shr, kn_bit, nB_0, nB_1, nB_t, nB_f, Nat.zero_add, Nat.add_zero, Nat.reduceAdd, Nat.reduceMul, Nat.reduceSub, Nat.reducePow]
      unfold F_SG_lean_b28
      exact c_bdA hL
    · show ∃ J, F_Mod_lean 205 (nI a1) (nI a2) x3 (jz_I h I) = _ ∧ _
      have hQ := jMM_Q hC hA
      have N0 := jN_0 hQ
      have hQ0 := jN_QM N0 hQ
      have hT0 := hQ0.1.1
      unfold F_Mod_lean
      simp (disch := omega) only [m_isGate hL hT0 ho h1, ↓dK_205 hL, ↓dG_205 hL, ↓dP_205 hL, ↓dZ_205 hL (x := nI 0) (Or.inl rfl), ↓dZ_205 hL (x := nI 1) (Or.inr rfl), ↓dZ_205 hL (Or.inl rfl), ↓dZ_205 hL (Or.inr rfl), ↓dZ_205 hL (nB_01 _), ↓dR_205_12 hL, dI_209 hL, dS_209 hL, ↓dR_205_35 hL, dI_691 hL, dS_691 hL, ↓reduceIte, ↓kq_bi, ↓kq_let, ↓kq_rz0, ↓kq_rz1, ↓kq_rzB, ↓Option.bind_some, kq_dvn, kt_lt, kf_lt, kt_eq, kf_eq, decide_true, decide_false, eq_self, Bool.false_eq_true, Bool.true_eq_false, not_true_eq_false, not_false_eq_true, jU_eq, jU_ne, jU_U, jV_eq, jV_ne, jV_V, kn_lit, kn_add, kn_mul, kn_sdm, kn_sub, kn_div, kn_nsdm, kn_lt, kn_eq, kn_pred, kn_m1, kn_m1', kn_a31, kn_shl, kn_shr, kn_bit, nB_0, nB_1, nB_t, nB_f, Nat.zero_add, Nat.add_zero, Nat.reduceAdd, Nat.reduceMul, Nat.reduceSub, Nat.reducePow]
      unfold F_Mod_lean_b19
      simp (disch := omega) only [m_bad0 hL N0.2.2.2, m_areGates hL hQ0 h2, m_inX (lo := 0) (hi := 1) (by omega) (by omega) (jBl_rg g3), F_Mod_lean_b45, ↓dK_205 hL, ↓dG_205 hL, ↓dP_205 hL, ↓dZ_205 hL (x := nI 0) (Or.inl rfl), ↓dZ_205 hL (x := nI 1) (Or.inr rfl), ↓dZ_205 hL (Or.inl rfl), ↓dZ_205 hL (Or.inr rfl), ↓dZ_205 hL (nB_01 _), ↓dR_205_12 hL, dI_209 hL, dS_209 hL, ↓dR_205_35 hL, dI_691 hL, dS_691 hL, ↓reduceIte, ↓kq_bi, ↓kq_let, ↓kq_rz0, ↓kq_rz1, ↓kq_rzB, ↓Option.bind_some, kq_dvn, kt_lt, kf_lt, kt_eq, kf_eq, decide_true, decide_false, eq_self, Bool.false_eq_true, Bool.true_eq_false, not_true_eq_false, not_false_eq_true, jU_eq, jU_ne, jU_U, jV_eq, jV_ne, jV_V, kn_lit, kn_add, kn_mul, kn_sdm, kn_sub, kn_div, kn_nsdm, kn_lt, kn_eq, kn_pred, kn_m1, kn_m1', kn_a31, kn_shl, kn_shr, kn_bit, nB_0, nB_1, nB_t, nB_f, Nat.zero_add, Nat.add_zero, Nat.reduceAdd, Nat.reduceMul, Nat.reduceSub, Nat.reducePow]
      unfold F_Mod_lean_b50
      exact m_bdF hL (f := 2) (i := 1) (by omega) (by omega) (by omega) (fun g => (if_neg (by decide)).trans rfl)
  obtain ⟨a3, rfl⟩ := g3
  exact jDo_q hA (fun t u l m b c h I hL hC => q_c85 hL hC (c_lean hL (jCC_Q hC hA) h1 h2 a3)) (fun t u l m b c h I hL hC => m_lean hL (jMM_Q hC hA) h1 h2 a3)
theorem x_burnt (hA : jAG N A) (x1 : Int32) : jDo cdE (fun g => F_SG_burnt 64 x1 g) (fun g => F_Mod_burnt 205 x1 g) N A := by
  obtain ⟨τ, ω, r, β, H, E, Tp, p, rf, c0, c1⟩ := A
  have ho : jTOK τ := hA.1
  have o0 : τ 0 0 ≤ 9 := ho.1
  have o1 : τ 0 1 ≤ 6 := ho.2.1
  have o2 : τ 0 2 ≤ 10 := ho.2.2.1
  have o3 : τ 0 3 ≤ 8 := ho.2.2.2.1
  by_cases g1 : jIn x1 (τ 0 0)
  case neg =>
    refine jDo_b (k := 0) (by omega) (by decide) hA (fun t u l m b c h I hL hC => ?_) (fun t u l m b c h I hL hC => ?_)
    · show F_SG_burnt 64 x1 (jz_I h I) = _
      have hQ := jCC_Q hC hA
      have hT := hQ.1.1
      have ht := jLay_t hL
      unfold F_SG_burnt
      exact c_bdG hL hQ g1
    · show ∃ J, F_Mod_burnt 205 x1 (jz_I h I) = _ ∧ _
      have hQ := jMM_Q hC hA
      have N0 := jN_0 hQ
      have hQ0 := jN_QM N0 hQ
      have hT0 := hQ0.1.1
      unfold F_Mod_burnt
      simp (disch := omega) only [m_gateX hL hT0 ho g1, ↓dK_205 hL, ↓dG_205 hL, ↓dP_205 hL, ↓dZ_205 hL (x := nI 0) (Or.inl rfl), ↓dZ_205 hL (x := nI 1) (Or.inr rfl), ↓dZ_205 hL (Or.inl rfl), ↓dZ_205 hL (Or.inr rfl), ↓dZ_205 hL (nB_01 _), ↓dR_205_12 hL, dI_209 hL, dS_209 hL, ↓dR_205_35 hL, dI_691 hL, dS_691 hL, ↓reduceIte, ↓kq_bi, ↓kq_let, ↓kq_rz0, ↓kq_rz1, ↓kq_rzB, ↓Option.bind_some, kq_dvn, kt_lt, kf_lt, kt_eq, kf_eq, decide_true, decide_false, eq_self, Bool.false_eq_true, Bool.true_eq_false, not_true_eq_false, not_false_eq_true, jU_eq, jU_ne, jU_U, jV_eq, jV_ne, jV_V, kn_lit, kn_add, kn_mul, kn_sdm, kn_sub, kn_div, kn_nsdm, kn_lt, kn_eq, kn_pred, kn_m1, kn_m1', kn_a31, kn_shl, kn_shr, kn_bit, nB_0, nB_1, nB_t, nB_f, Nat.zero_add, Nat.add_zero, Nat.reduceAdd, Nat.reduceMul, Nat.reduceSub, Nat.reducePow]
      unfold F_Mod_burnt_b19
      exact m_bdF hL (f := 1) (i := 0) (by omega) (by omega) (by omega) (fun g => (if_neg (by decide)).trans rfl)
  obtain ⟨a1, h1, rfl⟩ := g1
  exact jDo_q hA (fun t u l m b c h I hL hC => q_c85 hL hC (c_burnt hL (jCC_Q hC hA) hC.2.2.1 hA.2.2.2.1 h1)) (fun t u l m b c h I hL hC => m_burnt hL (jMM_Q hC hA) hC.2.2.1 hA.2.2.2.1 h1)
theorem x_fits (hA : jAG N A) (x1 : Int32) : jDo cdI (fun g => F_SG_fits 64 x1 g) (fun g => F_Mod_fits 205 x1 g) N A := by
  obtain ⟨τ, ω, r, β, H, E, Tp, p, rf, c0, c1⟩ := A
  have ho : jTOK τ := hA.1
  have o0 : τ 0 0 ≤ 9 := ho.1
  have o1 : τ 0 1 ≤ 6 := ho.2.1
  have o2 : τ 0 2 ≤ 10 := ho.2.2.1
  have o3 : τ 0 3 ≤ 8 := ho.2.2.2.1
  by_cases g1 : jBl x1
  case neg =>
    refine jDo_b (k := 1) (by omega) (by decide) hA (fun t u l m b c h I hL hC => ?_) (fun t u l m b c h I hL hC => ?_)
    · show F_SG_fits 64 x1 (jz_I h I) = _
      have hQ := jCC_Q hC hA
      have hT := hQ.1.1
      have ht := jLay_t hL
      unfold F_SG_fits
      obtain ⟨e1, e2⟩ := jBl_no g1
      simp (disch := omega) only [e1, e2, ↓dK_64 hL, ↓dG_64 hL, ↓dP_64 hL, ↓dR_64_2 hL, ↓dK_85 hL, ↓dG_85 hL, ↓dP_85 hL, ↓dZ_85 hL (x := nI 0) (Or.inl rfl), ↓dZ_85 hL (x := nI 1) (Or.inr rfl), ↓dZ_85 hL (Or.inl rfl), ↓dZ_85 hL (Or.inr rfl), ↓dZ_85 hL (nB_01 _), ↓dK_T hL ht, ↓dG_T hL ht, ↓dP_T hL ht, ↓reduceIte, ↓kq_bi, ↓kq_let, ↓kq_rz0, ↓kq_rz1, ↓kq_rzB, ↓Option.bind_some, kq_dvn, kt_lt, kf_lt, kt_eq, kf_eq, decide_true, decide_false, eq_self, Bool.false_eq_true, Bool.true_eq_false, not_true_eq_false, not_false_eq_true, jU_eq, jU_ne, jU_U, jV_eq, jV_ne, jV_V, kn_lit, kn_add, kn_mul, kn_sdm, kn_sub, kn_div, kn_nsdm, kn_lt, kn_eq, kn_pred, kn_m1, kn_m1', kn_a31, kn_shl, kn_shr, kn_bit, nB_0, nB_1, nB_t, nB_f, Nat.zero_add, Nat.add_zero, Nat.reduceAdd, Nat.reduceMul, Nat.reduceSub, Nat.reducePow]
      unfold F_SG_fits_b15
      exact c_bdA hL
    · show ∃ J, F_Mod_fits 205 x1 (jz_I h I) = _ ∧ _
      have hQ := jMM_Q hC hA
      have N0 := jN_0 hQ
      have hQ0 := jN_QM N0 hQ
      have hT0 := hQ0.1.1
      unfold F_Mod_fits
      simp (disch := omega) only [m_inX (lo := 0) (hi := 1) (by omega) (by omega) (jBl_rg g1), ↓dK_205 hL, ↓dG_205 hL, ↓dP_205 hL, ↓dZ_205 hL (x := nI 0) (Or.inl rfl), ↓dZ_205 hL (x := nI 1) (Or.inr rfl), ↓dZ_205 hL (Or.inl rfl), ↓dZ_205 hL (Or.inr rfl), ↓dZ_205 hL (nB_01 _), ↓dR_205_12 hL, dI_209 hL, dS_209 hL, ↓dR_205_35 hL, dI_691 hL, dS_691 hL, ↓reduceIte, ↓kq_bi, ↓kq_let, ↓kq_rz0, ↓kq_rz1, ↓kq_rzB, ↓Option.bind_some, kq_dvn, kt_lt, kf_lt, kt_eq, kf_eq, decide_true, decide_false, eq_self, Bool.false_eq_true, Bool.true_eq_false, not_true_eq_false, not_false_eq_true, jU_eq, jU_ne, jU_U, jV_eq, jV_ne, jV_V, kn_lit, kn_add, kn_mul, kn_sdm, kn_sub, kn_div, kn_nsdm, kn_lt, kn_eq, kn_pred, kn_m1, kn_m1', kn_a31, kn_shl, kn_shr, kn_bit, nB_0, nB_1, nB_t, nB_f, Nat.zero_add, Nat.add_zero, Nat.reduceAdd, Nat.reduceMul, Nat.reduceSub, Nat.reducePow]
      unfold F_Mod_fits_b20
      exact m_bdF hL (f := 1) (i := 1) (by omega) (by omega) (by omega) (fun g => (if_neg (by decide)).trans rfl)
  obtain ⟨a1, rfl⟩ := g1
  exact jDo_q hA (fun t u l m b c h I hL hC => q_c85 hL hC (c_fits hL (jCC_Q hC hA) hC.2.2.1 hA.2.2.2.1 a1)) (fun t u l m b c h I hL hC => m_fits hL (jMM_Q hC hA) hC.2.2.1 hA.2.2.2.1 a1)
theorem x_nose (hA : jAG N A) (x1 : Int32) : jDo cdI (fun g => F_SG_nose 64 x1 g) (fun g => F_Mod_nose 205 x1 g) N A := by
  obtain ⟨τ, ω, r, β, H, E, Tp, p, rf, c0, c1⟩ := A
  have ho : jTOK τ := hA.1
  have o0 : τ 0 0 ≤ 9 := ho.1
  have o1 : τ 0 1 ≤ 6 := ho.2.1
  have o2 : τ 0 2 ≤ 10 := ho.2.2.1
  have o3 : τ 0 3 ≤ 8 := ho.2.2.2.1
  by_cases g1 : jBl x1
  case neg =>
    refine jDo_b (k := 1) (by omega) (by decide) hA (fun t u l m b c h I hL hC => ?_) (fun t u l m b c h I hL hC => ?_)
    · show F_SG_nose 64 x1 (jz_I h I) = _
      have hQ := jCC_Q hC hA
      have hT := hQ.1.1
      have ht := jLay_t hL
      unfold F_SG_nose
      obtain ⟨e1, e2⟩ := jBl_no g1
      simp (disch := omega) only [e1, e2, ↓dK_64 hL, ↓dG_64 hL, ↓dP_64 hL, ↓dR_64_2 hL, ↓dK_85 hL, ↓dG_85 hL, ↓dP_85 hL, ↓dZ_85 hL (x := nI 0) (Or.inl rfl), ↓dZ_85 hL (x := nI 1) (Or.inr rfl), ↓dZ_85 hL (Or.inl rfl), ↓dZ_85 hL (Or.inr rfl), ↓dZ_85 hL (nB_01 _), ↓dK_T hL ht, ↓dG_T hL ht, ↓dP_T hL ht, ↓reduceIte, ↓kq_bi, ↓kq_let, ↓kq_rz0, ↓kq_rz1, ↓kq_rzB, ↓Option.bind_some, kq_dvn, kt_lt, kf_lt, kt_eq, kf_eq, decide_true, decide_false, eq_self, Bool.false_eq_true, Bool.true_eq_false, not_true_eq_false, not_false_eq_true, jU_eq, jU_ne, jU_U, jV_eq, jV_ne, jV_V, kn_lit, kn_add, kn_mul, kn_sdm, kn_sub, kn_div, kn_nsdm, kn_lt, kn_eq, kn_pred, kn_m1, kn_m1', kn_a31, kn_shl, kn_shr, kn_bit, nB_0, nB_1, nB_t, nB_f, Nat.zero_add, Nat.add_zero, Nat.reduceAdd, Nat.reduceMul, Nat.reduceSub, Nat.reducePow]
      unfold F_SG_nose_b15
      exact c_bdA hL
    · show ∃ J, F_Mod_nose 205 x1 (jz_I h I) = _ ∧ _
      have hQ := jMM_Q hC hA
      have N0 := jN_0 hQ
      have hQ0 := jN_QM N0 hQ
      have hT0 := hQ0.1.1
      unfold F_Mod_nose
      simp (disch := omega) only [m_inX (lo := 0) (hi := 1) (by omega) (by omega) (jBl_rg g1), ↓dK_205 hL, ↓dG_205 hL, ↓dP_205 hL, ↓dZ_205 hL (x := nI 0) (Or.inl rfl), ↓dZ_205 hL (x := nI 1) (Or.inr rfl), ↓dZ_205 hL (Or.inl rfl), ↓dZ_205 hL (Or.inr rfl), ↓dZ_205 hL (nB_01 _), ↓dR_205_12 hL, dI_209 hL, dS_209 hL, ↓dR_205_35 hL, dI_691 hL, dS_691 hL, ↓reduceIte, ↓kq_bi, ↓kq_let, ↓kq_rz0, ↓kq_rz1, ↓kq_rzB, ↓Option.bind_some, kq_dvn, kt_lt, kf_lt, kt_eq, kf_eq, decide_true, decide_false, eq_self, Bool.false_eq_true, Bool.true_eq_false, not_true_eq_false, not_false_eq_true, jU_eq, jU_ne, jU_U, jV_eq, jV_ne, jV_V, kn_lit, kn_add, kn_mul, kn_sdm, kn_sub, kn_div, kn_nsdm, kn_lt, kn_eq, kn_pred, kn_m1, kn_m1', kn_a31, kn_shl, kn_shr, kn_bit, nB_0, nB_1, nB_t, nB_f, Nat.zero_add, Nat.add_zero, Nat.reduceAdd, Nat.reduceMul, Nat.reduceSub, Nat.reducePow]
      unfold F_Mod_nose_b20
      exact m_bdF hL (f := 1) (i := 1) (by omega) (by omega) (by omega) (fun g => (if_neg (by decide)).trans rfl)
  obtain ⟨a1, rfl⟩ := g1
  exact jDo_q hA (fun t u l m b c h I hL hC => q_b hL hC (c_nose hL (jCC_Q hC hA) hC.2.2.1 hA.2.2.2.1 a1)) (fun t u l m b c h I hL hC => m_nose hL (jMM_Q hC hA) hC.2.2.1 hA.2.2.2.1 a1)
theorem x_siege (hA : jAG N A) (x1 x2 : Int32) : jDo cdI (fun g => F_SG_siege 64 x1 x2 g) (fun g => F_Mod_siege 205 x1 x2 g) N A := by
  obtain ⟨τ, ω, r, β, H, E, Tp, p, rf, c0, c1⟩ := A
  have ho : jTOK τ := hA.1
  have o0 : τ 0 0 ≤ 9 := ho.1
  have o1 : τ 0 1 ≤ 6 := ho.2.1
  have o2 : τ 0 2 ≤ 10 := ho.2.2.1
  have o3 : τ 0 3 ≤ 8 := ho.2.2.2.1
  by_cases g1 : jRg x1 1 9
  case neg =>
    refine jDo_b (k := 1) (by omega) (by decide) hA (fun t u l m b c h I hL hC => ?_) (fun t u l m b c h I hL hC => ?_)
    · show F_SG_siege 64 x1 x2 (jz_I h I) = _
      have hQ := jCC_Q hC hA
      have hT := hQ.1.1
      have ht := jLay_t hL
      unfold F_SG_siege
      rcases jRg_no (by omega) (by omega) g1 with e | ⟨e1, e2⟩
      · simp (disch := omega) only [F_SG_siege_b25, e, ↓dK_64 hL, ↓dG_64 hL, ↓dP_64 hL, ↓dR_64_2 hL, ↓dK_85 hL, ↓dG_85 hL, ↓dP_85 hL, ↓dZ_85 hL (x := nI 0) (Or.inl rfl), ↓dZ_85 hL (x := nI 1) (Or.inr rfl), ↓dZ_85 hL (Or.inl rfl), ↓dZ_85 hL (Or.inr rfl), ↓dZ_85 hL (nB_01 _), ↓dK_T hL ht, ↓dG_T hL ht, ↓dP_T hL ht, ↓reduceIte, ↓kq_bi, ↓kq_let, ↓kq_rz0, ↓kq_rz1, ↓kq_rzB, ↓Option.bind_some, kq_dvn, kt_lt, kf_lt, kt_eq, kf_eq, decide_true, decide_false, eq_self, Bool.false_eq_true, Bool.true_eq_false, not_true_eq_false, not_false_eq_true, jU_eq, jU_ne, jU_U, jV_eq, jV_ne, jV_V, kn_lit, kn_add, kn_mul, kn_sdm, kn_sub, kn_div, kn_nsdm, kn_lt, kn_eq, kn_pred, kn_m1, kn_m1', kn_a31, kn_shl, kn_shr, kn_bit, nB_0, nB_1, nB_t, nB_f, Nat.zero_add, Nat.add_zero, Nat.reduceAdd, Nat.reduceMul, Nat.reduceSub, Nat.reducePow]
        unfold F_SG_siege_b26
        exact c_bdA hL
      · simp (disch := omega) only [F_SG_siege_b25, e1, e2, ↓dK_64 hL, ↓dG_64 hL, ↓dP_64 hL, ↓dR_64_2 hL, ↓dK_85 hL, ↓dG_85 hL, ↓dP_85 hL, ↓dZ_85 hL (x := nI 0) (Or.inl rfl), ↓dZ_85 hL (x := nI 1) (Or.inr rfl), ↓dZ_85 hL (Or.inl rfl), ↓dZ_85 hL (Or.inr rfl), ↓dZ_85 hL (nB_01 _), ↓dK_T hL ht, ↓dG_T hL ht, ↓dP_T hL ht, ↓reduceIte, ↓kq_bi, ↓kq_let, ↓kq_rz0, ↓kq_rz1, ↓kq_rzB, ↓Option.bind_some, kq_dvn, kt_lt, kf_lt, kt_eq, kf_eq, decide_true, decide_false, eq_self, Bool.false_eq_true, Bool.true_eq_false, not_true_eq_false, not_false_eq_true, jU_eq, jU_ne, jU_U, jV_eq, jV_ne, jV_V, kn_lit, kn_add, kn_mul, kn_sdm, kn_sub, kn_div, kn_nsdm, kn_lt, kn_eq, kn_pred, kn_m1, kn_m1', kn_a31, kn_shl, kn_shr, kn_bit, nB_0, nB_1, nB_t, nB_f, Nat.zero_add, Nat.add_zero, Nat.reduceAdd, Nat.reduceMul, Nat.reduceSub, Nat.reducePow]
        unfold F_SG_siege_b26
        exact c_bdA hL
    · show ∃ J, F_Mod_siege 205 x1 x2 (jz_I h I) = _ ∧ _
      have hQ := jMM_Q hC hA
      have N0 := jN_0 hQ
      have hQ0 := jN_QM N0 hQ
      have hT0 := hQ0.1.1
      unfold F_Mod_siege
      simp (disch := omega) only [m_inX (lo := 1) (hi := 9) (by omega) (by omega) g1, F_Mod_siege_b25, ↓dK_205 hL, ↓dG_205 hL, ↓dP_205 hL, ↓dZ_205 hL (x := nI 0) (Or.inl rfl), ↓dZ_205 hL (x := nI 1) (Or.inr rfl), ↓dZ_205 hL (Or.inl rfl), ↓dZ_205 hL (Or.inr rfl), ↓dZ_205 hL (nB_01 _), ↓dR_205_12 hL, dI_209 hL, dS_209 hL, ↓dR_205_35 hL, dI_691 hL, dS_691 hL, ↓reduceIte, ↓kq_bi, ↓kq_let, ↓kq_rz0, ↓kq_rz1, ↓kq_rzB, ↓Option.bind_some, kq_dvn, kt_lt, kf_lt, kt_eq, kf_eq, decide_true, decide_false, eq_self, Bool.false_eq_true, Bool.true_eq_false, not_true_eq_false, not_false_eq_true, jU_eq, jU_ne, jU_U, jV_eq, jV_ne, jV_V, kn_lit, kn_add, kn_mul, kn_sdm, kn_sub, kn_div, kn_nsdm, kn_lt, kn_eq, kn_pred, kn_m1, kn_m1', kn_a31, kn_shl, kn_shr, kn_bit, nB_0, nB_1, nB_t, nB_f, Nat.zero_add, Nat.add_zero, Nat.reduceAdd, Nat.reduceMul, Nat.reduceSub, Nat.reducePow]
      unfold F_Mod_siege_b30
      exact m_bdF hL (f := 1) (i := 1) (by omega) (by omega) (by omega) (fun g => (if_neg (by decide)).trans rfl)
  obtain ⟨a1, l1, h1, rfl⟩ := g1
  by_cases g2 : jBl x2
  case neg =>
    refine jDo_b (k := 1) (by omega) (by decide) hA (fun t u l m b c h I hL hC => ?_) (fun t u l m b c h I hL hC => ?_)
    · show F_SG_siege 64 (nI a1) x2 (jz_I h I) = _
      have hQ := jCC_Q hC hA
      have hT := hQ.1.1
      have ht := jLay_t hL
      unfold F_SG_siege
      obtain ⟨e1, e2⟩ := jBl_no g2
      simp (disch := omega) only [F_SG_siege_b25, e1, e2, ↓dK_64 hL, ↓dG_64 hL, ↓dP_64 hL, ↓dR_64_2 hL, ↓dK_85 hL, ↓dG_85 hL, ↓dP_85 hL, ↓dZ_85 hL (x := nI 0) (Or.inl rfl), ↓dZ_85 hL (x := nI 1) (Or.inr rfl), ↓dZ_85 hL (Or.inl rfl), ↓dZ_85 hL (Or.inr rfl), ↓dZ_85 hL (nB_01 _), ↓dK_T hL ht, ↓dG_T hL ht, ↓dP_T hL ht, ↓reduceIte, ↓kq_bi, ↓kq_let, ↓kq_rz0, ↓kq_rz1, ↓kq_rzB, ↓Option.bind_some, kq_dvn, kt_lt, kf_lt, kt_eq, kf_eq, decide_true, decide_false, eq_self, Bool.false_eq_true, Bool.true_eq_false, not_true_eq_false, not_false_eq_true, jU_eq, jU_ne, jU_U, jV_eq, jV_ne, jV_V, kn_lit, kn_add, kn_mul, kn_sdm, kn_sub, kn_div, kn_nsdm, kn_lt, kn_eq, kn_pred, kn_m1, kn_m1', kn_a31, kn_shl, kn_shr, kn_bit, nB_0, nB_1, nB_t, nB_f, Nat.zero_add, Nat.add_zero, Nat.reduceAdd, Nat.reduceMul, Nat.reduceSub, Nat.reducePow]
      unfold F_SG_siege_b26
      exact c_bdA hL
    · show ∃ J, F_Mod_siege 205 (nI a1) x2 (jz_I h I) = _ ∧ _
      have hQ := jMM_Q hC hA
      have N0 := jN_0 hQ
      have hQ0 := jN_QM N0 hQ
      have hT0 := hQ0.1.1
      unfold F_Mod_siege
      simp (disch := omega) only [m_in1, m_inX (lo := 0) (hi := 1) (by omega) (by omega) (jBl_rg g2), F_Mod_siege_b25, ↓dK_205 hL, ↓dG_205 hL, ↓dP_205 hL, ↓dZ_205 hL (x := nI 0) (Or.inl rfl), ↓dZ_205 hL (x := nI 1) (Or.inr rfl), ↓dZ_205 hL (Or.inl rfl), ↓dZ_205 hL (Or.inr rfl), ↓dZ_205 hL (nB_01 _), ↓dR_205_12 hL, dI_209 hL, dS_209 hL, ↓dR_205_35 hL, dI_691 hL, dS_691 hL, ↓reduceIte, ↓kq_bi, ↓kq_let, ↓kq_rz0, ↓kq_rz1, ↓kq_rzB, ↓Option.bind_some, kq_dvn, kt_lt, kf_lt, kt_eq, kf_eq, decide_true, decide_false, eq_self, Bool.false_eq_true, Bool.true_eq_false, not_true_eq_false, not_false_eq_true, jU_eq, jU_ne, jU_U, jV_eq, jV_ne, jV_V, kn_lit, kn_add, kn_mul, kn_sdm, kn_sub, kn_div, kn_nsdm, kn_lt, kn_eq, kn_pred, kn_m1, kn_m1', kn_a31, kn_shl, kn_shr, kn_bit, nB_0, nB_1, nB_t, nB_f, Nat.zero_add, Nat.add_zero, Nat.reduceAdd, Nat.reduceMul, Nat.reduceSub, Nat.reducePow]
      unfold F_Mod_siege_b30
      exact m_bdF hL (f := 1) (i := 1) (by omega) (by omega) (by omega) (fun g => (if_neg (by decide)).trans rfl)
  obtain ⟨a2, rfl⟩ := g2
  exact jDo_q hA (fun t u l m b c h I hL hC => q_id hL hC (c_siege hL (jCC_Q hC hA) l1 h1 a2)) (fun t u l m b c h I hL hC => m_siege hL (jMM_Q hC hA) l1 h1 a2)
end

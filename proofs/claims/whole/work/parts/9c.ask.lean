/-! PLAIN LEAN: questions, whatever their arguments -/
section
variable {t u l m b c : Nat} {h : LH} {I : Nat → Nat → Int32} {X : Option JOut} {v : Int32} {τ : JTn} {ω : JLw} {r : JRw} {β : JBk} {H : JHs} {E : JIm} {Tp : Nat × (Nat → Nat)} {p : Int32} {rf c0 c1 : Nat}
theorem q_c90 (hL : jLay t u l m b c h) (hC : jCC h I t l b (τ, ω, r, β, H, E, Tp, p, rf, c0, c1)) (hx : ∃ J, X = some (jo_i (v, jz_I h J)) ∧ jSc l 90 I J) : ∃ J, X = some (jo_i (v, jz_I h J)) ∧ jCS J 85 τ false r ∧ jCF l b I J := by
  have hl := jLay_l hL
  obtain ⟨J, e, hF⟩ := hx
  exact ⟨J, e, jCS_cg (fun a x1 x2 => hF a (by omega) (by omega)) hC.2.1, jCF_c90 hF⟩
theorem q_c85 (hL : jLay t u l m b c h) (hC : jCC h I t l b (τ, ω, r, β, H, E, Tp, p, rf, c0, c1)) (hx : ∃ J, X = some (jo_i (v, jz_I h J)) ∧ jCS J 85 τ false r ∧ jSc l 85 I J) : ∃ J, X = some (jo_i (v, jz_I h J)) ∧ jCS J 85 τ false r ∧ jCF l b I J := by
  obtain ⟨J, e, hS, hF⟩ := hx
  exact ⟨J, e, hS, jCF_c85 hF⟩
theorem q_b (hL : jLay t u l m b c h) (hC : jCC h I t l b (τ, ω, r, β, H, E, Tp, p, rf, c0, c1)) (hx : ∃ J, X = some (jo_i (v, jz_I h J)) ∧ jCS J 85 τ false r ∧ jSb l b I J) : ∃ J, X = some (jo_i (v, jz_I h J)) ∧ jCS J 85 τ false r ∧ jCF l b I J := by
  obtain ⟨J, e, hS, hF⟩ := hx
  exact ⟨J, e, hS, jCF_b hF⟩
theorem q_g (hL : jLay t u l m b c h) (hC : jCC h I t l b (τ, ω, r, β, H, E, Tp, p, rf, c0, c1)) (hx : ∃ J, X = some (jo_i (v, jz_I h J)) ∧ jSg l I J) : ∃ J, X = some (jo_i (v, jz_I h J)) ∧ jCS J 85 τ false r ∧ jCF l b I J := by
  have hl := jLay_l hL
  obtain ⟨J, e, hF⟩ := hx
  exact ⟨J, e, jCS_cg (fun a x1 x2 => hF a (by omega) (by omega) (by omega)) hC.2.1, jCF_g hF⟩
theorem q_d (hL : jLay t u l m b c h) (hC : jCC h I t l b (τ, ω, r, β, H, E, Tp, p, rf, c0, c1)) (hx : ∃ J, X = some (jo_i (v, jz_I h J)) ∧ jSd l I J) : ∃ J, X = some (jo_i (v, jz_I h J)) ∧ jCS J 85 τ false r ∧ jCF l b I J := by
  have hl := jLay_l hL
  obtain ⟨J, e, hF⟩ := hx
  exact ⟨J, e, jCS_cg (fun a x1 x2 => hF a (by omega) (by omega) (by omega)) hC.2.1, jCF_d hF⟩
theorem q_k (hL : jLay t u l m b c h) (hC : jCC h I t l b (τ, ω, r, β, H, E, Tp, p, rf, c0, c1)) (hx : ∃ J, X = some (jo_i (v, jz_I h J)) ∧ jSk l I J) : ∃ J, X = some (jo_i (v, jz_I h J)) ∧ jCS J 85 τ false r ∧ jCF l b I J := by
  have hl := jLay_l hL
  obtain ⟨J, e, hF⟩ := hx
  exact ⟨J, e, jCS_cg (fun a x1 x2 => hF a (by omega) (by omega) (by omega)) hC.2.1, jCF_k hF⟩
theorem q_id (hL : jLay t u l m b c h) (hC : jCC h I t l b (τ, ω, r, β, H, E, Tp, p, rf, c0, c1)) (hx : X = some (jo_i (v, jz_I h I))) : ∃ J, X = some (jo_i (v, jz_I h J)) ∧ jCS J 85 τ false r ∧ jCF l b I J := ⟨I, hx, hC.2.1, jCF_r⟩
end
section
variable {N : Nat} {A : JA}
theorem x_told (hA : jAG N A) (x1 : Int32) : jDo cdI (fun g => F_SG_told 64 x1 g) (fun g => F_Mod_told 205 x1 g) N A := by
  obtain ⟨τ, ω, r, β, H, E, Tp, p, rf, c0, c1⟩ := A
  have ho : jTOK τ := hA.1
  have o0 : τ 0 0 ≤ 9 := ho.1
  have o1 : τ 0 1 ≤ 6 := ho.2.1
  have o2 : τ 0 2 ≤ 10 := ho.2.2.1
  have o3 : τ 0 3 ≤ 8 := ho.2.2.2.1
  by_cases g1 : jRg x1 0 10
  case neg =>
    refine jDo_b (k := 1) (by omega) (by decide) hA (fun t u l m b c h I hL hC => ?_) (fun t u l m b c h I hL hC => ?_)
    · show F_SG_told 64 x1 (jz_I h I) = _
      have hQ := jCC_Q hC hA
      have hT := hQ.1.1
      have ht := jLay_t hL
      unfold F_SG_told
      rcases jRg_no (by omega) (by omega) g1 with e | ⟨e1, e2⟩
      · simp (disch := omega) only [F_SG_told_b15, e, ↓dK_64 hL, ↓dG_64 hL, ↓dP_64 hL, ↓dR_64_2 hL, ↓dK_85 hL, ↓dG_85 hL, ↓dP_85 hL, ↓dZ_85 hL (x := nI 0) (Or.inl rfl), ↓dZ_85 hL (x := nI 1) (Or.inr rfl), ↓dZ_85 hL (Or.inl rfl), ↓dZ_85 hL (Or.inr rfl), ↓dZ_85 hL (nB_01 _), ↓dK_T hL ht, ↓dG_T hL ht, ↓dP_T hL ht, ↓reduceIte, ↓kq_bi, ↓kq_let, ↓kq_rz0, ↓kq_rz1, ↓kq_rzB, ↓Option.bind_some, kq_dvn, kt_lt, kf_lt, kt_eq, kf_eq, decide_true, decide_false, eq_self, Bool.false_eq_true, Bool.true_eq_false, not_true_eq_false, not_false_eq_true, jU_eq, jU_ne, jU_U, jV_eq, jV_ne, jV_V, kn_lit, kn_add, kn_mul, kn_sdm, kn_sub, kn_div, kn_nsdm, kn_lt, kn_eq, kn_pred, kn_m1, kn_m1', kn_a31, kn_shl, kn_shr, kn_bit, nB_0, nB_1, nB_t, nB_f, Nat.zero_add, Nat.add_zero, Nat.reduceAdd, Nat.reduceMul, Nat.reduceSub, Nat.reducePow]
        unfold F_SG_told_b16
        exact c_bdA hL
      · simp (disch := omega) only [F_SG_told_b15, e1, e2, ↓dK_64 hL, ↓dG_64 hL, ↓dP_64 hL, ↓dR_64_2 hL, ↓dK_85 hL, ↓dG_85 hL, ↓dP_85 hL, ↓dZ_85 hL (x := nI 0) (Or.inl rfl), ↓dZ_85 hL (x := nI 1) (Or.inr rfl), ↓dZ_85 hL (Or.inl rfl), ↓dZ_85 hL (Or.inr rfl), ↓dZ_85 hL (nB_01 _), ↓dK_T hL ht, ↓dG_T hL ht, ↓dP_T hL ht, ↓reduceIte, ↓kq_bi, ↓kq_let, ↓kq_rz0, ↓kq_rz1, ↓kq_rzB, ↓Option.bind_some, kq_dvn, kt_lt, kf_lt, kt_eq, kf_eq, decide_true, decide_false, eq_self, Bool.false_eq_true, Bool.true_eq_false, not_true_eq_false, not_false_eq_true, jU_eq, jU_ne, jU_U, jV_eq, jV_ne, jV_V, kn_lit, kn_add, kn_mul, kn_sdm, kn_sub, kn_div, kn_nsdm, kn_lt, kn_eq, kn_pred, kn_m1, kn_m1', kn_a31, kn_shl, kn_shr, kn_bit, nB_0, nB_1, nB_t, nB_f, Nat.zero_add, Nat.add_zero, Nat.reduceAdd, Nat.reduceMul, Nat.reduceSub, Nat.reducePow]
        unfold F_SG_told_b16
        exact c_bdA hL
    · show ∃ J, F_Mod_told 205 x1 (jz_I h I) = _ ∧ _
      have hQ := jMM_Q hC hA
      have N0 := jN_0 hQ
      have hQ0 := jN_QM N0 hQ
      have hT0 := hQ0.1.1
      unfold F_Mod_told
      simp (disch := omega) only [m_inX (lo := 0) (hi := 10) (by omega) (by omega) g1, ↓dK_205 hL, ↓dG_205 hL, ↓dP_205 hL, ↓dZ_205 hL (x := nI 0) (Or.inl rfl), ↓dZ_205 hL (x := nI 1) (Or.inr rfl), ↓dZ_205 hL (Or.inl rfl), ↓dZ_205 hL (Or.inr rfl), ↓dZ_205 hL (nB_01 _), ↓dR_205_12 hL, dI_209 hL, dS_209 hL, ↓dR_205_35 hL, dI_691 hL, dS_691 hL, ↓reduceIte, ↓kq_bi, ↓kq_let, ↓kq_rz0, ↓kq_rz1, ↓kq_rzB, ↓Option.bind_some, kq_dvn, kt_lt, kf_lt, kt_eq, kf_eq, decide_true, decide_false, eq_self, Bool.false_eq_true, Bool.true_eq_false, not_true_eq_false, not_false_eq_true, jU_eq, jU_ne, jU_U, jV_eq, jV_ne, jV_V, kn_lit, kn_add, kn_mul, kn_sdm, kn_sub, kn_div, kn_nsdm, kn_lt, kn_eq, kn_pred, kn_m1, kn_m1', kn_a31, kn_shl, kn_shr, kn_bit, nB_0, nB_1, nB_t, nB_f, Nat.zero_add, Nat.add_zero, Nat.reduceAdd, Nat.reduceMul, Nat.reduceSub, Nat.reducePow]
      unfold F_Mod_told_b21
      exact m_bdF hL (f := 1) (i := 1) (by omega) (by omega) (by omega) (fun g => (if_neg (by decide)).trans rfl)
  obtain ⟨a1, l1, h1, rfl⟩ := g1
  exact jDo_q hA (fun t u l m b c h I hL hC => q_c85 hL hC (c_told hL (jCC_Q hC hA) hC.2.2.1.1 hC.2.2.2.2.2.2.1.1 h1)) (fun t u l m b c h I hL hC => m_told hL (jMM_Q hC hA) hC.2.2.1.1 hC.2.2.2.2.2.2.1 h1)
theorem x_gate (hA : jAG N A) (x1 x2 : Int32) : jDo cdB (fun g => F_SG_gate 64 x1 x2 g) (fun g => F_Mod_gate 205 x1 x2 g) N A := by
  obtain ⟨τ, ω, r, β, H, E, Tp, p, rf, c0, c1⟩ := A
  have ho : jTOK τ := hA.1
  have o0 : τ 0 0 ≤ 9 := ho.1
  have o1 : τ 0 1 ≤ 6 := ho.2.1
  have o2 : τ 0 2 ≤ 10 := ho.2.2.1
  have o3 : τ 0 3 ≤ 8 := ho.2.2.2.1
  by_cases g1 : jIn x1 (τ 0 0)
  case neg =>
    refine jDo_b (k := 0) (by omega) (by decide) hA (fun t u l m b c h I hL hC => ?_) (fun t u l m b c h I hL hC => ?_)
    · show F_SG_gate 64 x1 x2 (jz_I h I) = _
      have hQ := jCC_Q hC hA
      have hT := hQ.1.1
      have ht := jLay_t hL
      unfold F_SG_gate
      exact c_bdG hL hQ g1
    · show ∃ J, F_Mod_gate 205 x1 x2 (jz_I h I) = _ ∧ _
      have hQ := jMM_Q hC hA
      have N0 := jN_0 hQ
      have hQ0 := jN_QM N0 hQ
      have hT0 := hQ0.1.1
      unfold F_Mod_gate
      simp (disch := omega) only [m_gateX hL hT0 ho g1, ↓dK_205 hL, ↓dG_205 hL, ↓dP_205 hL, ↓dZ_205 hL (x := nI 0) (Or.inl rfl), ↓dZ_205 hL (x := nI 1) (Or.inr rfl), ↓dZ_205 hL (Or.inl rfl), ↓dZ_205 hL (Or.inr rfl), ↓dZ_205 hL (nB_01 _), ↓dR_205_12 hL, dI_209 hL, dS_209 hL, ↓dR_205_35 hL, dI_691 hL, dS_691 hL, ↓reduceIte, ↓kq_bi, ↓kq_let, ↓kq_rz0, ↓kq_rz1, ↓kq_rzB, ↓Option.bind_some, kq_dvn, kt_lt, kf_lt, kt_eq, kf_eq, decide_true, decide_false, eq_self, Bool.false_eq_true, Bool.true_eq_false, not_true_eq_false, not_false_eq_true, jU_eq, jU_ne, jU_U, jV_eq, jV_ne, jV_V, kn_lit, kn_add, kn_mul, kn_sdm, kn_sub, kn_div, kn_nsdm, kn_lt, kn_eq, kn_pred, kn_m1, kn_m1', kn_a31, kn_shl, kn_shr, kn_bit, nB_0, nB_1, nB_t, nB_f, Nat.zero_add, Nat.add_zero, Nat.reduceAdd, Nat.reduceMul, Nat.reduceSub, Nat.reducePow]
      unfold F_Mod_gate_b19
      exact m_bdF hL (f := 1) (i := 0) (by omega) (by omega) (by omega) (fun g => (if_neg (by decide)).trans rfl)
  obtain ⟨a1, h1, rfl⟩ := g1
  by_cases g2 : jRg x2 0 5
  case neg =>
    refine jDo_b (k := 1) (by omega) (by decide) hA (fun t u l m b c h I hL hC => ?_) (fun t u l m b c h I hL hC => ?_)
    · show F_SG_gate 64 (nI a1) x2 (jz_I h I) = _
      have hQ := jCC_Q hC hA
      have hT := hQ.1.1
      have ht := jLay_t hL
      unfold F_SG_gate
      rcases jRg_no (by omega) (by omega) g2 with e | ⟨e1, e2⟩
      · simp (disch := omega) only [c_needGate hL hT ho h1, kq_th, F_SG_gate_b19, e, ↓dK_64 hL, ↓dG_64 hL, ↓dP_64 hL, ↓dR_64_2 hL, ↓dK_85 hL, ↓dG_85 hL, ↓dP_85 hL, ↓dZ_85 hL (x := nI 0) (Or.inl rfl), ↓dZ_85 hL (x := nI 1) (Or.inr rfl), ↓dZ_85 hL (Or.inl rfl), ↓dZ_85 hL (Or.inr rfl), ↓dZ_85 hL (nB_01 _), ↓dK_T hL ht, ↓dG_T hL ht, ↓dP_T hL ht, ↓reduceIte, ↓kq_bi, ↓kq_let, ↓kq_rz0, ↓kq_rz1, ↓kq_rzB, ↓Option.bind_some, kq_dvn, kt_lt, kf_lt, kt_eq, kf_eq, decide_true, decide_false, eq_self, Bool.false_eq_true, Bool.true_eq_false, not_true_eq_false, not_false_eq_true, jU_eq, jU_ne, jU_U, jV_eq, jV_ne, jV_V, kn_lit, kn_add, kn_mul, kn_sdm, kn_sub, kn_div, kn_nsdm, kn_lt, kn_eq, kn_pred, kn_m1, kn_m1', kn_a31, kn_shl, kn_shr, kn_bit, nB_0, nB_1, nB_t, nB_f, Nat.zero_add, Nat.add_zero, Nat.reduceAdd, Nat.reduceMul, Nat.reduceSub, Nat.reducePow]
        unfold F_SG_gate_b20
        exact c_bdA hL
      · simp (disch := omega) only [c_needGate hL hT ho h1, kq_th, F_SG_gate_b19, e1, e2, ↓dK_64 hL, ↓dG_64 hL, ↓dP_64 hL, ↓dR_64_2 hL, ↓dK_85 hL, ↓dG_85 hL, ↓dP_85 hL, ↓dZ_85 hL (x := nI 0) (Or.inl rfl), ↓dZ_85 hL (x := nI 1) (Or.inr rfl), ↓dZ_85 hL (Or.inl rfl), ↓dZ_85 hL (Or.inr rfl), ↓dZ_85 hL (nB_01 _), ↓dK_T hL ht, ↓dG_T hL ht, ↓dP_T hL ht, ↓reduceIte, ↓kq_bi, ↓kq_let, ↓kq_rz0, ↓kq_rz1, ↓kq_rzB, ↓Option.bind_some, kq_dvn, kt_lt, kf_lt, kt_eq, kf_eq, decide_true, decide_false, eq_self, Bool.false_eq_true, Bool.true_eq_false, not_true_eq_false, not_false_eq_true, jU_eq, jU_ne, jU_U, jV_eq, jV_ne, jV_V, kn_lit, kn_add, kn_mul, kn_sdm, kn_sub, kn_div, kn_nsdm, kn_lt, kn_eq, kn_pred, kn_m1, kn_m1', kn_a31, kn_shl, kn_shr, kn_bit, nB_0, nB_1, nB_t, nB_f, Nat.zero_add, Nat.add_zero, Nat.reduceAdd, Nat.reduceMul, Nat.reduceSub, Nat.reducePow]
        unfold F_SG_gate_b20
        exact c_bdA hL
    · show ∃ J, F_Mod_gate 205 (nI a1) x2 (jz_I h I) = _ ∧ _
      have hQ := jMM_Q hC hA
      have N0 := jN_0 hQ
      have hQ0 := jN_QM N0 hQ
      have hT0 := hQ0.1.1
      unfold F_Mod_gate
      simp (disch := omega) only [m_isGate hL hT0 ho h1, ↓dK_205 hL, ↓dG_205 hL, ↓dP_205 hL, ↓dZ_205 hL (x := nI 0) (Or.inl rfl), ↓dZ_205 hL (x := nI 1) (Or.inr rfl), ↓dZ_205 hL (Or.inl rfl), ↓dZ_205 hL (Or.inr rfl), ↓dZ_205 hL (nB_01 _), ↓dR_205_12 hL, dI_209 hL, dS_209 hL, ↓dR_205_35 hL, dI_691 hL, dS_691 hL, ↓reduceIte, ↓kq_bi, ↓kq_let, ↓kq_rz0, ↓kq_rz1, ↓kq_rzB, ↓Option.bind_some, kq_dvn, kt_lt, kf_lt, kt_eq, kf_eq, decide_true, decide_false, eq_self, Bool.false_eq_true, Bool.true_eq_false, not_true_eq_false, not_false_eq_true, jU_eq, jU_ne, jU_U, jV_eq, jV_ne, jV_V, kn_lit, kn_add, kn_mul, kn_sdm, kn_sub, kn_div, kn_nsdm, kn_lt, kn_eq, kn_pred, kn_m1, kn_m1', kn_a31, kn_shl, kn_shr, kn_bit, nB_0, nB_1, nB_t, nB_f, Nat.zero_add, Nat.add_zero, Nat.reduceAdd, Nat.reduceMul, Nat.reduceSub, Nat.reducePow]
      unfold F_Mod_gate_b19
      simp (disch := omega) only [m_bad0 hL N0.2.2.2, m_inX (lo := 0) (hi := 5) (by omega) (by omega) g2, ↓dK_205 hL, ↓dG_205 hL, ↓dP_205 hL, ↓dZ_205 hL (x := nI 0) (Or.inl rfl), ↓dZ_205 hL (x := nI 1) (Or.inr rfl), ↓dZ_205 hL (Or.inl rfl), ↓dZ_205 hL (Or.inr rfl), ↓dZ_205 hL (nB_01 _), ↓dR_205_12 hL, dI_209 hL, dS_209 hL, ↓dR_205_35 hL, dI_691 hL, dS_691 hL, ↓reduceIte, ↓kq_bi, ↓kq_let, ↓kq_rz0, ↓kq_rz1, ↓kq_rzB, ↓Option.bind_some, kq_dvn, kt_lt, kf_lt, kt_eq, kf_eq, decide_true, decide_false, eq_self, Bool.false_eq_true, Bool.true_eq_false, not_true_eq_false, not_false_eq_true, jU_eq, jU_ne, jU_U, jV_eq, jV_ne, jV_V, kn_lit, kn_add, kn_mul, kn_sdm, kn_sub, kn_div, kn_nsdm, kn_lt, kn_eq, kn_pred, kn_m1, kn_m1', kn_a31, kn_shl, kn_shr, kn_bit, nB_0, nB_1, nB_t, nB_f, Nat.zero_add, Nat.add_zero, Nat.reduceAdd, Nat.reduceMul, Nat.reduceSub, Nat.reducePow]
      unfold F_Mod_gate_b42
      exact m_bdF hL (f := 2) (i := 1) (by omega) (by omega) (by omega) (fun g => (if_neg (by decide)).trans rfl)
  obtain ⟨a2, l2, h2, rfl⟩ := g2
  exact jDo_q hA (fun t u l m b c h I hL hC => q_c85 hL hC (c_gate hL (jCC_Q hC hA) h1 h2)) (fun t u l m b c h I hL hC => m_gate hL (jMM_Q hC hA) h1 h2)
theorem x_wood (hA : jAG N A) (x1 x2 : Int32) : jDo cdB (fun g => F_SG_wood 64 x1 x2 g) (fun g => F_Mod_wood 205 x1 x2 g) N A := by
  obtain ⟨τ, ω, r, β, H, E, Tp, p, rf, c0, c1⟩ := A
  have ho : jTOK τ := hA.1
  have o0 : τ 0 0 ≤ 9 := ho.1
  have o1 : τ 0 1 ≤ 6 := ho.2.1
  have o2 : τ 0 2 ≤ 10 := ho.2.2.1
  have o3 : τ 0 3 ≤ 8 := ho.2.2.2.1
  by_cases g1 : jIn x1 (τ 0 1)
  case neg =>
    refine jDo_b (k := 0) (by omega) (by decide) hA (fun t u l m b c h I hL hC => ?_) (fun t u l m b c h I hL hC => ?_)
    · show F_SG_wood 64 x1 x2 (jz_I h I) = _
      have hQ := jCC_Q hC hA
      have hT := hQ.1.1
      have ht := jLay_t hL
      unfold F_SG_wood
      exact c_bdW hL hQ g1
    · show ∃ J, F_Mod_wood 205 x1 x2 (jz_I h I) = _ ∧ _
      have hQ := jMM_Q hC hA
      have N0 := jN_0 hQ
      have hQ0 := jN_QM N0 hQ
      have hT0 := hQ0.1.1
      unfold F_Mod_wood
      simp (disch := omega) only [m_woodX hL hT0 ho g1, ↓dK_205 hL, ↓dG_205 hL, ↓dP_205 hL, ↓dZ_205 hL (x := nI 0) (Or.inl rfl), ↓dZ_205 hL (x := nI 1) (Or.inr rfl), ↓dZ_205 hL (Or.inl rfl), ↓dZ_205 hL (Or.inr rfl), ↓dZ_205 hL (nB_01 _), ↓dR_205_12 hL, dI_209 hL, dS_209 hL, ↓dR_205_35 hL, dI_691 hL, dS_691 hL, ↓reduceIte, ↓kq_bi, ↓kq_let, ↓kq_rz0, ↓kq_rz1, ↓kq_rzB, ↓Option.bind_some, kq_dvn, kt_lt, kf_lt, kt_eq, kf_eq, decide_true, decide_false, eq_self, Bool.false_eq_true, Bool.true_eq_false, not_true_eq_false, not_false_eq_true, jU_eq, jU_ne, jU_U, jV_eq, jV_ne, jV_V, kn_lit, kn_add, kn_mul, kn_sdm, kn_sub, kn_div, kn_nsdm, kn_lt, kn_eq, kn_pred, kn_m1, kn_m1', kn_a31, kn_shl, kn_shr, kn_bit, nB_0, nB_1, nB_t, nB_f, Nat.zero_add, Nat.add_zero, Nat.reduceAdd, Nat.reduceMul, Nat.reduceSub, Nat.reducePow]
      unfold F_Mod_wood_b19
      exact m_bdF hL (f := 1) (i := 0) (by omega) (by omega) (by omega) (fun g => (if_neg (by decide)).trans rfl)
  obtain ⟨a1, h1, rfl⟩ := g1
  by_cases g2 : jRg x2 0 4
  case neg =>
    refine jDo_b (k := 1) (by omega) (by decide) hA (fun t u l m b c h I hL hC => ?_) (fun t u l m b c h I hL hC => ?_)
    · show F_SG_wood 64 (nI a1) x2 (jz_I h I) = _
      have hQ := jCC_Q hC hA
      have hT := hQ.1.1
      have ht := jLay_t hL
      unfold F_SG_wood
      rcases jRg_no (by omega) (by omega) g2 with e | ⟨e1, e2⟩
      · simp (disch := omega) only [c_needWood hL hT ho h1, kq_th, F_SG_wood_b19, e, ↓dK_64 hL, ↓dG_64 hL, ↓dP_64 hL, ↓dR_64_2 hL, ↓dK_85 hL, ↓dG_85 hL, ↓dP_85 hL, ↓dZ_85 hL (x := nI 0) (Or.inl rfl), ↓dZ_85 hL (x := nI 1) (Or.inr rfl), ↓dZ_85 hL (Or.inl rfl), ↓dZ_85 hL (Or.inr rfl), ↓dZ_85 hL (nB_01 _), ↓dK_T hL ht, ↓dG_T hL ht, ↓dP_T hL ht, ↓reduceIte, ↓kq_bi, ↓kq_let, ↓kq_rz0, ↓kq_rz1, ↓kq_rzB, ↓Option.bind_some, kq_dvn, kt_lt, kf_lt, kt_eq, kf_eq, decide_true, decide_false, eq_self, Bool.false_eq_true, Bool.true_eq_false, not_true_eq_false, not_false_eq_true, jU_eq, jU_ne, jU_U, jV_eq, jV_ne, jV_V, kn_lit, kn_add, kn_mul, kn_sdm, kn_sub, kn_div, kn_nsdm, kn_lt, kn_eq, kn_pred, kn_m1, kn_m1', kn_a31, kn_shl, kn_shr, kn_bit, nB_0, nB_1, nB_t, nB_f, Nat.zero_add, Nat.add_zero, Nat.reduceAdd, Nat.reduceMul, Nat.reduceSub, Nat.reducePow]
        unfold F_SG_wood_b20
        exact c_bdA hL
      · simp (disch := omega) only [c_needWood hL hT ho h1, kq_th, F_SG_wood_b19, e1, e2, ↓dK_64 hL, ↓dG_64 hL, ↓dP_64 hL, ↓dR_64_2 hL, ↓dK_85 hL, ↓dG_85 hL, ↓dP_85 hL, ↓dZ_85 hL (x := nI 0) (Or.inl rfl), ↓dZ_85 hL (x := nI 1) (Or.inr rfl), ↓dZ_85 hL (Or.inl rfl), ↓dZ_85 hL (Or.inr rfl), ↓dZ_85 hL (nB_01 _), ↓dK_T hL ht, ↓dG_T hL ht, ↓dP_T hL ht, ↓reduceIte, ↓kq_bi, ↓kq_let, ↓kq_rz0, ↓kq_rz1, ↓kq_rzB, ↓Option.bind_some, kq_dvn, kt_lt, kf_lt, kt_eq, kf_eq, decide_true, decide_false, eq_self, Bool.false_eq_true, Bool.true_eq_false, not_true_eq_false, not_false_eq_true, jU_eq, jU_ne, jU_U, jV_eq, jV_ne, jV_V, kn_lit, kn_add, kn_mul, kn_sdm, kn_sub, kn_div, kn_nsdm, kn_lt, kn_eq, kn_pred, kn_m1, kn_m1', kn_a31, kn_shl, kn_shr, kn_bit, nB_0, nB_1, nB_t, nB_f, Nat.zero_add, Nat.add_zero, Nat.reduceAdd, Nat.reduceMul, Nat.reduceSub, Nat.reducePow]
        unfold F_SG_wood_b20
        exact c_bdA hL
    · show ∃ J, F_Mod_wood 205 (nI a1) x2 (jz_I h I) = _ ∧ _
      have hQ := jMM_Q hC hA
      have N0 := jN_0 hQ
      have hQ0 := jN_QM N0 hQ
      have hT0 := hQ0.1.1
      unfold F_Mod_wood
      simp (disch := omega) only [m_isWood hL hT0 ho h1, ↓dK_205 hL, ↓dG_205 hL, ↓dP_205 hL, ↓dZ_205 hL (x := nI 0) (Or.inl rfl), ↓dZ_205 hL (x := nI 1) (Or.inr rfl), ↓dZ_205 hL (Or.inl rfl), ↓dZ_205 hL (Or.inr rfl), ↓dZ_205 hL (nB_01 _), ↓dR_205_12 hL, dI_209 hL, dS_209 hL, ↓dR_205_35 hL, dI_691 hL, dS_691 hL, ↓reduceIte, ↓kq_bi, ↓kq_let, ↓kq_rz0, ↓kq_rz1, ↓kq_rzB, ↓Option.bind_some, kq_dvn, kt_lt, kf_lt, kt_eq, kf_eq, decide_true, decide_false, eq_self, Bool.false_eq_true, Bool.true_eq_false, not_true_eq_false, not_false_eq_true, jU_eq, jU_ne, jU_U, jV_eq, jV_ne, jV_V, kn_lit, kn_add, kn_mul, kn_sdm, kn_sub, kn_div, kn_nsdm, kn_lt, kn_eq, kn_pred, kn_m1, kn_m1', kn_a31, kn_shl, kn_shr, kn_bit, nB_0, nB_1, nB_t, nB_f, Nat.zero_add, Nat.add_zero, Nat.reduceAdd, Nat.reduceMul, Nat.reduceSub, Nat.reducePow]
      unfold F_Mod_wood_b19
      simp (disch := omega) only [m_bad0 hL N0.2.2.2, m_inX (lo := 0) (hi := 4) (by omega) (by omega) g2, ↓dK_205 hL, ↓dG_205 hL, ↓dP_205 hL, ↓dZ_205 hL (x := nI 0) (Or.inl rfl), ↓dZ_205 hL (x := nI 1) (Or.inr rfl), ↓dZ_205 hL (Or.inl rfl), ↓dZ_205 hL (Or.inr rfl), ↓dZ_205 hL (nB_01 _), ↓dR_205_12 hL, dI_209 hL, dS_209 hL, ↓dR_205_35 hL, dI_691 hL, dS_691 hL, ↓reduceIte, ↓kq_bi, ↓kq_let, ↓kq_rz0, ↓kq_rz1, ↓kq_rzB, ↓Option.bind_some, kq_dvn, kt_lt, kf_lt, kt_eq, kf_eq, decide_true, decide_false, eq_self, Bool.false_eq_true, Bool.true_eq_false, not_true_eq_false, not_false_eq_true, jU_eq, jU_ne, jU_U, jV_eq, jV_ne, jV_V, kn_lit, kn_add, kn_mul, kn_sdm, kn_sub, kn_div, kn_nsdm, kn_lt, kn_eq, kn_pred, kn_m1, kn_m1', kn_a31, kn_shl, kn_shr, kn_bit, nB_0, nB_1, nB_t, nB_f, Nat.zero_add, Nat.add_zero, Nat.reduceAdd, Nat.reduceMul, Nat.reduceSub, Nat.reducePow]
      unfold F_Mod_wood_b42
      exact m_bdF hL (f := 2) (i := 1) (by omega) (by omega) (by omega) (fun g => (if_neg (by decide)).trans rfl)
  obtain ⟨a2, l2, h2, rfl⟩ := g2
  exact jDo_q hA (fun t u l m b c h I hL hC => q_id hL hC (c_wood hL (jCC_Q hC hA) h1 h2)) (fun t u l m b c h I hL hC => m_wood hL (jMM_Q hC hA) h1 h2)
theorem x_comer (hA : jAG N A) (x1 x2 : Int32) : jDo cdB (fun g => F_SG_comer 64 x1 x2 g) (fun g => F_Mod_comer 205 x1 x2 g) N A := by
  obtain ⟨τ, ω, r, β, H, E, Tp, p, rf, c0, c1⟩ := A
  have ho : jTOK τ := hA.1
  have o0 : τ 0 0 ≤ 9 := ho.1
  have o1 : τ 0 1 ≤ 6 := ho.2.1
  have o2 : τ 0 2 ≤ 10 := ho.2.2.1
  have o3 : τ 0 3 ≤ 8 := ho.2.2.2.1
  by_cases g1 : jIn x1 (τ 0 2)
  case neg =>
    refine jDo_b (k := 0) (by omega) (by decide) hA (fun t u l m b c h I hL hC => ?_) (fun t u l m b c h I hL hC => ?_)
    · show F_SG_comer 64 x1 x2 (jz_I h I) = _
      have hQ := jCC_Q hC hA
      have hT := hQ.1.1
      have ht := jLay_t hL
      unfold F_SG_comer
      rcases jIn_no (by omega) g1 with e | ⟨e1, e2⟩
      · simp (disch := omega) only [↓dR_85_1 hL, cT_f4 hT, F_SG_comer_b23, e, ↓dK_64 hL, ↓dG_64 hL, ↓dP_64 hL, ↓dR_64_2 hL, ↓dK_85 hL, ↓dG_85 hL, ↓dP_85 hL, ↓dZ_85 hL (x := nI 0) (Or.inl rfl), ↓dZ_85 hL (x := nI 1) (Or.inr rfl), ↓dZ_85 hL (Or.inl rfl), ↓dZ_85 hL (Or.inr rfl), ↓dZ_85 hL (nB_01 _), ↓dK_T hL ht, ↓dG_T hL ht, ↓dP_T hL ht, ↓reduceIte, ↓kq_bi, ↓kq_let, ↓kq_rz0, ↓kq_rz1, ↓kq_rzB, ↓Option.bind_some, kq_dvn, kt_lt, kf_lt, kt_eq, kf_eq, decide_true, decide_false, eq_self, Bool.false_eq_true, Bool.true_eq_false, not_true_eq_false, not_false_eq_true, jU_eq, jU_ne, jU_U, jV_eq, jV_ne, jV_V, kn_lit, kn_add, kn_mul, kn_sdm, kn_sub, kn_div, kn_nsdm, kn_lt, kn_eq, kn_pred, kn_m1, kn_m1', kn_a31, kn_shl, kn_shr, kn_bit, nB_0, nB_1, nB_t, nB_f, Nat.zero_add, Nat.add_zero, Nat.reduceAdd, Nat.reduceMul, Nat.reduceSub, Nat.reducePow]
        unfold F_SG_comer_b24
        exact c_bdE hL
      · simp (disch := omega) only [↓dR_85_1 hL, cT_f4 hT, F_SG_comer_b23, e1, e2, ↓dK_64 hL, ↓dG_64 hL, ↓dP_64 hL, ↓dR_64_2 hL, ↓dK_85 hL, ↓dG_85 hL, ↓dP_85 hL, ↓dZ_85 hL (x := nI 0) (Or.inl rfl), ↓dZ_85 hL (x := nI 1) (Or.inr rfl), ↓dZ_85 hL (Or.inl rfl), ↓dZ_85 hL (Or.inr rfl), ↓dZ_85 hL (nB_01 _), ↓dK_T hL ht, ↓dG_T hL ht, ↓dP_T hL ht, ↓reduceIte, ↓kq_bi, ↓kq_let, ↓kq_rz0, ↓kq_rz1, ↓kq_rzB, ↓Option.bind_some, kq_dvn, kt_lt, kf_lt, kt_eq, kf_eq, decide_true, decide_false, eq_self, Bool.false_eq_true, Bool.true_eq_false, not_true_eq_false, not_false_eq_true, jU_eq, jU_ne, jU_U, jV_eq, jV_ne, jV_V, kn_lit, kn_add, kn_mul, kn_sdm, kn_sub, kn_div, kn_nsdm, kn_lt, kn_eq, kn_pred, kn_m1, kn_m1', kn_a31, kn_shl, kn_shr, kn_bit, nB_0, nB_1, nB_t, nB_f, Nat.zero_add, Nat.add_zero, Nat.reduceAdd, Nat.reduceMul, Nat.reduceSub, Nat.reducePow]
        unfold F_SG_comer_b24
        exact c_bdE hL
    · show ∃ J, F_Mod_comer 205 x1 x2 (jz_I h I) = _ ∧ _
      have hQ := jMM_Q hC hA
      have N0 := jN_0 hQ
      have hQ0 := jN_QM N0 hQ
      have hT0 := hQ0.1.1
      unfold F_Mod_comer
      simp (disch := omega) only [hT0.1, m_inX1 (n := τ 0 2) (by omega) g1, ↓dK_205 hL, ↓dG_205 hL, ↓dP_205 hL, ↓dZ_205 hL (x := nI 0) (Or.inl rfl), ↓dZ_205 hL (x := nI 1) (Or.inr rfl), ↓dZ_205 hL (Or.inl rfl), ↓dZ_205 hL (Or.inr rfl), ↓dZ_205 hL (nB_01 _), ↓dR_205_12 hL, dI_209 hL, dS_209 hL, ↓dR_205_35 hL, dI_691 hL, dS_691 hL, ↓reduceIte, ↓kq_bi, ↓kq_let, ↓kq_rz0, ↓kq_rz1, ↓kq_rzB, ↓Option.bind_some, kq_dvn, kt_lt, kf_lt, kt_eq, kf_eq, decide_true, decide_false, eq_self, Bool.false_eq_true, Bool.true_eq_false, not_true_eq_false, not_false_eq_true, jU_eq, jU_ne, jU_U, jV_eq, jV_ne, jV_V, kn_lit, kn_add, kn_mul, kn_sdm, kn_sub, kn_div, kn_nsdm, kn_lt, kn_eq, kn_pred, kn_m1, kn_m1', kn_a31, kn_shl, kn_shr, kn_bit, nB_0, nB_1, nB_t, nB_f, Nat.zero_add, Nat.add_zero, Nat.reduceAdd, Nat.reduceMul, Nat.reduceSub, Nat.reducePow]
      unfold F_Mod_comer_b27
      exact m_bdF hL (f := 1) (i := 0) (by omega) (by omega) (by omega) (fun g => (if_neg (by decide)).trans rfl)
  obtain ⟨a1, h1, rfl⟩ := g1
  by_cases g2 : jRg x2 0 3
  case neg =>
    refine jDo_b (k := 1) (by omega) (by decide) hA (fun t u l m b c h I hL hC => ?_) (fun t u l m b c h I hL hC => ?_)
    · show F_SG_comer 64 (nI a1) x2 (jz_I h I) = _
      have hQ := jCC_Q hC hA
      have hT := hQ.1.1
      have ht := jLay_t hL
      unfold F_SG_comer
      simp (disch := omega) only [↓dR_85_1 hL, cT_f4 hT, ↓dK_64 hL, ↓dG_64 hL, ↓dP_64 hL, ↓dR_64_2 hL, ↓dK_85 hL, ↓dG_85 hL, ↓dP_85 hL, ↓dZ_85 hL (x := nI 0) (Or.inl rfl), ↓dZ_85 hL (x := nI 1) (Or.inr rfl), ↓dZ_85 hL (Or.inl rfl), ↓dZ_85 hL (Or.inr rfl), ↓dZ_85 hL (nB_01 _), ↓dK_T hL ht, ↓dG_T hL ht, ↓dP_T hL ht, ↓reduceIte, ↓kq_bi, ↓kq_let, ↓kq_rz0, ↓kq_rz1, ↓kq_rzB, ↓Option.bind_some, kq_dvn, kt_lt, kf_lt, kt_eq, kf_eq, decide_true, decide_false, eq_self, Bool.false_eq_true, Bool.true_eq_false, not_true_eq_false, not_false_eq_true, jU_eq, jU_ne, jU_U, jV_eq, jV_ne, jV_V, kn_lit, kn_add, kn_mul, kn_sdm, kn_sub, kn_div, kn_nsdm, kn_lt, kn_eq, kn_pred, kn_m1, kn_m1', kn_a31, kn_shl, kn_shr, kn_bit, nB_0, nB_1, nB_t, nB_f, Nat.zero_add, Nat.add_zero, Nat.reduceAdd, Nat.reduceMul, Nat.reduceSub, Nat.reducePow]
      unfold F_SG_comer_b24
      rcases jRg_no (by omega) (by omega) g2 with e | ⟨e1, e2⟩
      · simp (disch := omega) only [c_elem1, kq_th, F_SG_comer_b41, e, ↓dK_64 hL, ↓dG_64 hL, ↓dP_64 hL, ↓dR_64_2 hL, ↓dK_85 hL, ↓dG_85 hL, ↓dP_85 hL, ↓dZ_85 hL (x := nI 0) (Or.inl rfl), ↓dZ_85 hL (x := nI 1) (Or.inr rfl), ↓dZ_85 hL (Or.inl rfl), ↓dZ_85 hL (Or.inr rfl), ↓dZ_85 hL (nB_01 _), ↓dK_T hL ht, ↓dG_T hL ht, ↓dP_T hL ht, ↓reduceIte, ↓kq_bi, ↓kq_let, ↓kq_rz0, ↓kq_rz1, ↓kq_rzB, ↓Option.bind_some, kq_dvn, kt_lt, kf_lt, kt_eq, kf_eq, decide_true, decide_false, eq_self, Bool.false_eq_true, Bool.true_eq_false, not_true_eq_false, not_false_eq_true, jU_eq, jU_ne, jU_U, jV_eq, jV_ne, jV_V, kn_lit, kn_add, kn_mul, kn_sdm, kn_sub, kn_div, kn_nsdm, kn_lt, kn_eq, kn_pred, kn_m1, kn_m1', kn_a31, kn_shl, kn_shr, kn_bit, nB_0, nB_1, nB_t, nB_f, Nat.zero_add, Nat.add_zero, Nat.reduceAdd, Nat.reduceMul, Nat.reduceSub, Nat.reducePow]
        unfold F_SG_comer_b42
        exact c_bdA hL
      · simp (disch := omega) only [c_elem1, kq_th, F_SG_comer_b41, e1, e2, ↓dK_64 hL, ↓dG_64 hL, ↓dP_64 hL, ↓dR_64_2 hL, ↓dK_85 hL, ↓dG_85 hL, ↓dP_85 hL, ↓dZ_85 hL (x := nI 0) (Or.inl rfl), ↓dZ_85 hL (x := nI 1) (Or.inr rfl), ↓dZ_85 hL (Or.inl rfl), ↓dZ_85 hL (Or.inr rfl), ↓dZ_85 hL (nB_01 _), ↓dK_T hL ht, ↓dG_T hL ht, ↓dP_T hL ht, ↓reduceIte, ↓kq_bi, ↓kq_let, ↓kq_rz0, ↓kq_rz1, ↓kq_rzB, ↓Option.bind_some, kq_dvn, kt_lt, kf_lt, kt_eq, kf_eq, decide_true, decide_false, eq_self, Bool.false_eq_true, Bool.true_eq_false, not_true_eq_false, not_false_eq_true, jU_eq, jU_ne, jU_U, jV_eq, jV_ne, jV_V, kn_lit, kn_add, kn_mul, kn_sdm, kn_sub, kn_div, kn_nsdm, kn_lt, kn_eq, kn_pred, kn_m1, kn_m1', kn_a31, kn_shl, kn_shr, kn_bit, nB_0, nB_1, nB_t, nB_f, Nat.zero_add, Nat.add_zero, Nat.reduceAdd, Nat.reduceMul, Nat.reduceSub, Nat.reducePow]
        unfold F_SG_comer_b42
        exact c_bdA hL
    · show ∃ J, F_Mod_comer 205 (nI a1) x2 (jz_I h I) = _ ∧ _
      have hQ := jMM_Q hC hA
      have N0 := jN_0 hQ
      have hQ0 := jN_QM N0 hQ
      have hT0 := hQ0.1.1
      unfold F_Mod_comer
      simp (disch := omega) only [hT0.1, m_in1, ↓dK_205 hL, ↓dG_205 hL, ↓dP_205 hL, ↓dZ_205 hL (x := nI 0) (Or.inl rfl), ↓dZ_205 hL (x := nI 1) (Or.inr rfl), ↓dZ_205 hL (Or.inl rfl), ↓dZ_205 hL (Or.inr rfl), ↓dZ_205 hL (nB_01 _), ↓dR_205_12 hL, dI_209 hL, dS_209 hL, ↓dR_205_35 hL, dI_691 hL, dS_691 hL, ↓reduceIte, ↓kq_bi, ↓kq_let, ↓kq_rz0, ↓kq_rz1, ↓kq_rzB, ↓Option.bind_some, kq_dvn, kt_lt, kf_lt, kt_eq, kf_eq, decide_true, decide_false, eq_self, Bool.false_eq_true, Bool.true_eq_false, not_true_eq_false, not_false_eq_true, jU_eq, jU_ne, jU_U, jV_eq, jV_ne, jV_V, kn_lit, kn_add, kn_mul, kn_sdm, kn_sub, kn_div, kn_nsdm, kn_lt, kn_eq, kn_pred, kn_m1, kn_m1', kn_a31, kn_shl, kn_shr, kn_bit, nB_0, nB_1, nB_t, nB_f, Nat.zero_add, Nat.add_zero, Nat.reduceAdd, Nat.reduceMul, Nat.reduceSub, Nat.reducePow]
      unfold F_Mod_comer_b27
      simp (disch := omega) only [m_bad0 hL N0.2.2.2, m_inX (lo := 0) (hi := 3) (by omega) (by omega) g2, ↓dK_205 hL, ↓dG_205 hL, ↓dP_205 hL, ↓dZ_205 hL (x := nI 0) (Or.inl rfl), ↓dZ_205 hL (x := nI 1) (Or.inr rfl), ↓dZ_205 hL (Or.inl rfl), ↓dZ_205 hL (Or.inr rfl), ↓dZ_205 hL (nB_01 _), ↓dR_205_12 hL, dI_209 hL, dS_209 hL, ↓dR_205_35 hL, dI_691 hL, dS_691 hL, ↓reduceIte, ↓kq_bi, ↓kq_let, ↓kq_rz0, ↓kq_rz1, ↓kq_rzB, ↓Option.bind_some, kq_dvn, kt_lt, kf_lt, kt_eq, kf_eq, decide_true, decide_false, eq_self, Bool.false_eq_true, Bool.true_eq_false, not_true_eq_false, not_false_eq_true, jU_eq, jU_ne, jU_U, jV_eq, jV_ne, jV_V, kn_lit, kn_add, kn_mul, kn_sdm, kn_sub, kn_div, kn_nsdm, kn_lt, kn_eq, kn_pred, kn_m1, kn_m1', kn_a31, kn_shl, kn_shr, kn_bit, nB_0, nB_1, nB_t, nB_f, Nat.zero_add, Nat.add_zero, Nat.reduceAdd, Nat.reduceMul, Nat.reduceSub, Nat.reducePow]
      unfold F_Mod_comer_b50
      exact m_bdF hL (f := 2) (i := 1) (by omega) (by omega) (by omega) (fun g => (if_neg (by decide)).trans rfl)
  obtain ⟨a2, l2, h2, rfl⟩ := g2
  exact jDo_q hA (fun t u l m b c h I hL hC => q_id hL hC (c_comer hL (jCC_Q hC hA) h1 h2)) (fun t u l m b c h I hL hC => m_comer hL (jMM_Q hC hA) h1 h2)
theorem x_log (hA : jAG N A) (x1 x2 x3 : Int32) : jDo cdB (fun g => F_SG_log 64 x1 x2 x3 g) (fun g => F_Mod_log 205 x1 x2 x3 g) N A := by
  obtain ⟨τ, ω, r, β, H, E, Tp, p, rf, c0, c1⟩ := A
  have ho : jTOK τ := hA.1
  have o0 : τ 0 0 ≤ 9 := ho.1
  have o1 : τ 0 1 ≤ 6 := ho.2.1
  have o2 : τ 0 2 ≤ 10 := ho.2.2.1
  have o3 : τ 0 3 ≤ 8 := ho.2.2.2.1
  by_cases g1 : jIn x1 (τ 0 0)
  case neg =>
    refine jDo_b (k := 0) (by omega) (by decide) hA (fun t u l m b c h I hL hC => ?_) (fun t u l m b c h I hL hC => ?_)
    · show F_SG_log 64 x1 x2 x3 (jz_I h I) = _
      have hQ := jCC_Q hC hA
      have hT := hQ.1.1
      have ht := jLay_t hL
      have hR := hC.2.1.1
      have hr := hQ.2.2.1
      unfold F_SG_log
      exact c_bdG hL hQ g1
    · show ∃ J, F_Mod_log 205 x1 x2 x3 (jz_I h I) = _ ∧ _
      have hQ := jMM_Q hC hA
      have N0 := jN_0 hQ
      have hQ0 := jN_QM N0 hQ
      have hT0 := hQ0.1.1
      have hr := hQ.2.2.1
      have hR0 := hQ0.2.1
      unfold F_Mod_log
      simp (disch := omega) only [m_gateX hL hT0 ho g1, F_Mod_log_b33, ↓dK_205 hL, ↓dG_205 hL, ↓dP_205 hL, ↓dZ_205 hL (x := nI 0) (Or.inl rfl), ↓dZ_205 hL (x := nI 1) (Or.inr rfl), ↓dZ_205 hL (Or.inl rfl), ↓dZ_205 hL (Or.inr rfl), ↓dZ_205 hL (nB_01 _), ↓dR_205_12 hL, dI_209 hL, dS_209 hL, ↓dR_205_35 hL, dI_691 hL, dS_691 hL, ↓reduceIte, ↓kq_bi, ↓kq_let, ↓kq_rz0, ↓kq_rz1, ↓kq_rzB, ↓Option.bind_some, kq_dvn, kt_lt, kf_lt, kt_eq, kf_eq, decide_true, decide_false, eq_self, Bool.false_eq_true, Bool.true_eq_false, not_true_eq_false, not_false_eq_true, jU_eq, jU_ne, jU_U, jV_eq, jV_ne, jV_V, kn_lit, kn_add, kn_mul, kn_sdm, kn_sub, kn_div, kn_nsdm, kn_lt, kn_eq, kn_pred, kn_m1, kn_m1', kn_a31, kn_shl, kn_shr, kn_bit, nB_0, nB_1, nB_t, nB_f, Nat.zero_add, Nat.add_zero, Nat.reduceAdd, Nat.reduceMul, Nat.reduceSub, Nat.reducePow]
      unfold F_Mod_log_b38
      exact m_bdF hL (f := 1) (i := 0) (by omega) (by omega) (by omega) (fun g => (if_neg (by decide)).trans rfl)
  obtain ⟨a1, h1, rfl⟩ := g1
  have hr6 : r (108 + a1) ≤ 6 := hA.2.2.1.1.1 a1 (by omega)
  by_cases g2 : jIn x2 (r (108 + a1))
  case neg =>
    refine jDo_b (k := 0) (by omega) (by decide) hA (fun t u l m b c h I hL hC => ?_) (fun t u l m b c h I hL hC => ?_)
    · show F_SG_log 64 (nI a1) x2 x3 (jz_I h I) = _
      have hQ := jCC_Q hC hA
      have hT := hQ.1.1
      have ht := jLay_t hL
      have hR := hC.2.1.1
      have hr := hQ.2.2.1
      unfold F_SG_log
      rcases jIn_no (by omega) g2 with e | ⟨e1, e2⟩
      · simp (disch := omega) only [c_needGate hL hT ho h1, kq_th, c_burning hL (Or.inl rfl) hR (show a1 < 9 by omega), F_SG_log_b26, e, ↓dK_64 hL, ↓dG_64 hL, ↓dP_64 hL, ↓dR_64_2 hL, ↓dK_85 hL, ↓dG_85 hL, ↓dP_85 hL, ↓dZ_85 hL (x := nI 0) (Or.inl rfl), ↓dZ_85 hL (x := nI 1) (Or.inr rfl), ↓dZ_85 hL (Or.inl rfl), ↓dZ_85 hL (Or.inr rfl), ↓dZ_85 hL (nB_01 _), ↓dK_T hL ht, ↓dG_T hL ht, ↓dP_T hL ht, ↓reduceIte, ↓kq_bi, ↓kq_let, ↓kq_rz0, ↓kq_rz1, ↓kq_rzB, ↓Option.bind_some, kq_dvn, kt_lt, kf_lt, kt_eq, kf_eq, decide_true, decide_false, eq_self, Bool.false_eq_true, Bool.true_eq_false, not_true_eq_false, not_false_eq_true, jU_eq, jU_ne, jU_U, jV_eq, jV_ne, jV_V, kn_lit, kn_add, kn_mul, kn_sdm, kn_sub, kn_div, kn_nsdm, kn_lt, kn_eq, kn_pred, kn_m1, kn_m1', kn_a31, kn_shl, kn_shr, kn_bit, nB_0, nB_1, nB_t, nB_f, Nat.zero_add, Nat.add_zero, Nat.reduceAdd, Nat.reduceMul, Nat.reduceSub, Nat.reducePow]
        unfold F_SG_log_b27
        exact c_bdE hL
      · simp (disch := omega) only [c_needGate hL hT ho h1, kq_th, c_burning hL (Or.inl rfl) hR (show a1 < 9 by omega), F_SG_log_b26, e1, e2, ↓dK_64 hL, ↓dG_64 hL, ↓dP_64 hL, ↓dR_64_2 hL, ↓dK_85 hL, ↓dG_85 hL, ↓dP_85 hL, ↓dZ_85 hL (x := nI 0) (Or.inl rfl), ↓dZ_85 hL (x := nI 1) (Or.inr rfl), ↓dZ_85 hL (Or.inl rfl), ↓dZ_85 hL (Or.inr rfl), ↓dZ_85 hL (nB_01 _), ↓dK_T hL ht, ↓dG_T hL ht, ↓dP_T hL ht, ↓reduceIte, ↓kq_bi, ↓kq_let, ↓kq_rz0, ↓kq_rz1, ↓kq_rzB, ↓Option.bind_some, kq_dvn, kt_lt, kf_lt, kt_eq, kf_eq, decide_true, decide_false, eq_self, Bool.false_eq_true, Bool.true_eq_false, not_true_eq_false, not_false_eq_true, jU_eq, jU_ne, jU_U, jV_eq, jV_ne, jV_V, kn_lit, kn_add, kn_mul, kn_sdm, kn_sub, kn_div, kn_nsdm, kn_lt, kn_eq, kn_pred, kn_m1, kn_m1', kn_a31, kn_shl, kn_shr, kn_bit, nB_0, nB_1, nB_t, nB_f, Nat.zero_add, Nat.add_zero, Nat.reduceAdd, Nat.reduceMul, Nat.reduceSub, Nat.reducePow]
        unfold F_SG_log_b27
        exact c_bdE hL
    · show ∃ J, F_Mod_log 205 (nI a1) x2 x3 (jz_I h I) = _ ∧ _
      have hQ := jMM_Q hC hA
      have N0 := jN_0 hQ
      have hQ0 := jN_QM N0 hQ
      have hT0 := hQ0.1.1
      have hr := hQ.2.2.1
      have hR0 := hQ0.2.1
      unfold F_Mod_log
      simp (disch := omega) only [m_isGate hL hT0 ho h1, jMR_at hR0, m_inX1 (n := r (108 + a1)) (by omega) g2, F_Mod_log_b33, ↓dK_205 hL, ↓dG_205 hL, ↓dP_205 hL, ↓dZ_205 hL (x := nI 0) (Or.inl rfl), ↓dZ_205 hL (x := nI 1) (Or.inr rfl), ↓dZ_205 hL (Or.inl rfl), ↓dZ_205 hL (Or.inr rfl), ↓dZ_205 hL (nB_01 _), ↓dR_205_12 hL, dI_209 hL, dS_209 hL, ↓dR_205_35 hL, dI_691 hL, dS_691 hL, ↓reduceIte, ↓kq_bi, ↓kq_let, ↓kq_rz0, ↓kq_rz1, ↓kq_rzB, ↓Option.bind_some, kq_dvn, kt_lt, kf_lt, kt_eq, kf_eq, decide_true, decide_false, eq_self, Bool.false_eq_true, Bool.true_eq_false, not_true_eq_false, not_false_eq_true, jU_eq, jU_ne, jU_U, jV_eq, jV_ne, jV_V, kn_lit, kn_add, kn_mul, kn_sdm, kn_sub, kn_div, kn_nsdm, kn_lt, kn_eq, kn_pred, kn_m1, kn_m1', kn_a31, kn_shl, kn_shr, kn_bit, nB_0, nB_1, nB_t, nB_f, Nat.zero_add, Nat.add_zero, Nat.reduceAdd, Nat.reduceMul, Nat.reduceSub, Nat.reducePow]
      unfold F_Mod_log_b38
      exact m_bdF hL (f := 1) (i := 0) (by omega) (by omega) (by omega) (fun g => (if_neg (by decide)).trans rfl)
  obtain ⟨a2, h2, rfl⟩ := g2
  by_cases g3 : jBl x3
  case neg =>
    refine jDo_b (k := 1) (by omega) (by decide) hA (fun t u l m b c h I hL hC => ?_) (fun t u l m b c h I hL hC => ?_)
    · show F_SG_log 64 (nI a1) (nI a2) x3 (jz_I h I) = _
      have hQ := jCC_Q hC hA
      have hT := hQ.1.1
      have ht := jLay_t hL
      have hR := hC.2.1.1
      have hr := hQ.2.2.1
      unfold F_SG_log
      simp (disch := omega) only [c_needGate hL hT ho h1, kq_th, c_burning hL (Or.inl rfl) hR (show a1 < 9 by omega), ↓dK_64 hL, ↓dG_64 hL, ↓dP_64 hL, ↓dR_64_2 hL, ↓dK_85 hL, ↓dG_85 hL, ↓dP_85 hL, ↓dZ_85 hL (x := nI 0) (Or.inl rfl), ↓dZ_85 hL (x := nI 1) (Or.inr rfl), ↓dZ_85 hL (Or.inl rfl), ↓dZ_85 hL (Or.inr rfl), ↓dZ_85 hL (nB_01 _), ↓dK_T hL ht, ↓dG_T hL ht, ↓dP_T hL ht, ↓reduceIte, ↓kq_bi, ↓kq_let, ↓kq_rz0, ↓kq_rz1, ↓kq_rzB, ↓Option.bind_some, kq_dvn, kt_lt, kf_lt, kt_eq, kf_eq, decide_true, decide_false, eq_self, Bool.false_eq_true, Bool.true_eq_false, not_true_eq_false, not_false_eq_true, jU_eq, jU_ne, jU_U, jV_eq, jV_ne, jV_V, kn_lit, kn_add, kn_mul, kn_sdm, kn_sub, kn_div, kn_nsdm, kn_lt, kn_eq, kn_pred, kn_m1, kn_m1', kn_a31, kn_shl, kn_shr, kn_bit, nB_0, nB_1, nB_t, nB_f, Nat.zero_add, Nat.add_zero, Nat.reduceAdd, Nat.reduceMul, Nat.reduceSub, Nat.reducePow]
      unfold F_SG_log_b27
      obtain ⟨e1, e2⟩ := jBl_no g3
      simp (disch := omega) only [c_elem1, kq_th, e1, e2, ↓dK_64 hL, ↓dG_64 hL, ↓dP_64 hL, ↓dR_64_2 hL, ↓dK_85 hL, ↓dG_85 hL, ↓dP_85 hL, ↓dZ_85 hL (x := nI 0) (Or.inl rfl), ↓dZ_85 hL (x := nI 1) (Or.inr rfl), ↓dZ_85 hL (Or.inl rfl), ↓dZ_85 hL (Or.inr rfl), ↓dZ_85 hL (nB_01 _), ↓dK_T hL ht, ↓dG_T hL ht, ↓dP_T hL ht, ↓reduceIte, ↓kq_bi, ↓kq_let, ↓kq_rz0, ↓kq_rz1, ↓kq_rzB, ↓Option.bind_some, kq_dvn, kt_lt, kf_lt, kt_eq, kf_eq, decide_true, decide_false, eq_self, Bool.false_eq_true, Bool.true_eq_false, not_true_eq_false, not_false_eq_true, jU_eq, jU_ne, jU_U, jV_eq, jV_ne, jV_V, kn_lit, kn_add, kn_mul, kn_sdm, kn_sub, kn_div, kn_nsdm, kn_lt, kn_eq, kn_pred, kn_m1, kn_m1', kn_a31, kn_shl, kn_shr, kn_bit, nB_0, nB_1, nB_t, nB_f, Nat.zero_add, Nat.add_zero, Nat.reduceAdd, Nat.reduceMul, Nat.reduceSub, Nat.reducePow]
      unfold F_SG_log_b45
      exact c_bdA hL
    · show ∃ J, F_Mod_log 205 (nI a1) (nI a2) x3 (jz_I h I) = _ ∧ _
      have hQ := jMM_Q hC hA
      have N0 := jN_0 hQ
      have hQ0 := jN_QM N0 hQ
      have hT0 := hQ0.1.1
      have hr := hQ.2.2.1
      have hR0 := hQ0.2.1
      unfold F_Mod_log
      simp (disch := omega) only [m_isGate hL hT0 ho h1, jMR_at hR0, m_in1, ↓dK_205 hL, ↓dG_205 hL, ↓dP_205 hL, ↓dZ_205 hL (x := nI 0) (Or.inl rfl), ↓dZ_205 hL (x := nI 1) (Or.inr rfl), ↓dZ_205 hL (Or.inl rfl), ↓dZ_205 hL (Or.inr rfl), ↓dZ_205 hL (nB_01 _), ↓dR_205_12 hL, dI_209 hL, dS_209 hL, ↓dR_205_35 hL, dI_691 hL, dS_691 hL, ↓reduceIte, ↓kq_bi, ↓kq_let, ↓kq_rz0, ↓kq_rz1, ↓kq_rzB, ↓Option.bind_some, kq_dvn, kt_lt, kf_lt, kt_eq, kf_eq, decide_true, decide_false, eq_self, Bool.false_eq_true, Bool.true_eq_false, not_true_eq_false, not_false_eq_true, jU_eq, jU_ne, jU_U, jV_eq, jV_ne, jV_V, kn_lit, kn_add, kn_mul, kn_sdm, kn_sub, kn_div, kn_nsdm, kn_lt, kn_eq, kn_pred, kn_m1, kn_m1', kn_a31, kn_shl, kn_shr, kn_bit, nB_0, nB_1, nB_t, nB_f, Nat.zero_add, Nat.add_zero, Nat.reduceAdd, Nat.reduceMul, Nat.reduceSub, Nat.reducePow]
      unfold F_Mod_log_b38
      simp (disch := omega) only [m_bad0 hL N0.2.2.2, m_inX (lo := 0) (hi := 1) (by omega) (by omega) (jBl_rg g3), ↓dK_205 hL, ↓dG_205 hL, ↓dP_205 hL, ↓dZ_205 hL (x := nI 0) (Or.inl rfl), ↓dZ_205 hL (x := nI 1) (Or.inr rfl), ↓dZ_205 hL (Or.inl rfl), ↓dZ_205 hL (Or.inr rfl), ↓dZ_205 hL (nB_01 _), ↓dR_205_12 hL, dI_209 hL, dS_209 hL, ↓dR_205_35 hL, dI_691 hL, dS_691 hL, ↓reduceIte, ↓kq_bi, ↓kq_let, ↓kq_rz0, ↓kq_rz1, ↓kq_rzB, ↓Option.bind_some, kq_dvn, kt_lt, kf_lt, kt_eq, kf_eq, decide_true, decide_false, eq_self, Bool.false_eq_true, Bool.true_eq_false, not_true_eq_false, not_false_eq_true, jU_eq, jU_ne, jU_U, jV_eq, jV_ne, jV_V, kn_lit, kn_add, kn_mul, kn_sdm, kn_sub, kn_div, kn_nsdm, kn_lt, kn_eq, kn_pred, kn_m1, kn_m1', kn_a31, kn_shl, kn_shr, kn_bit, nB_0, nB_1, nB_t, nB_f, Nat.zero_add, Nat.add_zero, Nat.reduceAdd, Nat.reduceMul, Nat.reduceSub, Nat.reducePow]
      unfold F_Mod_log_b61
      exact m_bdF hL (f := 2) (i := 1) (by omega) (by omega) (by omega) (fun g => (if_neg (by decide)).trans rfl)
  obtain ⟨a3, rfl⟩ := g3
  exact jDo_q hA (fun t u l m b c h I hL hC => q_id hL hC (c_log hL (jCC_Q hC hA) h1 h2 a3)) (fun t u l m b c h I hL hC => m_log hL (jMM_Q hC hA) h1 h2 a3)
theorem x_would (hA : jAG N A) (x1 x2 x3 : Int32) : jDo cdB (fun g => F_SG_would 64 x1 x2 x3 g) (fun g => F_Mod_would 205 x1 x2 x3 g) N A := by
  obtain ⟨τ, ω, r, β, H, E, Tp, p, rf, c0, c1⟩ := A
  have ho : jTOK τ := hA.1
  have o0 : τ 0 0 ≤ 9 := ho.1
  have o1 : τ 0 1 ≤ 6 := ho.2.1
  have o2 : τ 0 2 ≤ 10 := ho.2.2.1
  have o3 : τ 0 3 ≤ 8 := ho.2.2.2.1
  by_cases g1 : jIn x1 (τ 0 0)
  case neg =>
    refine jDo_b (k := 0) (by omega) (by decide) hA (fun t u l m b c h I hL hC => ?_) (fun t u l m b c h I hL hC => ?_)
    · show F_SG_would 64 x1 x2 x3 (jz_I h I) = _
      have hQ := jCC_Q hC hA
      have hT := hQ.1.1
      have ht := jLay_t hL
      unfold F_SG_would
      exact c_bdG hL hQ g1
    · show ∃ J, F_Mod_would 205 x1 x2 x3 (jz_I h I) = _ ∧ _
      have hQ := jMM_Q hC hA
      have N0 := jN_0 hQ
      have hQ0 := jN_QM N0 hQ
      have hT0 := hQ0.1.1
      unfold F_Mod_would
      simp (disch := omega) only [m_gateX hL hT0 ho g1, ↓dK_205 hL, ↓dG_205 hL, ↓dP_205 hL, ↓dZ_205 hL (x := nI 0) (Or.inl rfl), ↓dZ_205 hL (x := nI 1) (Or.inr rfl), ↓dZ_205 hL (Or.inl rfl), ↓dZ_205 hL (Or.inr rfl), ↓dZ_205 hL (nB_01 _), ↓dR_205_12 hL, dI_209 hL, dS_209 hL, ↓dR_205_35 hL, dI_691 hL, dS_691 hL, ↓reduceIte, ↓kq_bi, ↓kq_let, ↓kq_rz0, ↓kq_rz1, ↓kq_rzB, ↓Option.bind_some, kq_dvn, kt_lt, kf_lt, kt_eq, kf_eq, decide_true, decide_false, eq_self, Bool.false_eq_true, Bool.true_eq_false, not_true_eq_false, not_false_eq_true, jU_eq, jU_ne, jU_U, jV_eq, jV_ne, jV_V, kn_lit, kn_add, kn_mul, kn_sdm, kn_sub, kn_div, kn_nsdm, kn_lt, kn_eq, kn_pred, kn_m1, kn_m1', kn_a31, kn_shl, kn_shr, kn_bit, nB_0, nB_1, nB_t, nB_f, Nat.zero_add, Nat.add_zero, Nat.reduceAdd, Nat.reduceMul, Nat.reduceSub, Nat.reducePow]
      unfold F_Mod_would_b19
      exact m_bdF hL (f := 1) (i := 0) (by omega) (by omega) (by omega) (fun g => (if_neg (by decide)).trans rfl)
  obtain ⟨a1, h1, rfl⟩ := g1
  by_cases g2 : jRg x2 0 999
  case neg =>
    refine jDo_b (k := 1) (by omega) (by decide) hA (fun t u l m b c h I hL hC => ?_) (fun t u l m b c h I hL hC => ?_)
    · show F_SG_would 64 (nI a1) x2 x3 (jz_I h I) = _
      have hQ := jCC_Q hC hA
      have hT := hQ.1.1
      have ht := jLay_t hL
      unfold F_SG_would
      rcases jRg_no (by omega) (by omega) g2 with e | ⟨e1, e2⟩
      · simp (disch := omega) only [c_needGate hL hT ho h1, kq_th, F_SG_would_b31, e, ↓dK_64 hL, ↓dG_64 hL, ↓dP_64 hL, ↓dR_64_2 hL, ↓dK_85 hL, ↓dG_85 hL, ↓dP_85 hL, ↓dZ_85 hL (x := nI 0) (Or.inl rfl), ↓dZ_85 hL (x := nI 1) (Or.inr rfl), ↓dZ_85 hL (Or.inl rfl), ↓dZ_85 hL (Or.inr rfl), ↓dZ_85 hL (nB_01 _), ↓dK_T hL ht, ↓dG_T hL ht, ↓dP_T hL ht, ↓reduceIte, ↓kq_bi, ↓kq_let, ↓kq_rz0, ↓kq_rz1, ↓kq_rzB, ↓Option.bind_some, kq_dvn, kt_lt, kf_lt, kt_eq, kf_eq, decide_true, decide_false, eq_self, Bool.false_eq_true, Bool.true_eq_false, not_true_eq_false, not_false_eq_true, jU_eq, jU_ne, jU_U, jV_eq, jV_ne, jV_V, kn_lit, kn_add, kn_mul, kn_sdm, kn_sub, kn_div, kn_nsdm, kn_lt, kn_eq, kn_pred, kn_m1, kn_m1', kn_a31, kn_shl, kn_shr, kn_bit, nB_0, nB_1, nB_t, nB_f, Nat.zero_add, Nat.add_zero, Nat.reduceAdd, Nat.reduceMul, Nat.reduceSub, Nat.reducePow]
        unfold F_SG_would_b32
        exact c_bdA hL
      · simp (disch := omega) only [c_needGate hL hT ho h1, kq_th, F_SG_would_b31, e1, e2, ↓dK_64 hL, ↓dG_64 hL, ↓dP_64 hL, ↓dR_64_2 hL, ↓dK_85 hL, ↓dG_85 hL, ↓dP_85 hL, ↓dZ_85 hL (x := nI 0) (Or.inl rfl), ↓dZ_85 hL (x := nI 1) (Or.inr rfl), ↓dZ_85 hL (Or.inl rfl), ↓dZ_85 hL (Or.inr rfl), ↓dZ_85 hL (nB_01 _), ↓dK_T hL ht, ↓dG_T hL ht, ↓dP_T hL ht, ↓reduceIte, ↓kq_bi, ↓kq_let, ↓kq_rz0, ↓kq_rz1, ↓kq_rzB, ↓Option.bind_some, kq_dvn, kt_lt, kf_lt, kt_eq, kf_eq, decide_true, decide_false, eq_self, Bool.false_eq_true, Bool.true_eq_false, not_true_eq_false, not_false_eq_true, jU_eq, jU_ne, jU_U, jV_eq, jV_ne, jV_V, kn_lit, kn_add, kn_mul, kn_sdm, kn_sub, kn_div, kn_nsdm, kn_lt, kn_eq, kn_pred, kn_m1, kn_m1', kn_a31, kn_shl, kn_shr, kn_bit, nB_0, nB_1, nB_t, nB_f, Nat.zero_add, Nat.add_zero, Nat.reduceAdd, Nat.reduceMul, Nat.reduceSub, Nat.reducePow]
        unfold F_SG_would_b32
        exact c_bdA hL
    · show ∃ J, F_Mod_would 205 (nI a1) x2 x3 (jz_I h I) = _ ∧ _
      have hQ := jMM_Q hC hA
      have N0 := jN_0 hQ
      have hQ0 := jN_QM N0 hQ
      have hT0 := hQ0.1.1
      unfold F_Mod_would
      simp (disch := omega) only [m_isGate hL hT0 ho h1, ↓dK_205 hL, ↓dG_205 hL, ↓dP_205 hL, ↓dZ_205 hL (x := nI 0) (Or.inl rfl), ↓dZ_205 hL (x := nI 1) (Or.inr rfl), ↓dZ_205 hL (Or.inl rfl), ↓dZ_205 hL (Or.inr rfl), ↓dZ_205 hL (nB_01 _), ↓dR_205_12 hL, dI_209 hL, dS_209 hL, ↓dR_205_35 hL, dI_691 hL, dS_691 hL, ↓reduceIte, ↓kq_bi, ↓kq_let, ↓kq_rz0, ↓kq_rz1, ↓kq_rzB, ↓Option.bind_some, kq_dvn, kt_lt, kf_lt, kt_eq, kf_eq, decide_true, decide_false, eq_self, Bool.false_eq_true, Bool.true_eq_false, not_true_eq_false, not_false_eq_true, jU_eq, jU_ne, jU_U, jV_eq, jV_ne, jV_V, kn_lit, kn_add, kn_mul, kn_sdm, kn_sub, kn_div, kn_nsdm, kn_lt, kn_eq, kn_pred, kn_m1, kn_m1', kn_a31, kn_shl, kn_shr, kn_bit, nB_0, nB_1, nB_t, nB_f, Nat.zero_add, Nat.add_zero, Nat.reduceAdd, Nat.reduceMul, Nat.reduceSub, Nat.reducePow]
      unfold F_Mod_would_b19
      simp (disch := omega) only [m_bad0 hL N0.2.2.2, m_inX (lo := 0) (hi := 999) (by omega) (by omega) g2, F_Mod_would_b49, ↓dK_205 hL, ↓dG_205 hL, ↓dP_205 hL, ↓dZ_205 hL (x := nI 0) (Or.inl rfl), ↓dZ_205 hL (x := nI 1) (Or.inr rfl), ↓dZ_205 hL (Or.inl rfl), ↓dZ_205 hL (Or.inr rfl), ↓dZ_205 hL (nB_01 _), ↓dR_205_12 hL, dI_209 hL, dS_209 hL, ↓dR_205_35 hL, dI_691 hL, dS_691 hL, ↓reduceIte, ↓kq_bi, ↓kq_let, ↓kq_rz0, ↓kq_rz1, ↓kq_rzB, ↓Option.bind_some, kq_dvn, kt_lt, kf_lt, kt_eq, kf_eq, decide_true, decide_false, eq_self, Bool.false_eq_true, Bool.true_eq_false, not_true_eq_false, not_false_eq_true, jU_eq, jU_ne, jU_U, jV_eq, jV_ne, jV_V, kn_lit, kn_add, kn_mul, kn_sdm, kn_sub, kn_div, kn_nsdm, kn_lt, kn_eq, kn_pred, kn_m1, kn_m1', kn_a31, kn_shl, kn_shr, kn_bit, nB_0, nB_1, nB_t, nB_f, Nat.zero_add, Nat.add_zero, Nat.reduceAdd, Nat.reduceMul, Nat.reduceSub, Nat.reducePow]
      unfold F_Mod_would_b54
      exact m_bdF hL (f := 2) (i := 1) (by omega) (by omega) (by omega) (fun g => (if_neg (by decide)).trans rfl)
  obtain ⟨a2, l2, h2, rfl⟩ := g2
  by_cases g3 : jRg x3 0 6
  case neg =>
    refine jDo_b (k := 1) (by omega) (by decide) hA (fun t u l m b c h I hL hC => ?_) (fun t u l m b c h I hL hC => ?_)
    · show F_SG_would 64 (nI a1) (nI a2) x3 (jz_I h I) = _
      have hQ := jCC_Q hC hA
      have hT := hQ.1.1
      have ht := jLay_t hL
      unfold F_SG_would
      rcases jRg_no (by omega) (by omega) g3 with e | ⟨e1, e2⟩
      · simp (disch := omega) only [c_needGate hL hT ho h1, kq_th, F_SG_would_b31, e, ↓dK_64 hL, ↓dG_64 hL, ↓dP_64 hL, ↓dR_64_2 hL, ↓dK_85 hL, ↓dG_85 hL, ↓dP_85 hL, ↓dZ_85 hL (x := nI 0) (Or.inl rfl), ↓dZ_85 hL (x := nI 1) (Or.inr rfl), ↓dZ_85 hL (Or.inl rfl), ↓dZ_85 hL (Or.inr rfl), ↓dZ_85 hL (nB_01 _), ↓dK_T hL ht, ↓dG_T hL ht, ↓dP_T hL ht, ↓reduceIte, ↓kq_bi, ↓kq_let, ↓kq_rz0, ↓kq_rz1, ↓kq_rzB, ↓Option.bind_some, kq_dvn, kt_lt, kf_lt, kt_eq, kf_eq, decide_true, decide_false, eq_self, Bool.false_eq_true, Bool.true_eq_false, not_true_eq_false, not_false_eq_true, jU_eq, jU_ne, jU_U, jV_eq, jV_ne, jV_V, kn_lit, kn_add, kn_mul, kn_sdm, kn_sub, kn_div, kn_nsdm, kn_lt, kn_eq, kn_pred, kn_m1, kn_m1', kn_a31, kn_shl, kn_shr, kn_bit, nB_0, nB_1, nB_t, nB_f, Nat.zero_add, Nat.add_zero, Nat.reduceAdd, Nat.reduceMul, Nat.reduceSub, Nat.reducePow]
        unfold F_SG_would_b32
        exact c_bdA hL
      · simp (disch := omega) only [c_needGate hL hT ho h1, kq_th, F_SG_would_b31, e1, e2, ↓dK_64 hL, ↓dG_64 hL, ↓dP_64 hL, ↓dR_64_2 hL, ↓dK_85 hL, ↓dG_85 hL, ↓dP_85 hL, ↓dZ_85 hL (x := nI 0) (Or.inl rfl), ↓dZ_85 hL (x := nI 1) (Or.inr rfl), ↓dZ_85 hL (Or.inl rfl), ↓dZ_85 hL (Or.inr rfl), ↓dZ_85 hL (nB_01 _), ↓dK_T hL ht, ↓dG_T hL ht, ↓dP_T hL ht, ↓reduceIte, ↓kq_bi, ↓kq_let, ↓kq_rz0, ↓kq_rz1, ↓kq_rzB, ↓Option.bind_some, kq_dvn, kt_lt, kf_lt, kt_eq, kf_eq, decide_true, decide_false, eq_self, Bool.false_eq_true, Bool.true_eq_false, not_true_eq_false, not_false_eq_true, jU_eq, jU_ne, jU_U, jV_eq, jV_ne, jV_V, kn_lit, kn_add, kn_mul, kn_sdm, kn_sub, kn_div, kn_nsdm, kn_lt, kn_eq, kn_pred, kn_m1, kn_m1', kn_a31, kn_shl, kn_shr, kn_bit, nB_0, nB_1, nB_t, nB_f, Nat.zero_add, Nat.add_zero, Nat.reduceAdd, Nat.reduceMul, Nat.reduceSub, Nat.reducePow]
        unfold F_SG_would_b32
        exact c_bdA hL
    · show ∃ J, F_Mod_would 205 (nI a1) (nI a2) x3 (jz_I h I) = _ ∧ _
      have hQ := jMM_Q hC hA
      have N0 := jN_0 hQ
      have hQ0 := jN_QM N0 hQ
      have hT0 := hQ0.1.1
      unfold F_Mod_would
      simp (disch := omega) only [m_isGate hL hT0 ho h1, ↓dK_205 hL, ↓dG_205 hL, ↓dP_205 hL, ↓dZ_205 hL (x := nI 0) (Or.inl rfl), ↓dZ_205 hL (x := nI 1) (Or.inr rfl), ↓dZ_205 hL (Or.inl rfl), ↓dZ_205 hL (Or.inr rfl), ↓dZ_205 hL (nB_01 _), ↓dR_205_12 hL, dI_209 hL, dS_209 hL, ↓dR_205_35 hL, dI_691 hL, dS_691 hL, ↓reduceIte, ↓kq_bi, ↓kq_let, ↓kq_rz0, ↓kq_rz1, ↓kq_rzB, ↓Option.bind_some, kq_dvn, kt_lt, kf_lt, kt_eq, kf_eq, decide_true, decide_false, eq_self, Bool.false_eq_true, Bool.true_eq_false, not_true_eq_false, not_false_eq_true, jU_eq, jU_ne, jU_U, jV_eq, jV_ne, jV_V, kn_lit, kn_add, kn_mul, kn_sdm, kn_sub, kn_div, kn_nsdm, kn_lt, kn_eq, kn_pred, kn_m1, kn_m1', kn_a31, kn_shl, kn_shr, kn_bit, nB_0, nB_1, nB_t, nB_f, Nat.zero_add, Nat.add_zero, Nat.reduceAdd, Nat.reduceMul, Nat.reduceSub, Nat.reducePow]
      unfold F_Mod_would_b19
      simp (disch := omega) only [m_bad0 hL N0.2.2.2, m_in1, m_inX (lo := 0) (hi := 6) (by omega) (by omega) g3, F_Mod_would_b49, ↓dK_205 hL, ↓dG_205 hL, ↓dP_205 hL, ↓dZ_205 hL (x := nI 0) (Or.inl rfl), ↓dZ_205 hL (x := nI 1) (Or.inr rfl), ↓dZ_205 hL (Or.inl rfl), ↓dZ_205 hL (Or.inr rfl), ↓dZ_205 hL (nB_01 _), ↓dR_205_12 hL, dI_209 hL, dS_209 hL, ↓dR_205_35 hL, dI_691 hL, dS_691 hL, ↓reduceIte, ↓kq_bi, ↓kq_let, ↓kq_rz0, ↓kq_rz1, ↓kq_rzB, ↓Option.bind_some, kq_dvn, kt_lt, kf_lt, kt_eq, kf_eq, decide_true, decide_false, eq_self, Bool.false_eq_true, Bool.true_eq_false, not_true_eq_false, not_false_eq_true, jU_eq, jU_ne, jU_U, jV_eq, jV_ne, jV_V, kn_lit, kn_add, kn_mul, kn_sdm, kn_sub, kn_div, kn_nsdm, kn_lt, kn_eq, kn_pred, kn_m1, kn_m1', kn_a31, kn_shl, kn_shr, kn_bit, nB_0, nB_1, nB_t, nB_f, Nat.zero_add, Nat.add_zero, Nat.reduceAdd, Nat.reduceMul, Nat.reduceSub, Nat.reducePow]
      unfold F_Mod_would_b54
      exact m_bdF hL (f := 2) (i := 1) (by omega) (by omega) (by omega) (fun g => (if_neg (by decide)).trans rfl)
  obtain ⟨a3, l3, h3, rfl⟩ := g3
  exact jDo_q hA (fun t u l m b c h I hL hC => q_c85 hL hC (c_would hL (jCC_Q hC hA) h1 h2 h3)) (fun t u l m b c h I hL hC => m_would hL (jMM_Q hC hA) h1 h2 h3)
theorem x_when (hA : jAG N A) (x1 x2 : Int32) : jDo cdB (fun g => F_SG_when 64 x1 x2 g) (fun g => F_Mod_when 205 x1 x2 g) N A := by
  obtain ⟨τ, ω, r, β, H, E, Tp, p, rf, c0, c1⟩ := A
  have ho : jTOK τ := hA.1
  have o0 : τ 0 0 ≤ 9 := ho.1
  have o1 : τ 0 1 ≤ 6 := ho.2.1
  have o2 : τ 0 2 ≤ 10 := ho.2.2.1
  have o3 : τ 0 3 ≤ 8 := ho.2.2.2.1
  by_cases g1 : jIn x1 (τ 0 0)
  case neg =>
    refine jDo_b (k := 0) (by omega) (by decide) hA (fun t u l m b c h I hL hC => ?_) (fun t u l m b c h I hL hC => ?_)
    · show F_SG_when 64 x1 x2 (jz_I h I) = _
      have hQ := jCC_Q hC hA
      have hT := hQ.1.1
      have ht := jLay_t hL
      unfold F_SG_when
      exact c_bdG hL hQ g1
    · show ∃ J, F_Mod_when 205 x1 x2 (jz_I h I) = _ ∧ _
      have hQ := jMM_Q hC hA
      have N0 := jN_0 hQ
      have hQ0 := jN_QM N0 hQ
      have hT0 := hQ0.1.1
      unfold F_Mod_when
      simp (disch := omega) only [m_gateX hL hT0 ho g1, ↓dK_205 hL, ↓dG_205 hL, ↓dP_205 hL, ↓dZ_205 hL (x := nI 0) (Or.inl rfl), ↓dZ_205 hL (x := nI 1) (Or.inr rfl), ↓dZ_205 hL (Or.inl rfl), ↓dZ_205 hL (Or.inr rfl), ↓dZ_205 hL (nB_01 _), ↓dR_205_12 hL, dI_209 hL, dS_209 hL, ↓dR_205_35 hL, dI_691 hL, dS_691 hL, ↓reduceIte, ↓kq_bi, ↓kq_let, ↓kq_rz0, ↓kq_rz1, ↓kq_rzB, ↓Option.bind_some, kq_dvn, kt_lt, kf_lt, kt_eq, kf_eq, decide_true, decide_false, eq_self, Bool.false_eq_true, Bool.true_eq_false, not_true_eq_false, not_false_eq_true, jU_eq, jU_ne, jU_U, jV_eq, jV_ne, jV_V, kn_lit, kn_add, kn_mul, kn_sdm, kn_sub, kn_div, kn_nsdm, kn_lt, kn_eq, kn_pred, kn_m1, kn_m1', kn_a31, kn_shl, kn_shr, kn_bit, nB_0, nB_1, nB_t, nB_f, Nat.zero_add, Nat.add_zero, Nat.reduceAdd, Nat.reduceMul, Nat.reduceSub, Nat.reducePow]
      unfold F_Mod_when_b19
      exact m_bdF hL (f := 1) (i := 0) (by omega) (by omega) (by omega) (fun g => (if_neg (by decide)).trans rfl)
  obtain ⟨a1, h1, rfl⟩ := g1
  by_cases g2 : jBl x2
  case neg =>
    refine jDo_b (k := 1) (by omega) (by decide) hA (fun t u l m b c h I hL hC => ?_) (fun t u l m b c h I hL hC => ?_)
    · show F_SG_when 64 (nI a1) x2 (jz_I h I) = _
      have hQ := jCC_Q hC hA
      have hT := hQ.1.1
      have ht := jLay_t hL
      unfold F_SG_when
      obtain ⟨e1, e2⟩ := jBl_no g2
      simp (disch := omega) only [c_needGate hL hT ho h1, kq_th, e1, e2, ↓dK_64 hL, ↓dG_64 hL, ↓dP_64 hL, ↓dR_64_2 hL, ↓dK_85 hL, ↓dG_85 hL, ↓dP_85 hL, ↓dZ_85 hL (x := nI 0) (Or.inl rfl), ↓dZ_85 hL (x := nI 1) (Or.inr rfl), ↓dZ_85 hL (Or.inl rfl), ↓dZ_85 hL (Or.inr rfl), ↓dZ_85 hL (nB_01 _), ↓dK_T hL ht, ↓dG_T hL ht, ↓dP_T hL ht, ↓reduceIte, ↓kq_bi, ↓kq_let, ↓kq_rz0, ↓kq_rz1, ↓kq_rzB, ↓Option.bind_some, kq_dvn, kt_lt, kf_lt, kt_eq, kf_eq, decide_true, decide_false, eq_self, Bool.false_eq_true, Bool.true_eq_false, not_true_eq_false, not_false_eq_true, jU_eq, jU_ne, jU_U, jV_eq, jV_ne, jV_V, kn_lit, kn_add, kn_mul, kn_sdm, kn_sub, kn_div, kn_nsdm, kn_lt, kn_eq, kn_pred, kn_m1, kn_m1', kn_a31, kn_shl, kn_shr, kn_bit, nB_0, nB_1, nB_t, nB_f, Nat.zero_add, Nat.add_zero, Nat.reduceAdd, Nat.reduceMul, Nat.reduceSub, Nat.reducePow]
      unfold F_SG_when_b20
      exact c_bdA hL
    · show ∃ J, F_Mod_when 205 (nI a1) x2 (jz_I h I) = _ ∧ _
      have hQ := jMM_Q hC hA
      have N0 := jN_0 hQ
      have hQ0 := jN_QM N0 hQ
      have hT0 := hQ0.1.1
      unfold F_Mod_when
      simp (disch := omega) only [m_isGate hL hT0 ho h1, ↓dK_205 hL, ↓dG_205 hL, ↓dP_205 hL, ↓dZ_205 hL (x := nI 0) (Or.inl rfl), ↓dZ_205 hL (x := nI 1) (Or.inr rfl), ↓dZ_205 hL (Or.inl rfl), ↓dZ_205 hL (Or.inr rfl), ↓dZ_205 hL (nB_01 _), ↓dR_205_12 hL, dI_209 hL, dS_209 hL, ↓dR_205_35 hL, dI_691 hL, dS_691 hL, ↓reduceIte, ↓kq_bi, ↓kq_let, ↓kq_rz0, ↓kq_rz1, ↓kq_rzB, ↓Option.bind_some, kq_dvn, kt_lt, kf_lt, kt_eq, kf_eq, decide_true, decide_false, eq_self, Bool.false_eq_true, Bool.true_eq_false, not_true_eq_false, not_false_eq_true, jU_eq, jU_ne, jU_U, jV_eq, jV_ne, jV_V, kn_lit, kn_add, kn_mul, kn_sdm, kn_sub, kn_div, kn_nsdm, kn_lt, kn_eq, kn_pred, kn_m1, kn_m1', kn_a31, kn_shl, kn_shr, kn_bit, nB_0, nB_1, nB_t, nB_f, Nat.zero_add, Nat.add_zero, Nat.reduceAdd, Nat.reduceMul, Nat.reduceSub, Nat.reducePow]
      unfold F_Mod_when_b19
      simp (disch := omega) only [m_bad0 hL N0.2.2.2, m_inX (lo := 0) (hi := 1) (by omega) (by omega) (jBl_rg g2), ↓dK_205 hL, ↓dG_205 hL, ↓dP_205 hL, ↓dZ_205 hL (x := nI 0) (Or.inl rfl), ↓dZ_205 hL (x := nI 1) (Or.inr rfl), ↓dZ_205 hL (Or.inl rfl), ↓dZ_205 hL (Or.inr rfl), ↓dZ_205 hL (nB_01 _), ↓dR_205_12 hL, dI_209 hL, dS_209 hL, ↓dR_205_35 hL, dI_691 hL, dS_691 hL, ↓reduceIte, ↓kq_bi, ↓kq_let, ↓kq_rz0, ↓kq_rz1, ↓kq_rzB, ↓Option.bind_some, kq_dvn, kt_lt, kf_lt, kt_eq, kf_eq, decide_true, decide_false, eq_self, Bool.false_eq_true, Bool.true_eq_false, not_true_eq_false, not_false_eq_true, jU_eq, jU_ne, jU_U, jV_eq, jV_ne, jV_V, kn_lit, kn_add, kn_mul, kn_sdm, kn_sub, kn_div, kn_nsdm, kn_lt, kn_eq, kn_pred, kn_m1, kn_m1', kn_a31, kn_shl, kn_shr, kn_bit, nB_0, nB_1, nB_t, nB_f, Nat.zero_add, Nat.add_zero, Nat.reduceAdd, Nat.reduceMul, Nat.reduceSub, Nat.reducePow]
      unfold F_Mod_when_b42
      exact m_bdF hL (f := 2) (i := 1) (by omega) (by omega) (by omega) (fun g => (if_neg (by decide)).trans rfl)
  obtain ⟨a2, rfl⟩ := g2
  exact jDo_q hA (fun t u l m b c h I hL hC => q_c90 hL hC (c_when hL (jCC_Q hC hA) h1 a2)) (fun t u l m b c h I hL hC => m_when hL (jMM_Q hC hA) h1 a2)
theorem x_shut (hA : jAG N A) (x1 x2 : Int32) : jDo cdB (fun g => F_SG_shut 64 x1 x2 g) (fun g => F_Mod_shut 205 x1 x2 g) N A := by
  obtain ⟨τ, ω, r, β, H, E, Tp, p, rf, c0, c1⟩ := A
  have ho : jTOK τ := hA.1
  have o0 : τ 0 0 ≤ 9 := ho.1
  have o1 : τ 0 1 ≤ 6 := ho.2.1
  have o2 : τ 0 2 ≤ 10 := ho.2.2.1
  have o3 : τ 0 3 ≤ 8 := ho.2.2.2.1
  by_cases g1 : jIn x1 (τ 0 0)
  case neg =>
    refine jDo_b (k := 0) (by omega) (by decide) hA (fun t u l m b c h I hL hC => ?_) (fun t u l m b c h I hL hC => ?_)
    · show F_SG_shut 64 x1 x2 (jz_I h I) = _
      have hQ := jCC_Q hC hA
      have hT := hQ.1.1
      have ht := jLay_t hL
      unfold F_SG_shut
      exact c_bdG hL hQ g1
    · show ∃ J, F_Mod_shut 205 x1 x2 (jz_I h I) = _ ∧ _
      have hQ := jMM_Q hC hA
      have N0 := jN_0 hQ
      have hQ0 := jN_QM N0 hQ
      have hT0 := hQ0.1.1
      unfold F_Mod_shut
      simp (disch := omega) only [m_gateX hL hT0 ho g1, ↓dK_205 hL, ↓dG_205 hL, ↓dP_205 hL, ↓dZ_205 hL (x := nI 0) (Or.inl rfl), ↓dZ_205 hL (x := nI 1) (Or.inr rfl), ↓dZ_205 hL (Or.inl rfl), ↓dZ_205 hL (Or.inr rfl), ↓dZ_205 hL (nB_01 _), ↓dR_205_12 hL, dI_209 hL, dS_209 hL, ↓dR_205_35 hL, dI_691 hL, dS_691 hL, ↓reduceIte, ↓kq_bi, ↓kq_let, ↓kq_rz0, ↓kq_rz1, ↓kq_rzB, ↓Option.bind_some, kq_dvn, kt_lt, kf_lt, kt_eq, kf_eq, decide_true, decide_false, eq_self, Bool.false_eq_true, Bool.true_eq_false, not_true_eq_false, not_false_eq_true, jU_eq, jU_ne, jU_U, jV_eq, jV_ne, jV_V, kn_lit, kn_add, kn_mul, kn_sdm, kn_sub, kn_div, kn_nsdm, kn_lt, kn_eq, kn_pred, kn_m1, kn_m1', kn_a31, kn_shl, kn_shr, kn_bit, nB_0, nB_1, nB_t, nB_f, Nat.zero_add, Nat.add_zero, Nat.reduceAdd, Nat.reduceMul, Nat.reduceSub, Nat.reducePow]
      unfold F_Mod_shut_b19
      exact m_bdF hL (f := 1) (i := 0) (by omega) (by omega) (by omega) (fun g => (if_neg (by decide)).trans rfl)
  obtain ⟨a1, h1, rfl⟩ := g1
  by_cases g2 : jRg x2 0 30
  case neg =>
    refine jDo_b (k := 1) (by omega) (by decide) hA (fun t u l m b c h I hL hC => ?_) (fun t u l m b c h I hL hC => ?_)
    · show F_SG_shut 64 (nI a1) x2 (jz_I h I) = _
      have hQ := jCC_Q hC hA
      have hT := hQ.1.1
      have ht := jLay_t hL
      unfold F_SG_shut
      rcases jRg_no (by omega) (by omega) g2 with e | ⟨e1, e2⟩
      · simp (disch := omega) only [c_needGate hL hT ho h1, kq_th, F_SG_shut_b20, e, ↓dK_64 hL, ↓dG_64 hL, ↓dP_64 hL, ↓dR_64_2 hL, ↓dK_85 hL, ↓dG_85 hL, ↓dP_85 hL, ↓dZ_85 hL (x := nI 0) (Or.inl rfl), ↓dZ_85 hL (x := nI 1) (Or.inr rfl), ↓dZ_85 hL (Or.inl rfl), ↓dZ_85 hL (Or.inr rfl), ↓dZ_85 hL (nB_01 _), ↓dK_T hL ht, ↓dG_T hL ht, ↓dP_T hL ht, ↓reduceIte, ↓kq_bi, ↓kq_let, ↓kq_rz0, ↓kq_rz1, ↓kq_rzB, ↓Option.bind_some, kq_dvn, kt_lt, kf_lt, kt_eq, kf_eq, decide_true, decide_false, eq_self, Bool.false_eq_true, Bool.true_eq_false, not_true_eq_false, not_false_eq_true, jU_eq, jU_ne, jU_U, jV_eq, jV_ne, jV_V, kn_lit, kn_add, kn_mul, kn_sdm, kn_sub, kn_div, kn_nsdm, kn_lt, kn_eq, kn_pred, kn_m1, kn_m1', kn_a31, kn_shl, kn_shr, kn_bit, nB_0, nB_1, nB_t, nB_f, Nat.zero_add, Nat.add_zero, Nat.reduceAdd, Nat.reduceMul, Nat.reduceSub, Nat.reducePow]
        unfold F_SG_shut_b21
        exact c_bdA hL
      · simp (disch := omega) only [c_needGate hL hT ho h1, kq_th, F_SG_shut_b20, e1, e2, ↓dK_64 hL, ↓dG_64 hL, ↓dP_64 hL, ↓dR_64_2 hL, ↓dK_85 hL, ↓dG_85 hL, ↓dP_85 hL, ↓dZ_85 hL (x := nI 0) (Or.inl rfl), ↓dZ_85 hL (x := nI 1) (Or.inr rfl), ↓dZ_85 hL (Or.inl rfl), ↓dZ_85 hL (Or.inr rfl), ↓dZ_85 hL (nB_01 _), ↓dK_T hL ht, ↓dG_T hL ht, ↓dP_T hL ht, ↓reduceIte, ↓kq_bi, ↓kq_let, ↓kq_rz0, ↓kq_rz1, ↓kq_rzB, ↓Option.bind_some, kq_dvn, kt_lt, kf_lt, kt_eq, kf_eq, decide_true, decide_false, eq_self, Bool.false_eq_true, Bool.true_eq_false, not_true_eq_false, not_false_eq_true, jU_eq, jU_ne, jU_U, jV_eq, jV_ne, jV_V, kn_lit, kn_add, kn_mul, kn_sdm, kn_sub, kn_div, kn_nsdm, kn_lt, kn_eq, kn_pred, kn_m1, kn_m1', kn_a31, kn_shl, kn_shr, kn_bit, nB_0, nB_1, nB_t, nB_f, Nat.zero_add, Nat.add_zero, Nat.reduceAdd, Nat.reduceMul, Nat.reduceSub, Nat.reducePow]
        unfold F_SG_shut_b21
        exact c_bdA hL
    · show ∃ J, F_Mod_shut 205 (nI a1) x2 (jz_I h I) = _ ∧ _
      have hQ := jMM_Q hC hA
      have N0 := jN_0 hQ
      have hQ0 := jN_QM N0 hQ
      have hT0 := hQ0.1.1
      unfold F_Mod_shut
      simp (disch := omega) only [m_isGate hL hT0 ho h1, ↓dK_205 hL, ↓dG_205 hL, ↓dP_205 hL, ↓dZ_205 hL (x := nI 0) (Or.inl rfl), ↓dZ_205 hL (x := nI 1) (Or.inr rfl), ↓dZ_205 hL (Or.inl rfl), ↓dZ_205 hL (Or.inr rfl), ↓dZ_205 hL (nB_01 _), ↓dR_205_12 hL, dI_209 hL, dS_209 hL, ↓dR_205_35 hL, dI_691 hL, dS_691 hL, ↓reduceIte, ↓kq_bi, ↓kq_let, ↓kq_rz0, ↓kq_rz1, ↓kq_rzB, ↓Option.bind_some, kq_dvn, kt_lt, kf_lt, kt_eq, kf_eq, decide_true, decide_false, eq_self, Bool.false_eq_true, Bool.true_eq_false, not_true_eq_false, not_false_eq_true, jU_eq, jU_ne, jU_U, jV_eq, jV_ne, jV_V, kn_lit, kn_add, kn_mul, kn_sdm, kn_sub, kn_div, kn_nsdm, kn_lt, kn_eq, kn_pred, kn_m1, kn_m1', kn_a31, kn_shl, kn_shr, kn_bit, nB_0, nB_1, nB_t, nB_f, Nat.zero_add, Nat.add_zero, Nat.reduceAdd, Nat.reduceMul, Nat.reduceSub, Nat.reducePow]
      unfold F_Mod_shut_b19
      simp (disch := omega) only [m_bad0 hL N0.2.2.2, m_inX (lo := 0) (hi := 30) (by omega) (by omega) g2, ↓dK_205 hL, ↓dG_205 hL, ↓dP_205 hL, ↓dZ_205 hL (x := nI 0) (Or.inl rfl), ↓dZ_205 hL (x := nI 1) (Or.inr rfl), ↓dZ_205 hL (Or.inl rfl), ↓dZ_205 hL (Or.inr rfl), ↓dZ_205 hL (nB_01 _), ↓dR_205_12 hL, dI_209 hL, dS_209 hL, ↓dR_205_35 hL, dI_691 hL, dS_691 hL, ↓reduceIte, ↓kq_bi, ↓kq_let, ↓kq_rz0, ↓kq_rz1, ↓kq_rzB, ↓Option.bind_some, kq_dvn, kt_lt, kf_lt, kt_eq, kf_eq, decide_true, decide_false, eq_self, Bool.false_eq_true, Bool.true_eq_false, not_true_eq_false, not_false_eq_true, jU_eq, jU_ne, jU_U, jV_eq, jV_ne, jV_V, kn_lit, kn_add, kn_mul, kn_sdm, kn_sub, kn_div, kn_nsdm, kn_lt, kn_eq, kn_pred, kn_m1, kn_m1', kn_a31, kn_shl, kn_shr, kn_bit, nB_0, nB_1, nB_t, nB_f, Nat.zero_add, Nat.add_zero, Nat.reduceAdd, Nat.reduceMul, Nat.reduceSub, Nat.reducePow]
      unfold F_Mod_shut_b43
      exact m_bdF hL (f := 2) (i := 1) (by omega) (by omega) (by omega) (fun g => (if_neg (by decide)).trans rfl)
  obtain ⟨a2, l2, h2, rfl⟩ := g2
  exact jDo_q hA (fun t u l m b c h I hL hC => q_c90 hL hC (c_shut hL (jCC_Q hC hA) h1 h2)) (fun t u l m b c h I hL hC => m_shut hL (jMM_Q hC hA) h1 h2)
end

/-! PLAIN LEAN, 18: turned, ahead -/
section
variable {t u l m b c : Nat} {h : LH} {I J K : Nat → Nat → Int32} {τ : JTn} {r q : JRw} {σ ρ i : Nat} {Q : Type} {x : Int32} {d : Bool} {ω : JLw} {f : Nat → Int32}
theorem s_cm_came {p : Nat → Bool} {c : Nat} : ∀ n, c < n → s_cm τ p r n (123 + c) = if τ 10 c = r 133 then (if p (τ 9 c) = true then 2 else 1) else r (123 + c)
  | 0, h => absurd h (Nat.not_lt_zero c)
  | n + 1, h => by
    show (if τ 10 n = r 133 then s_cm1 τ (p (τ 9 n)) (s_cm τ p r n) n else s_cm τ p r n) (123 + c) = _
    by_cases hcn : c = n
    · subst hcn
      by_cases hh : τ 10 c = r 133
      · rw [if_pos hh, if_pos hh, s_cm1_123]
      · rw [if_neg hh, if_neg hh, s_cm_out _ _ (by omega) (by omega)]
    · have hcn2 : c < n := by omega
      have ih := s_cm_came (p := p) n hcn2
      by_cases hh : τ 10 n = r 133
      · rw [if_pos hh, s_cm1_out (by omega) (by omega)]; exact ih
      · rw [if_neg hh]; exact ih
theorem s_hour_came (ho : jTOK τ) {c : Nat} (hc : c < τ 0 2) : s_hour τ ω d r (123 + c) = if τ 10 c = r 133 then (if s_sh τ ω d r (τ 9 c) = true then 2 else 1) else r (123 + c) := by
  have o0 : τ 0 0 ≤ 9 := ho.1
  have o2 : τ 0 2 ≤ 10 := ho.2.2.1
  unfold s_hour
  rw [nV_ne (by omega), s_burns_hi _ _ o0 (by omega)]
  exact s_cm_came _ hc
theorem jCm_hour (ho : jTOK τ) (hC : jCm τ r) : jCm τ (s_hour τ ω d r) := fun c hc h0 => by
  rw [s_hour_came ho hc] at h0
  rw [s_hour_133]
  by_cases hh : τ 10 c = r 133
  · omega
  · rw [if_neg hh] at h0
    have := hC c hc h0
    omega
theorem s_hrs_came (ho : jTOK τ) (hC : jCm τ r) {c : Nat} (hc : c < τ 0 2) (h0 : ¬ r (123 + c) = 0) : ∀ n, s_hrs τ ω r n (123 + c) = r (123 + c) ∧ r 133 ≤ s_hrs τ ω r n 133
  | 0 => ⟨rfl, Nat.le_refl _⟩
  | n + 1 => by
    obtain ⟨h1, h2⟩ := s_hrs_came ho hC hc h0 n
    have := hC c hc h0
    show s_hour τ ω false (s_hrs τ ω r n) (123 + c) = _ ∧ _ ≤ s_hour τ ω false (s_hrs τ ω r n) 133
    rw [s_hour_came ho hc, s_hour_133, if_neg (by omega)]
    exact ⟨h1, by omega⟩
theorem c_passTrial (hL : jLay t u l m b c h) (hQ : jQC I t l τ ω r) (hS : jSc l 90 I J ∧ jCS J 90 τ false r) {N : Nat} (hN : N ≤ 96) : ∃ K, F_SG_passTrial 64 (nI N) (jz_I h J) = some (jz_I h K) ∧ jSc l 90 I K ∧ jCS K 90 τ false (s_hrs τ ω r N) := by
  have ho := hQ.1.2.1
  refine jE_n (fun P hP => ?_)
  unfold F_SG_passTrial
  refine jW_for0 (f := fun fuel k (J : Nat → Nat → Int32) => F_SG_passTrial_l2 fuel 64 (nI N) (nI k) (jz_I h J)) N (fun k J => (jSc l 90 I J ∧ jCS J 90 τ false (s_hrs τ ω r k))) J hS (by omega) (fun n k J hk hV ih => ?_) (fun n J hV => ?_)
  · obtain ⟨hq, -⟩ := s_hrs_ok (ω := ω) ho hQ.2.2.1 hQ.2.2.2 k (by omega)
    show jW (F_SG_passTrial_c2 (F_SG_passTrial_l2 n) 64 (nI N) (nI k) (jz_I h J)) P
    unfold F_SG_passTrial_c2
    simp (disch := omega) only [↓dK_64 hL, ↓dG_64 hL, ↓dP_64 hL, ↓dR_64_3 hL, ↓dR_95_0 hL, ↓dR_102_0 hL, ↓dR_105_0 hL, ↓dK_90 hL, ↓dG_90 hL, ↓dP_90 hL, ↓dZ_90 hL (x := nI 0) (Or.inl rfl), ↓dZ_90 hL (x := nI 1) (Or.inr rfl), ↓dZ_90 hL (Or.inl rfl), ↓dZ_90 hL (Or.inr rfl), ↓dZ_90 hL (nB_01 _), ↓reduceIte, ↓kq_bi, ↓kq_let, ↓kq_rz0, ↓kq_rz1, ↓kq_rzB, ↓Option.bind_some, kq_dvn, kt_lt, kf_lt, kt_eq, kf_eq, decide_true, decide_false, eq_self, Bool.false_eq_true, Bool.true_eq_false, not_true_eq_false, not_false_eq_true, jU_eq, jU_ne, jU_U, jV_eq, jV_ne, jV_V, kn_lit, kn_add, kn_mul, kn_sdm, kn_sub, kn_div, kn_nsdm, kn_lt, kn_eq, kn_pred, kn_m1, kn_m1', kn_a31, kn_shl, kn_shr, kn_bit, nB_0, nB_1, nB_t, nB_f, Nat.zero_add, Nat.add_zero, Nat.reduceAdd, Nat.reduceMul, Nat.reduceSub, Nat.reducePow]
    exact jW_bn (c_hourT hL hQ hV.1 hV.2 hq) (fun J3 hJ3 => ih _ hJ3)
  · show jW (F_SG_passTrial_c2 (F_SG_passTrial_l2 n) 64 (nI N) (nI N) (jz_I h J)) P
    unfold F_SG_passTrial_c2
    simp (disch := omega) only [↓reduceIte, ↓kq_bi, ↓kq_let, ↓kq_rz0, ↓kq_rz1, ↓kq_rzB, ↓Option.bind_some, kq_dvn, kt_lt, kf_lt, kt_eq, kf_eq, decide_true, decide_false, eq_self, Bool.false_eq_true, Bool.true_eq_false, not_true_eq_false, not_false_eq_true, jU_eq, jU_ne, jU_U, jV_eq, jV_ne, jV_V, kn_lit, kn_add, kn_mul, kn_sdm, kn_sub, kn_div, kn_nsdm, kn_lt, kn_eq, kn_pred, kn_m1, kn_m1', kn_a31, kn_shl, kn_shr, kn_bit, nB_0, nB_1, nB_t, nB_f, Nat.zero_add, Nat.add_zero, Nat.reduceAdd, Nat.reduceMul, Nat.reduceSub, Nat.reducePow]
    exact jW_s (hP J hV)
theorem c_turned (hL : jLay t u l m b c h) (hQ : jQC I t l τ ω r) (hC : jCm τ r) {N : Nat} (hN : N ≤ 96) : ∃ J, F_SG_turned 64 (nI N) (jz_I h I) = some (jo_i (nI (s_trn τ ω r N), jz_I h J)) ∧ jSc l 90 I J := by
  have ht := jLay_t hL
  have ho := hQ.1.2.1
  have o2 : τ 0 2 ≤ 10 := ho.2.2.1
  refine jE_o (fun P hP => ?_)
  unfold F_SG_turned
  simp (disch := omega) only [c_need1, kq_th, F_SG_turned_b16, ↓dK_64 hL, ↓dG_64 hL, ↓dP_64 hL, ↓reduceIte, ↓kq_bi, ↓kq_let, ↓kq_rz0, ↓kq_rz1, ↓kq_rzB, ↓Option.bind_some, kq_dvn, kt_lt, kf_lt, kt_eq, kf_eq, decide_true, decide_false, eq_self, Bool.false_eq_true, Bool.true_eq_false, not_true_eq_false, not_false_eq_true, jU_eq, jU_ne, jU_U, jV_eq, jV_ne, jV_V, kn_lit, kn_add, kn_mul, kn_sdm, kn_sub, kn_div, kn_nsdm, kn_lt, kn_eq, kn_pred, kn_m1, kn_m1', kn_a31, kn_shl, kn_shr, kn_bit, nB_0, nB_1, nB_t, nB_f, Nat.zero_add, Nat.add_zero, Nat.reduceAdd, Nat.reduceMul, Nat.reduceSub, Nat.reducePow]
  refine jW_bn (c_trial hL hQ) (fun J hJ => ?_)
  simp (disch := omega) only [↓dK_64 hL, ↓dG_64 hL, ↓dP_64 hL, ↓reduceIte, ↓kq_bi, ↓kq_let, ↓kq_rz0, ↓kq_rz1, ↓kq_rzB, ↓Option.bind_some, kq_dvn, kt_lt, kf_lt, kt_eq, kf_eq, decide_true, decide_false, eq_self, Bool.false_eq_true, Bool.true_eq_false, not_true_eq_false, not_false_eq_true, jU_eq, jU_ne, jU_U, jV_eq, jV_ne, jV_V, kn_lit, kn_add, kn_mul, kn_sdm, kn_sub, kn_div, kn_nsdm, kn_lt, kn_eq, kn_pred, kn_m1, kn_m1', kn_a31, kn_shl, kn_shr, kn_bit, nB_0, nB_1, nB_t, nB_f, Nat.zero_add, Nat.add_zero, Nat.reduceAdd, Nat.reduceMul, Nat.reduceSub, Nat.reducePow]
  refine jW_bn (c_passTrial hL hQ hJ hN) (fun J hJ => ?_)
  obtain ⟨hq, -⟩ := s_hrs_ok (ω := ω) ho hQ.2.2.1 hQ.2.2.2 N (by omega)
  have hQ2 := jQC_Sc hL hJ.1 hQ
  unfold s_trn at hP
  generalize hqq : s_hrs τ ω r N = q at hJ hq hP
  refine jW_for0 (f := fun fuel k (_ : Unit) => F_SG_turned_l32 fuel 64 (nI (s_bits (fun c => decide (q (123 + c) = 2 ∧ r (123 + c) = 0)) k)) (nI k) (jz_I h J)) (τ 0 2) (fun _ _ => True) () trivial (by omega) (fun n k _ hk hV ih => ?_) (fun n _ hV => ?_)
  · have hp := kn_pow (k := k) (by omega)
    have b1 := hq.2.2.2.1 k (by omega)
    have b2 := hQ.2.2.1.2.2.2.1 k (by omega)
    have ih' := ih () trivial
    rw [show s_bits (fun c => decide (q (123 + c) = 2 ∧ r (123 + c) = 0)) (k + 1) = s_bits (fun c => decide (q (123 + c) = 2 ∧ r (123 + c) = 0)) k ||| (if decide (q (123 + k) = 2 ∧ r (123 + k) = 0) = true then 2 ^ k else 0) from rfl] at ih'
    have hcm : ¬ r (123 + k) = 0 → q (123 + k) = r (123 + k) := fun h0 => by rw [← hqq]; exact (s_hrs_came ho hC hk h0 N).1
    show jW (F_SG_turned_c32 (F_SG_turned_l32 n) 64 (nI (s_bits (fun c => decide (q (123 + c) = 2 ∧ r (123 + c) = 0)) k)) (nI k) (jz_I h J)) P
    unfold F_SG_turned_c32
    by_cases h2 : q (123 + k) = 2
    · by_cases h0 : r (123 + k) = 0
      · rw [decide_eq_true ⟨h2, h0⟩, if_pos rfl] at ih'
        simp (disch := omega) only [↓dR_85_1 hL, cT_f4 hQ2.1.1, c_came hL (Or.inr rfl) hJ.2.1, c_came hL (Or.inl rfl) hQ2.2.1.1, h2, h0, F_SG_turned_b76, kn_or, Nat.one_mul, ↓dK_64 hL, ↓dG_64 hL, ↓dP_64 hL, ↓dR_64_2 hL, ↓dK_85 hL, ↓dG_85 hL, ↓dP_85 hL, ↓dZ_85 hL (x := nI 0) (Or.inl rfl), ↓dZ_85 hL (x := nI 1) (Or.inr rfl), ↓dZ_85 hL (Or.inl rfl), ↓dZ_85 hL (Or.inr rfl), ↓dZ_85 hL (nB_01 _), ↓dR_64_3 hL, ↓dR_95_0 hL, ↓dR_102_0 hL, ↓dR_105_0 hL, ↓dK_90 hL, ↓dG_90 hL, ↓dP_90 hL, ↓dZ_90 hL (x := nI 0) (Or.inl rfl), ↓dZ_90 hL (x := nI 1) (Or.inr rfl), ↓dZ_90 hL (Or.inl rfl), ↓dZ_90 hL (Or.inr rfl), ↓dZ_90 hL (nB_01 _), ↓dK_T hL ht, ↓dG_T hL ht, ↓dP_T hL ht, ↓reduceIte, ↓kq_bi, ↓kq_let, ↓kq_rz0, ↓kq_rz1, ↓kq_rzB, ↓Option.bind_some, kq_dvn, kt_lt, kf_lt, kt_eq, kf_eq, decide_true, decide_false, eq_self, Bool.false_eq_true, Bool.true_eq_false, not_true_eq_false, not_false_eq_true, jU_eq, jU_ne, jU_U, jV_eq, jV_ne, jV_V, kn_lit, kn_add, kn_mul, kn_sdm, kn_sub, kn_div, kn_nsdm, kn_lt, kn_eq, kn_pred, kn_m1, kn_m1', kn_a31, kn_shl, kn_shr, kn_bit, nB_0, nB_1, nB_t, nB_f, Nat.zero_add, Nat.add_zero, Nat.reduceAdd, Nat.reduceMul, Nat.reduceSub, Nat.reducePow]
        exact ih'
      · have h22 : r (123 + k) = 2 := by have := hcm h0; omega
        rw [decide_eq_false (by omega), if_neg (by decide), Nat.or_zero] at ih'
        simp (disch := omega) only [↓dR_85_1 hL, cT_f4 hQ2.1.1, c_came hL (Or.inr rfl) hJ.2.1, c_came hL (Or.inl rfl) hQ2.2.1.1, h2, h22, F_SG_turned_b76, kn_or, Nat.one_mul, ↓dK_64 hL, ↓dG_64 hL, ↓dP_64 hL, ↓dR_64_2 hL, ↓dK_85 hL, ↓dG_85 hL, ↓dP_85 hL, ↓dZ_85 hL (x := nI 0) (Or.inl rfl), ↓dZ_85 hL (x := nI 1) (Or.inr rfl), ↓dZ_85 hL (Or.inl rfl), ↓dZ_85 hL (Or.inr rfl), ↓dZ_85 hL (nB_01 _), ↓dR_64_3 hL, ↓dR_95_0 hL, ↓dR_102_0 hL, ↓dR_105_0 hL, ↓dK_90 hL, ↓dG_90 hL, ↓dP_90 hL, ↓dZ_90 hL (x := nI 0) (Or.inl rfl), ↓dZ_90 hL (x := nI 1) (Or.inr rfl), ↓dZ_90 hL (Or.inl rfl), ↓dZ_90 hL (Or.inr rfl), ↓dZ_90 hL (nB_01 _), ↓dK_T hL ht, ↓dG_T hL ht, ↓dP_T hL ht, ↓reduceIte, ↓kq_bi, ↓kq_let, ↓kq_rz0, ↓kq_rz1, ↓kq_rzB, ↓Option.bind_some, kq_dvn, kt_lt, kf_lt, kt_eq, kf_eq, decide_true, decide_false, eq_self, Bool.false_eq_true, Bool.true_eq_false, not_true_eq_false, not_false_eq_true, jU_eq, jU_ne, jU_U, jV_eq, jV_ne, jV_V, kn_lit, kn_add, kn_mul, kn_sdm, kn_sub, kn_div, kn_nsdm, kn_lt, kn_eq, kn_pred, kn_m1, kn_m1', kn_a31, kn_shl, kn_shr, kn_bit, nB_0, nB_1, nB_t, nB_f, Nat.zero_add, Nat.add_zero, Nat.reduceAdd, Nat.reduceMul, Nat.reduceSub, Nat.reducePow]
        exact ih'
    · rw [decide_eq_false (fun z => h2 z.1), if_neg (by decide), Nat.or_zero] at ih'
      simp (disch := omega) only [↓dR_85_1 hL, cT_f4 hQ2.1.1, c_came hL (Or.inr rfl) hJ.2.1, F_SG_turned_b76, ↓dK_64 hL, ↓dG_64 hL, ↓dP_64 hL, ↓dR_64_2 hL, ↓dK_85 hL, ↓dG_85 hL, ↓dP_85 hL, ↓dZ_85 hL (x := nI 0) (Or.inl rfl), ↓dZ_85 hL (x := nI 1) (Or.inr rfl), ↓dZ_85 hL (Or.inl rfl), ↓dZ_85 hL (Or.inr rfl), ↓dZ_85 hL (nB_01 _), ↓dR_64_3 hL, ↓dR_95_0 hL, ↓dR_102_0 hL, ↓dR_105_0 hL, ↓dK_90 hL, ↓dG_90 hL, ↓dP_90 hL, ↓dZ_90 hL (x := nI 0) (Or.inl rfl), ↓dZ_90 hL (x := nI 1) (Or.inr rfl), ↓dZ_90 hL (Or.inl rfl), ↓dZ_90 hL (Or.inr rfl), ↓dZ_90 hL (nB_01 _), ↓dK_T hL ht, ↓dG_T hL ht, ↓dP_T hL ht, ↓reduceIte, ↓kq_bi, ↓kq_let, ↓kq_rz0, ↓kq_rz1, ↓kq_rzB, ↓Option.bind_some, kq_dvn, kt_lt, kf_lt, kt_eq, kf_eq, decide_true, decide_false, eq_self, Bool.false_eq_true, Bool.true_eq_false, not_true_eq_false, not_false_eq_true, jU_eq, jU_ne, jU_U, jV_eq, jV_ne, jV_V, kn_lit, kn_add, kn_mul, kn_sdm, kn_sub, kn_div, kn_nsdm, kn_lt, kn_eq, kn_pred, kn_m1, kn_m1', kn_a31, kn_shl, kn_shr, kn_bit, nB_0, nB_1, nB_t, nB_f, Nat.zero_add, Nat.add_zero, Nat.reduceAdd, Nat.reduceMul, Nat.reduceSub, Nat.reducePow]
      exact ih'
  · show jW (F_SG_turned_c32 (F_SG_turned_l32 n) 64 (nI (s_bits (fun c => decide (q (123 + c) = 2 ∧ r (123 + c) = 0)) (τ 0 2))) (nI (τ 0 2)) (jz_I h J)) P
    unfold F_SG_turned_c32
    simp (disch := omega) only [↓dR_85_1 hL, cT_f4 hQ2.1.1, ↓dK_64 hL, ↓dG_64 hL, ↓dP_64 hL, ↓dR_64_2 hL, ↓dK_85 hL, ↓dG_85 hL, ↓dP_85 hL, ↓dZ_85 hL (x := nI 0) (Or.inl rfl), ↓dZ_85 hL (x := nI 1) (Or.inr rfl), ↓dZ_85 hL (Or.inl rfl), ↓dZ_85 hL (Or.inr rfl), ↓dZ_85 hL (nB_01 _), ↓dK_T hL ht, ↓dG_T hL ht, ↓dP_T hL ht, ↓reduceIte, ↓kq_bi, ↓kq_let, ↓kq_rz0, ↓kq_rz1, ↓kq_rzB, ↓Option.bind_some, kq_dvn, kt_lt, kf_lt, kt_eq, kf_eq, decide_true, decide_false, eq_self, Bool.false_eq_true, Bool.true_eq_false, not_true_eq_false, not_false_eq_true, jU_eq, jU_ne, jU_U, jV_eq, jV_ne, jV_V, kn_lit, kn_add, kn_mul, kn_sdm, kn_sub, kn_div, kn_nsdm, kn_lt, kn_eq, kn_pred, kn_m1, kn_m1', kn_a31, kn_shl, kn_shr, kn_bit, nB_0, nB_1, nB_t, nB_f, Nat.zero_add, Nat.add_zero, Nat.reduceAdd, Nat.reduceMul, Nat.reduceSub, Nat.reducePow]
    exact jW_s (hP J hJ.1)
theorem m_turned (hL : jLay t u l m b c h) (hQ : jQM I τ ω r) {N : Nat} (hN : N ≤ 96) : ∃ J, F_Mod_turned 205 (nI N) (jz_I h I) = some (nI (s_trn τ ω r N), jz_I h J) ∧ jN I J := by
  have ho := hQ.1.2.1
  have o2 : τ 0 2 ≤ 10 := ho.2.2.1
  refine jE_i (fun P hP => ?_)
  have N0 := jN_0 hQ
  unfold F_Mod_turned
  simp (disch := omega) only [m_bad0 hL N0.2.2.2, m_in1, F_Mod_turned_b21, ↓dK_205 hL, ↓dG_205 hL, ↓dP_205 hL, ↓dZ_205 hL (x := nI 0) (Or.inl rfl), ↓dZ_205 hL (x := nI 1) (Or.inr rfl), ↓dZ_205 hL (Or.inl rfl), ↓dZ_205 hL (Or.inr rfl), ↓dZ_205 hL (nB_01 _), ↓reduceIte, ↓kq_bi, ↓kq_let, ↓kq_rz0, ↓kq_rz1, ↓kq_rzB, ↓Option.bind_some, kq_dvn, kt_lt, kf_lt, kt_eq, kf_eq, decide_true, decide_false, eq_self, Bool.false_eq_true, Bool.true_eq_false, not_true_eq_false, not_false_eq_true, jU_eq, jU_ne, jU_U, jV_eq, jV_ne, jV_V, kn_lit, kn_add, kn_mul, kn_sdm, kn_sub, kn_div, kn_nsdm, kn_lt, kn_eq, kn_pred, kn_m1, kn_m1', kn_a31, kn_shl, kn_shr, kn_bit, nB_0, nB_1, nB_t, nB_f, Nat.zero_add, Nat.add_zero, Nat.reduceAdd, Nat.reduceMul, Nat.reduceSub, Nat.reducePow]
  refine jW_bn (m_trial hL hQ N0) (fun J hJ => ?_)
  refine jW_for0 (f := fun fuel k (J : Nat → Nat → Int32) => F_Mod_turned_l39 fuel 205 (nI N) (nI 0) (nI k) (jz_I h J)) N (fun k J => (jN I J ∧ jMR J 692 (s_hrs τ ω r k))) J hJ (by omega) (fun n k J hk hV ih => ?_) (fun n J hV => ?_)
  · obtain ⟨hq, -⟩ := s_hrs_ok (ω := ω) ho hQ.2.2.1 hQ.2.2.2 k (by omega)
    show jW (F_Mod_turned_c39 (F_Mod_turned_l39 n) 205 (nI N) (nI 0) (nI k) (jz_I h J)) P
    unfold F_Mod_turned_c39
    simp (disch := omega) only [↓dK_205 hL, ↓dG_205 hL, ↓dP_205 hL, ↓dZ_205 hL (x := nI 0) (Or.inl rfl), ↓dZ_205 hL (x := nI 1) (Or.inr rfl), ↓dZ_205 hL (Or.inl rfl), ↓dZ_205 hL (Or.inr rfl), ↓dZ_205 hL (nB_01 _), ↓dR_205_36 hL, dI_692 hL, dS_692 hL, ↓reduceIte, ↓kq_bi, ↓kq_let, ↓kq_rz0, ↓kq_rz1, ↓kq_rzB, ↓Option.bind_some, kq_dvn, kt_lt, kf_lt, kt_eq, kf_eq, decide_true, decide_false, eq_self, Bool.false_eq_true, Bool.true_eq_false, not_true_eq_false, not_false_eq_true, jU_eq, jU_ne, jU_U, jV_eq, jV_ne, jV_V, kn_lit, kn_add, kn_mul, kn_sdm, kn_sub, kn_div, kn_nsdm, kn_lt, kn_eq, kn_pred, kn_m1, kn_m1', kn_a31, kn_shl, kn_shr, kn_bit, nB_0, nB_1, nB_t, nB_f, Nat.zero_add, Nat.add_zero, Nat.reduceAdd, Nat.reduceMul, Nat.reduceSub, Nat.reducePow]
    exact jW_bn (m_hourT hL hQ hV.1 hV.2 hq) (fun J3 hJ3 => ih _ hJ3)
  · obtain ⟨hJ, hR⟩ := hV
    obtain ⟨hq, -⟩ := s_hrs_ok (ω := ω) ho hQ.2.2.1 hQ.2.2.2 N (by omega)
    have hQ2 := jN_QM hJ hQ
    unfold s_trn at hP
    generalize hqq : s_hrs τ ω r N = q at hR hq hP
    show jW (F_Mod_turned_c39 (F_Mod_turned_l39 n) 205 (nI N) (nI 0) (nI N) (jz_I h J)) P
    unfold F_Mod_turned_c39
    simp (disch := omega) only [↓dK_205 hL, ↓dG_205 hL, ↓dP_205 hL, ↓dZ_205 hL (x := nI 0) (Or.inl rfl), ↓dZ_205 hL (x := nI 1) (Or.inr rfl), ↓dZ_205 hL (Or.inl rfl), ↓dZ_205 hL (Or.inr rfl), ↓dZ_205 hL (nB_01 _), ↓reduceIte, ↓kq_bi, ↓kq_let, ↓kq_rz0, ↓kq_rz1, ↓kq_rzB, ↓Option.bind_some, kq_dvn, kt_lt, kf_lt, kt_eq, kf_eq, decide_true, decide_false, eq_self, Bool.false_eq_true, Bool.true_eq_false, not_true_eq_false, not_false_eq_true, jU_eq, jU_ne, jU_U, jV_eq, jV_ne, jV_V, kn_lit, kn_add, kn_mul, kn_sdm, kn_sub, kn_div, kn_nsdm, kn_lt, kn_eq, kn_pred, kn_m1, kn_m1', kn_a31, kn_shl, kn_shr, kn_bit, nB_0, nB_1, nB_t, nB_f, Nat.zero_add, Nat.add_zero, Nat.reduceAdd, Nat.reduceMul, Nat.reduceSub, Nat.reducePow]
    refine jW_for0 (f := fun fuel k (_ : Unit) => F_Mod_turned_l60 fuel 205 (nI (s_bits (fun c => decide (q (123 + c) = 2 ∧ r (123 + c) = 0)) k)) (nI k) (jz_I h J)) (τ 0 2) (fun _ _ => True) () trivial (by omega) (fun n k _ hk hV ih => ?_) (fun n _ hV => ?_)
    · have hp := kn_pow (k := k) (by omega)
      have b1 := hq.2.2.2.1 k (by omega)
      have b2 := hQ.2.2.1.2.2.2.1 k (by omega)
      have ih' := ih () trivial
      rw [show s_bits (fun c => decide (q (123 + c) = 2 ∧ r (123 + c) = 0)) (k + 1) = s_bits (fun c => decide (q (123 + c) = 2 ∧ r (123 + c) = 0)) k ||| (if decide (q (123 + k) = 2 ∧ r (123 + k) = 0) = true then 2 ^ k else 0) from rfl] at ih'
      show jW (F_Mod_turned_c60 (F_Mod_turned_l60 n) 205 (nI (s_bits (fun c => decide (q (123 + c) = 2 ∧ r (123 + c) = 0)) k)) (nI k) (jz_I h J)) P
      unfold F_Mod_turned_c60
      by_cases h2 : q (123 + k) = 2
      · by_cases h0 : r (123 + k) = 0
        · rw [decide_eq_true ⟨h2, h0⟩, if_pos rfl] at ih'
          simp (disch := omega) only [hQ2.1.1.1, jMR_at hR, jMR_at hQ2.2.1, h2, h0, F_Mod_turned_b103, F_Mod_turned_b102, kn_or, Nat.one_mul, ↓dK_205 hL, ↓dG_205 hL, ↓dP_205 hL, ↓dZ_205 hL (x := nI 0) (Or.inl rfl), ↓dZ_205 hL (x := nI 1) (Or.inr rfl), ↓dZ_205 hL (Or.inl rfl), ↓dZ_205 hL (Or.inr rfl), ↓dZ_205 hL (nB_01 _), ↓dR_205_12 hL, dI_209 hL, dS_209 hL, ↓dR_205_35 hL, dI_691 hL, dS_691 hL, ↓dR_205_36 hL, dI_692 hL, dS_692 hL, ↓reduceIte, ↓kq_bi, ↓kq_let, ↓kq_rz0, ↓kq_rz1, ↓kq_rzB, ↓Option.bind_some, kq_dvn, kt_lt, kf_lt, kt_eq, kf_eq, decide_true, decide_false, eq_self, Bool.false_eq_true, Bool.true_eq_false, not_true_eq_false, not_false_eq_true, jU_eq, jU_ne, jU_U, jV_eq, jV_ne, jV_V, kn_lit, kn_add, kn_mul, kn_sdm, kn_sub, kn_div, kn_nsdm, kn_lt, kn_eq, kn_pred, kn_m1, kn_m1', kn_a31, kn_shl, kn_shr, kn_bit, nB_0, nB_1, nB_t, nB_f, Nat.zero_add, Nat.add_zero, Nat.reduceAdd, Nat.reduceMul, Nat.reduceSub, Nat.reducePow]
          exact ih'
        · rw [decide_eq_false (fun z => h0 z.2), if_neg (by decide)] at ih'
          simp (disch := omega) only [hQ2.1.1.1, jMR_at hR, jMR_at hQ2.2.1, h2, F_Mod_turned_b103, F_Mod_turned_b102, kn_or, Nat.one_mul, ↓dK_205 hL, ↓dG_205 hL, ↓dP_205 hL, ↓dZ_205 hL (x := nI 0) (Or.inl rfl), ↓dZ_205 hL (x := nI 1) (Or.inr rfl), ↓dZ_205 hL (Or.inl rfl), ↓dZ_205 hL (Or.inr rfl), ↓dZ_205 hL (nB_01 _), ↓dR_205_12 hL, dI_209 hL, dS_209 hL, ↓dR_205_35 hL, dI_691 hL, dS_691 hL, ↓dR_205_36 hL, dI_692 hL, dS_692 hL, ↓reduceIte, ↓kq_bi, ↓kq_let, ↓kq_rz0, ↓kq_rz1, ↓kq_rzB, ↓Option.bind_some, kq_dvn, kt_lt, kf_lt, kt_eq, kf_eq, decide_true, decide_false, eq_self, Bool.false_eq_true, Bool.true_eq_false, not_true_eq_false, not_false_eq_true, jU_eq, jU_ne, jU_U, jV_eq, jV_ne, jV_V, kn_lit, kn_add, kn_mul, kn_sdm, kn_sub, kn_div, kn_nsdm, kn_lt, kn_eq, kn_pred, kn_m1, kn_m1', kn_a31, kn_shl, kn_shr, kn_bit, nB_0, nB_1, nB_t, nB_f, Nat.zero_add, Nat.add_zero, Nat.reduceAdd, Nat.reduceMul, Nat.reduceSub, Nat.reducePow]
          exact ih'
      · rw [decide_eq_false (fun z => h2 z.1), if_neg (by decide)] at ih'
        simp (disch := omega) only [hQ2.1.1.1, jMR_at hR, F_Mod_turned_b103, F_Mod_turned_b102, kn_or, Nat.one_mul, ↓dK_205 hL, ↓dG_205 hL, ↓dP_205 hL, ↓dZ_205 hL (x := nI 0) (Or.inl rfl), ↓dZ_205 hL (x := nI 1) (Or.inr rfl), ↓dZ_205 hL (Or.inl rfl), ↓dZ_205 hL (Or.inr rfl), ↓dZ_205 hL (nB_01 _), ↓dR_205_12 hL, dI_209 hL, dS_209 hL, ↓dR_205_35 hL, dI_691 hL, dS_691 hL, ↓dR_205_36 hL, dI_692 hL, dS_692 hL, ↓reduceIte, ↓kq_bi, ↓kq_let, ↓kq_rz0, ↓kq_rz1, ↓kq_rzB, ↓Option.bind_some, kq_dvn, kt_lt, kf_lt, kt_eq, kf_eq, decide_true, decide_false, eq_self, Bool.false_eq_true, Bool.true_eq_false, not_true_eq_false, not_false_eq_true, jU_eq, jU_ne, jU_U, jV_eq, jV_ne, jV_V, kn_lit, kn_add, kn_mul, kn_sdm, kn_sub, kn_div, kn_nsdm, kn_lt, kn_eq, kn_pred, kn_m1, kn_m1', kn_a31, kn_shl, kn_shr, kn_bit, nB_0, nB_1, nB_t, nB_f, Nat.zero_add, Nat.add_zero, Nat.reduceAdd, Nat.reduceMul, Nat.reduceSub, Nat.reducePow]
        exact ih'
    · show jW (F_Mod_turned_c60 (F_Mod_turned_l60 n) 205 (nI (s_bits (fun c => decide (q (123 + c) = 2 ∧ r (123 + c) = 0)) (τ 0 2))) (nI (τ 0 2)) (jz_I h J)) P
      unfold F_Mod_turned_c60
      simp (disch := omega) only [hQ2.1.1.1, ↓dK_205 hL, ↓dG_205 hL, ↓dP_205 hL, ↓dZ_205 hL (x := nI 0) (Or.inl rfl), ↓dZ_205 hL (x := nI 1) (Or.inr rfl), ↓dZ_205 hL (Or.inl rfl), ↓dZ_205 hL (Or.inr rfl), ↓dZ_205 hL (nB_01 _), ↓dR_205_12 hL, dI_209 hL, dS_209 hL, ↓reduceIte, ↓kq_bi, ↓kq_let, ↓kq_rz0, ↓kq_rz1, ↓kq_rzB, ↓Option.bind_some, kq_dvn, kt_lt, kf_lt, kt_eq, kf_eq, decide_true, decide_false, eq_self, Bool.false_eq_true, Bool.true_eq_false, not_true_eq_false, not_false_eq_true, jU_eq, jU_ne, jU_U, jV_eq, jV_ne, jV_V, kn_lit, kn_add, kn_mul, kn_sdm, kn_sub, kn_div, kn_nsdm, kn_lt, kn_eq, kn_pred, kn_m1, kn_m1', kn_a31, kn_shl, kn_shr, kn_bit, nB_0, nB_1, nB_t, nB_f, Nat.zero_add, Nat.add_zero, Nat.reduceAdd, Nat.reduceMul, Nat.reduceSub, Nat.reducePow]
      exact jW_s (hP J hJ)
theorem c_ahead (hL : jLay t u l m b c h) (hQ : jQC I t l τ ω r) {N w : Nat} (hN : N ≤ 96) (hw : w ≤ 2) : ∃ J, F_SG_ahead 64 (nI N) (nI w) (jz_I h I) = some (jo_i (nI (s_ahead τ ω r N w), jz_I h J)) ∧ jSc l 90 I J := by
  have ht := jLay_t hL
  have ho := hQ.1.2.1
  refine jE_o (fun P hP => ?_)
  unfold F_SG_ahead
  simp (disch := omega) only [c_need1, kq_th, F_SG_ahead_b25, ↓dK_64 hL, ↓dG_64 hL, ↓dP_64 hL, ↓reduceIte, ↓kq_bi, ↓kq_let, ↓kq_rz0, ↓kq_rz1, ↓kq_rzB, ↓Option.bind_some, kq_dvn, kt_lt, kf_lt, kt_eq, kf_eq, decide_true, decide_false, eq_self, Bool.false_eq_true, Bool.true_eq_false, not_true_eq_false, not_false_eq_true, jU_eq, jU_ne, jU_U, jV_eq, jV_ne, jV_V, kn_lit, kn_add, kn_mul, kn_sdm, kn_sub, kn_div, kn_nsdm, kn_lt, kn_eq, kn_pred, kn_m1, kn_m1', kn_a31, kn_shl, kn_shr, kn_bit, nB_0, nB_1, nB_t, nB_f, Nat.zero_add, Nat.add_zero, Nat.reduceAdd, Nat.reduceMul, Nat.reduceSub, Nat.reducePow]
  refine jW_bn (c_trial hL hQ) (fun J hJ => ?_)
  simp (disch := omega) only [↓dK_64 hL, ↓dG_64 hL, ↓dP_64 hL, ↓reduceIte, ↓kq_bi, ↓kq_let, ↓kq_rz0, ↓kq_rz1, ↓kq_rzB, ↓Option.bind_some, kq_dvn, kt_lt, kf_lt, kt_eq, kf_eq, decide_true, decide_false, eq_self, Bool.false_eq_true, Bool.true_eq_false, not_true_eq_false, not_false_eq_true, jU_eq, jU_ne, jU_U, jV_eq, jV_ne, jV_V, kn_lit, kn_add, kn_mul, kn_sdm, kn_sub, kn_div, kn_nsdm, kn_lt, kn_eq, kn_pred, kn_m1, kn_m1', kn_a31, kn_shl, kn_shr, kn_bit, nB_0, nB_1, nB_t, nB_f, Nat.zero_add, Nat.add_zero, Nat.reduceAdd, Nat.reduceMul, Nat.reduceSub, Nat.reducePow]
  refine jW_bn (c_passTrial hL hQ hJ hN) (fun J hJ => ?_)
  obtain ⟨hq, -⟩ := s_hrs_ok (ω := ω) ho hQ.2.2.1 hQ.2.2.2 N (by omega)
  have hQ2 := jQC_Sc hL hJ.1 hQ
  have go := hP J hJ.1
  unfold s_ahead at go
  generalize s_hrs τ ω r N = q at hJ hq go
  have : w = 0 ∨ w = 1 ∨ w = 2 := by omega
  rcases this with rfl | rfl | rfl
  · rw [if_neg (by decide)] at go
    simp (disch := omega) only [c_comersThat hL (Or.inr rfl) hQ2.1.1 ho hJ.2.1 hq, F_SG_ahead_b75, ↓dK_64 hL, ↓dG_64 hL, ↓dP_64 hL, ↓dR_64_3 hL, ↓dR_95_0 hL, ↓dR_102_0 hL, ↓dR_105_0 hL, ↓dK_90 hL, ↓dG_90 hL, ↓dP_90 hL, ↓dZ_90 hL (x := nI 0) (Or.inl rfl), ↓dZ_90 hL (x := nI 1) (Or.inr rfl), ↓dZ_90 hL (Or.inl rfl), ↓dZ_90 hL (Or.inr rfl), ↓dZ_90 hL (nB_01 _), ↓reduceIte, ↓kq_bi, ↓kq_let, ↓kq_rz0, ↓kq_rz1, ↓kq_rzB, ↓Option.bind_some, kq_dvn, kt_lt, kf_lt, kt_eq, kf_eq, decide_true, decide_false, eq_self, Bool.false_eq_true, Bool.true_eq_false, not_true_eq_false, not_false_eq_true, jU_eq, jU_ne, jU_U, jV_eq, jV_ne, jV_V, kn_lit, kn_add, kn_mul, kn_sdm, kn_sub, kn_div, kn_nsdm, kn_lt, kn_eq, kn_pred, kn_m1, kn_m1', kn_a31, kn_shl, kn_shr, kn_bit, nB_0, nB_1, nB_t, nB_f, Nat.zero_add, Nat.add_zero, Nat.reduceAdd, Nat.reduceMul, Nat.reduceSub, Nat.reducePow]
    exact jW_s go
  · rw [if_neg (by decide)] at go
    simp (disch := omega) only [c_comersThat hL (Or.inr rfl) hQ2.1.1 ho hJ.2.1 hq, F_SG_ahead_b75, ↓dK_64 hL, ↓dG_64 hL, ↓dP_64 hL, ↓dR_64_3 hL, ↓dR_95_0 hL, ↓dR_102_0 hL, ↓dR_105_0 hL, ↓dK_90 hL, ↓dG_90 hL, ↓dP_90 hL, ↓dZ_90 hL (x := nI 0) (Or.inl rfl), ↓dZ_90 hL (x := nI 1) (Or.inr rfl), ↓dZ_90 hL (Or.inl rfl), ↓dZ_90 hL (Or.inr rfl), ↓dZ_90 hL (nB_01 _), ↓reduceIte, ↓kq_bi, ↓kq_let, ↓kq_rz0, ↓kq_rz1, ↓kq_rzB, ↓Option.bind_some, kq_dvn, kt_lt, kf_lt, kt_eq, kf_eq, decide_true, decide_false, eq_self, Bool.false_eq_true, Bool.true_eq_false, not_true_eq_false, not_false_eq_true, jU_eq, jU_ne, jU_U, jV_eq, jV_ne, jV_V, kn_lit, kn_add, kn_mul, kn_sdm, kn_sub, kn_div, kn_nsdm, kn_lt, kn_eq, kn_pred, kn_m1, kn_m1', kn_a31, kn_shl, kn_shr, kn_bit, nB_0, nB_1, nB_t, nB_f, Nat.zero_add, Nat.add_zero, Nat.reduceAdd, Nat.reduceMul, Nat.reduceSub, Nat.reducePow]
    exact jW_s go
  · rw [if_pos rfl] at go
    simp (disch := omega) only [c_allStored hL (Or.inr rfl) hQ2.1.1 ho hJ.2.1 hq, F_SG_ahead_b75, ↓dK_64 hL, ↓dG_64 hL, ↓dP_64 hL, ↓dR_64_3 hL, ↓dR_95_0 hL, ↓dR_102_0 hL, ↓dR_105_0 hL, ↓dK_90 hL, ↓dG_90 hL, ↓dP_90 hL, ↓dZ_90 hL (x := nI 0) (Or.inl rfl), ↓dZ_90 hL (x := nI 1) (Or.inr rfl), ↓dZ_90 hL (Or.inl rfl), ↓dZ_90 hL (Or.inr rfl), ↓dZ_90 hL (nB_01 _), ↓reduceIte, ↓kq_bi, ↓kq_let, ↓kq_rz0, ↓kq_rz1, ↓kq_rzB, ↓Option.bind_some, kq_dvn, kt_lt, kf_lt, kt_eq, kf_eq, decide_true, decide_false, eq_self, Bool.false_eq_true, Bool.true_eq_false, not_true_eq_false, not_false_eq_true, jU_eq, jU_ne, jU_U, jV_eq, jV_ne, jV_V, kn_lit, kn_add, kn_mul, kn_sdm, kn_sub, kn_div, kn_nsdm, kn_lt, kn_eq, kn_pred, kn_m1, kn_m1', kn_a31, kn_shl, kn_shr, kn_bit, nB_0, nB_1, nB_t, nB_f, Nat.zero_add, Nat.add_zero, Nat.reduceAdd, Nat.reduceMul, Nat.reduceSub, Nat.reducePow]
    exact jW_s go
theorem m_ahead (hL : jLay t u l m b c h) (hQ : jQM I τ ω r) {N w : Nat} (hN : N ≤ 96) (hw : w ≤ 2) : ∃ J, F_Mod_ahead 205 (nI N) (nI w) (jz_I h I) = some (nI (s_ahead τ ω r N w), jz_I h J) ∧ jN I J := by
  have ho := hQ.1.2.1
  refine jE_i (fun P hP => ?_)
  have N0 := jN_0 hQ
  unfold F_Mod_ahead
  simp (disch := omega) only [m_bad0 hL N0.2.2.2, m_in1, F_Mod_ahead_b30, ↓dK_205 hL, ↓dG_205 hL, ↓dP_205 hL, ↓dZ_205 hL (x := nI 0) (Or.inl rfl), ↓dZ_205 hL (x := nI 1) (Or.inr rfl), ↓dZ_205 hL (Or.inl rfl), ↓dZ_205 hL (Or.inr rfl), ↓dZ_205 hL (nB_01 _), ↓reduceIte, ↓kq_bi, ↓kq_let, ↓kq_rz0, ↓kq_rz1, ↓kq_rzB, ↓Option.bind_some, kq_dvn, kt_lt, kf_lt, kt_eq, kf_eq, decide_true, decide_false, eq_self, Bool.false_eq_true, Bool.true_eq_false, not_true_eq_false, not_false_eq_true, jU_eq, jU_ne, jU_U, jV_eq, jV_ne, jV_V, kn_lit, kn_add, kn_mul, kn_sdm, kn_sub, kn_div, kn_nsdm, kn_lt, kn_eq, kn_pred, kn_m1, kn_m1', kn_a31, kn_shl, kn_shr, kn_bit, nB_0, nB_1, nB_t, nB_f, Nat.zero_add, Nat.add_zero, Nat.reduceAdd, Nat.reduceMul, Nat.reduceSub, Nat.reducePow]
  refine jW_bn (m_trial hL hQ N0) (fun J hJ => ?_)
  refine jW_for0 (f := fun fuel k (J : Nat → Nat → Int32) => F_Mod_ahead_l46 fuel 205 (nI N) (nI w) (nI k) (jz_I h J)) N (fun k J => (jN I J ∧ jMR J 692 (s_hrs τ ω r k))) J hJ (by omega) (fun n k J hk hV ih => ?_) (fun n J hV => ?_)
  · obtain ⟨hq, -⟩ := s_hrs_ok (ω := ω) ho hQ.2.2.1 hQ.2.2.2 k (by omega)
    show jW (F_Mod_ahead_c46 (F_Mod_ahead_l46 n) 205 (nI N) (nI w) (nI k) (jz_I h J)) P
    unfold F_Mod_ahead_c46
    simp (disch := omega) only [↓dK_205 hL, ↓dG_205 hL, ↓dP_205 hL, ↓dZ_205 hL (x := nI 0) (Or.inl rfl), ↓dZ_205 hL (x := nI 1) (Or.inr rfl), ↓dZ_205 hL (Or.inl rfl), ↓dZ_205 hL (Or.inr rfl), ↓dZ_205 hL (nB_01 _), ↓dR_205_36 hL, dI_692 hL, dS_692 hL, ↓reduceIte, ↓kq_bi, ↓kq_let, ↓kq_rz0, ↓kq_rz1, ↓kq_rzB, ↓Option.bind_some, kq_dvn, kt_lt, kf_lt, kt_eq, kf_eq, decide_true, decide_false, eq_self, Bool.false_eq_true, Bool.true_eq_false, not_true_eq_false, not_false_eq_true, jU_eq, jU_ne, jU_U, jV_eq, jV_ne, jV_V, kn_lit, kn_add, kn_mul, kn_sdm, kn_sub, kn_div, kn_nsdm, kn_lt, kn_eq, kn_pred, kn_m1, kn_m1', kn_a31, kn_shl, kn_shr, kn_bit, nB_0, nB_1, nB_t, nB_f, Nat.zero_add, Nat.add_zero, Nat.reduceAdd, Nat.reduceMul, Nat.reduceSub, Nat.reducePow]
    exact jW_bn (m_hourT hL hQ hV.1 hV.2 hq) (fun J3 hJ3 => ih _ hJ3)
  · obtain ⟨hJ, hR⟩ := hV
    obtain ⟨hq, -⟩ := s_hrs_ok (ω := ω) ho hQ.2.2.1 hQ.2.2.2 N (by omega)
    have hQ2 := jN_QM hJ hQ
    have go := hP J hJ
    unfold s_ahead at go
    generalize s_hrs τ ω r N = q at hR hq go
    show jW (F_Mod_ahead_c46 (F_Mod_ahead_l46 n) 205 (nI N) (nI w) (nI N) (jz_I h J)) P
    unfold F_Mod_ahead_c46
    by_cases h2 : w = 2
    · subst h2
      rw [if_pos rfl] at go
      simp (disch := omega) only [m_storedIn hL hQ2.1.1 ho (Or.inr rfl) hR hq, F_Mod_ahead_b92, ↓dK_205 hL, ↓dG_205 hL, ↓dP_205 hL, ↓dZ_205 hL (x := nI 0) (Or.inl rfl), ↓dZ_205 hL (x := nI 1) (Or.inr rfl), ↓dZ_205 hL (Or.inl rfl), ↓dZ_205 hL (Or.inr rfl), ↓dZ_205 hL (nB_01 _), ↓dR_205_36 hL, dI_692 hL, dS_692 hL, ↓reduceIte, ↓kq_bi, ↓kq_let, ↓kq_rz0, ↓kq_rz1, ↓kq_rzB, ↓Option.bind_some, kq_dvn, kt_lt, kf_lt, kt_eq, kf_eq, decide_true, decide_false, eq_self, Bool.false_eq_true, Bool.true_eq_false, not_true_eq_false, not_false_eq_true, jU_eq, jU_ne, jU_U, jV_eq, jV_ne, jV_V, kn_lit, kn_add, kn_mul, kn_sdm, kn_sub, kn_div, kn_nsdm, kn_lt, kn_eq, kn_pred, kn_m1, kn_m1', kn_a31, kn_shl, kn_shr, kn_bit, nB_0, nB_1, nB_t, nB_f, Nat.zero_add, Nat.add_zero, Nat.reduceAdd, Nat.reduceMul, Nat.reduceSub, Nat.reducePow]
      exact jW_s go
    · rw [if_neg h2] at go
      simp (disch := omega) only [m_cameIn hL hQ2.1.1 ho (Or.inr rfl) hR hq, F_Mod_ahead_b92, ↓dK_205 hL, ↓dG_205 hL, ↓dP_205 hL, ↓dZ_205 hL (x := nI 0) (Or.inl rfl), ↓dZ_205 hL (x := nI 1) (Or.inr rfl), ↓dZ_205 hL (Or.inl rfl), ↓dZ_205 hL (Or.inr rfl), ↓dZ_205 hL (nB_01 _), ↓dR_205_36 hL, dI_692 hL, dS_692 hL, ↓reduceIte, ↓kq_bi, ↓kq_let, ↓kq_rz0, ↓kq_rz1, ↓kq_rzB, ↓Option.bind_some, kq_dvn, kt_lt, kf_lt, kt_eq, kf_eq, decide_true, decide_false, eq_self, Bool.false_eq_true, Bool.true_eq_false, not_true_eq_false, not_false_eq_true, jU_eq, jU_ne, jU_U, jV_eq, jV_ne, jV_V, kn_lit, kn_add, kn_mul, kn_sdm, kn_sub, kn_div, kn_nsdm, kn_lt, kn_eq, kn_pred, kn_m1, kn_m1', kn_a31, kn_shl, kn_shr, kn_bit, nB_0, nB_1, nB_t, nB_f, Nat.zero_add, Nat.add_zero, Nat.reduceAdd, Nat.reduceMul, Nat.reduceSub, Nat.reducePow]
      exact jW_s go
end

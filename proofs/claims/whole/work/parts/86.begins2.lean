/-! PLAIN LEAN, 52: the class begins: the scene; a call is refused -/
section
variable {t u l m b c σ : Nat} {h : LH} {I J K : Nat → Nat → Int32} {τ : JTn} {n k : Nat} {x : Int32}
theorem c_begin (hL : jLay t u l m b c h) (hσ : σ = 85 ∨ σ = 90) (hO : jTOK τ) (hC : jCT J t τ) : ∃ K, F_Scene_begin σ (jz_I h J) = some (jz_I h K) ∧ jCS K σ τ false (s_r0 τ) ∧ K σ 4 = nI 0 ∧ (∀ f, ¬ f = 3 → ¬ f = 4 → K σ f = J σ f) ∧ ∀ d, ¬ d = σ → ¬ d = σ + 1 → K d = J d := by
  have ht := jLay_t hL
  have hts : ∀ i, i < 13 → ¬ t + i = σ ∧ ¬ t + i = σ + 1 := fun i hi => by omega
  have d1 : τ 0 1 ≤ 6 := hO.2.1
  refine jE_n (fun P hP => ?_)
  unfold F_Scene_begin
  refine jW_for0 (A := Nat → Nat → Int32) (f := fun fuel w s => F_Scene_begin_l2 fuel σ (nI w) (jz_I h s)) 134 (fun w s => (∀ i, i < w → s (σ + 1) i = nI 0) ∧ ∀ d, ¬ d = σ + 1 → s d = J d) J ⟨fun i hi => absurd hi (Nat.not_lt_zero i), fun _ _ => rfl⟩ (by omega) (fun F w s hw hV ih => ?_) (fun F s hV => ?_)
  · show jW (F_Scene_begin_c2 (F_Scene_begin_l2 F) σ (nI w) (jz_I h s)) P
    unfold F_Scene_begin_c2
    simp (disch := omega) only [↓dK_S hL hσ, ↓dG_S hL hσ, ↓dP_S hL hσ, ↓dZ_S hL hσ (x := nI 0) (Or.inl rfl), ↓dZ_S hL hσ (x := nI 1) (Or.inr rfl), ↓dZ_S hL hσ (Or.inl rfl), ↓dZ_S hL hσ (Or.inr rfl), ↓dZ_S hL hσ (nB_01 _), ↓dR_S_1 hL hσ, ↓dR_S_2 hL hσ, ↓dR_S_0 hL hσ, dI_S1 hL hσ, dS_S1 hL hσ, ↓reduceIte, ↓kq_bi, ↓kq_let, ↓kq_rz0, ↓kq_rz1, ↓kq_rzB, ↓Option.bind_some, kq_dvn, kt_lt, kf_lt, kt_eq, kf_eq, decide_true, decide_false, eq_self, Bool.false_eq_true, Bool.true_eq_false, not_true_eq_false, not_false_eq_true, jU_eq, jU_ne, jU_U, jV_eq, jV_ne, jV_V, kn_lit, kn_add, kn_mul, kn_sdm, kn_sub, kn_div, kn_nsdm, kn_lt, kn_eq, kn_pred, kn_m1, kn_m1', kn_a31, kn_shl, kn_shr, kn_bit, nB_0, nB_1, nB_t, nB_f, Nat.zero_add, Nat.add_zero, Nat.reduceAdd, Nat.reduceMul, Nat.reduceSub, Nat.reducePow]
    refine ih _ ⟨fun i hi => ?_, fun a ha => by rw [jU_ne ha]; exact hV.2 a ha⟩
    rw [jU_eq]
    by_cases z : i = w
    · rw [z, jV_eq]
    · rw [jV_ne z]; exact hV.1 i (by omega)
  · show jW (F_Scene_begin_c2 (F_Scene_begin_l2 F) σ (nI 134) (jz_I h s)) P
    unfold F_Scene_begin_c2
    simp (disch := omega) only [↓dK_S hL hσ, ↓dG_S hL hσ, ↓dP_S hL hσ, ↓dZ_S hL hσ (x := nI 0) (Or.inl rfl), ↓dZ_S hL hσ (x := nI 1) (Or.inr rfl), ↓dZ_S hL hσ (Or.inl rfl), ↓dZ_S hL hσ (Or.inr rfl), ↓dZ_S hL hσ (nB_01 _), ↓dR_S_1 hL hσ, ↓dR_S_2 hL hσ, ↓dR_S_0 hL hσ, dI_S1 hL hσ, dS_S1 hL hσ, ↓reduceIte, ↓kq_bi, ↓kq_let, ↓kq_rz0, ↓kq_rz1, ↓kq_rzB, ↓Option.bind_some, kq_dvn, kt_lt, kf_lt, kt_eq, kf_eq, decide_true, decide_false, eq_self, Bool.false_eq_true, Bool.true_eq_false, not_true_eq_false, not_false_eq_true, jU_eq, jU_ne, jU_U, jV_eq, jV_ne, jV_V, kn_lit, kn_add, kn_mul, kn_sdm, kn_sub, kn_div, kn_nsdm, kn_lt, kn_eq, kn_pred, kn_m1, kn_m1', kn_a31, kn_shl, kn_shr, kn_bit, nB_0, nB_1, nB_t, nB_f, Nat.zero_add, Nat.add_zero, Nat.reduceAdd, Nat.reduceMul, Nat.reduceSub, Nat.reducePow]
    have t0 : ¬ t = σ + 1 := (hts 0 (by omega)).2
    refine jW_for0 (A := Nat → Nat → Int32) (f := fun fuel w s' => F_Scene_begin_l24 fuel σ (nI w) (jz_I h s')) (τ 0 1) (fun w s' => (∀ k, k < 134 → s' (σ + 1) k = if 1 ≤ k ∧ k < 1 + w then nI (τ 5 (k - 1)) else nI 0) ∧ ∀ d, ¬ d = σ + 1 → s' d = J d) s ⟨fun k hk => by rw [if_neg (by omega)]; exact hV.1 k hk, hV.2⟩ (by omega) (fun G w s' hw hW ih => ?_) (fun G s' hW => ?_)
    · have e : s' t 1 = nI (τ 0 1) := by rw [hW.2 t t0]; exact hC.2.1
      have e5 : s' (t + 5) w = nI (τ 5 w) := by rw [hW.2 (t + 5) (hts 5 (by omega)).2]; exact hC.2.2.2.2.2.2.2.2.2.2.1 w hw
      show jW (F_Scene_begin_c24 (F_Scene_begin_l24 G) σ (nI w) (jz_I h s')) P
      unfold F_Scene_begin_c24
      simp (disch := omega) only [e, e5, ↓dK_S hL hσ, ↓dG_S hL hσ, ↓dP_S hL hσ, ↓dZ_S hL hσ (x := nI 0) (Or.inl rfl), ↓dZ_S hL hσ (x := nI 1) (Or.inr rfl), ↓dZ_S hL hσ (Or.inl rfl), ↓dZ_S hL hσ (Or.inr rfl), ↓dZ_S hL hσ (nB_01 _), ↓dR_S_1 hL hσ, ↓dR_S_2 hL hσ, ↓dR_S_0 hL hσ, dI_S1 hL hσ, dS_S1 hL hσ, ↓dK_T hL ht, ↓dG_T hL ht, ↓dP_T hL ht, ↓dR_T_10 hL ht, dI_T5 hL ht, dS_T5 hL ht, ↓reduceIte, ↓kq_bi, ↓kq_let, ↓kq_rz0, ↓kq_rz1, ↓kq_rzB, ↓Option.bind_some, kq_dvn, kt_lt, kf_lt, kt_eq, kf_eq, decide_true, decide_false, eq_self, Bool.false_eq_true, Bool.true_eq_false, not_true_eq_false, not_false_eq_true, jU_eq, jU_ne, jU_U, jV_eq, jV_ne, jV_V, kn_lit, kn_add, kn_mul, kn_sdm, kn_sub, kn_div, kn_nsdm, kn_lt, kn_eq, kn_pred, kn_m1, kn_m1', kn_a31, kn_shl, kn_shr, kn_bit, nB_0, nB_1, nB_t, nB_f, Nat.zero_add, Nat.add_zero, Nat.reduceAdd, Nat.reduceMul, Nat.reduceSub, Nat.reducePow]
      refine ih _ ⟨fun k hk => ?_, fun a ha => by rw [jU_ne ha]; exact hW.2 a ha⟩
      rw [jU_eq]
      by_cases z : k = 1 + w
      · rw [z, jV_eq, if_pos (by omega), show 1 + w - 1 = w by omega]
      · rw [jV_ne z, hW.1 k hk]
        by_cases z2 : 1 ≤ k ∧ k < 1 + w
        · rw [if_pos z2, if_pos (by omega)]
        · rw [if_neg z2, if_neg (by omega)]
    · have e : s' t 1 = nI (τ 0 1) := by rw [hW.2 t t0]; exact hC.2.1
      show jW (F_Scene_begin_c24 (F_Scene_begin_l24 G) σ (nI (τ 0 1)) (jz_I h s')) P
      unfold F_Scene_begin_c24
      simp (disch := omega) only [e, ↓dK_S hL hσ, ↓dG_S hL hσ, ↓dP_S hL hσ, ↓dZ_S hL hσ (x := nI 0) (Or.inl rfl), ↓dZ_S hL hσ (x := nI 1) (Or.inr rfl), ↓dZ_S hL hσ (Or.inl rfl), ↓dZ_S hL hσ (Or.inr rfl), ↓dZ_S hL hσ (nB_01 _), ↓dR_S_1 hL hσ, ↓dR_S_2 hL hσ, ↓dR_S_0 hL hσ, dI_S1 hL hσ, dS_S1 hL hσ, ↓dK_T hL ht, ↓dG_T hL ht, ↓dP_T hL ht, ↓reduceIte, ↓kq_bi, ↓kq_let, ↓kq_rz0, ↓kq_rz1, ↓kq_rzB, ↓Option.bind_some, kq_dvn, kt_lt, kf_lt, kt_eq, kf_eq, decide_true, decide_false, eq_self, Bool.false_eq_true, Bool.true_eq_false, not_true_eq_false, not_false_eq_true, jU_eq, jU_ne, jU_U, jV_eq, jV_ne, jV_V, kn_lit, kn_add, kn_mul, kn_sdm, kn_sub, kn_div, kn_nsdm, kn_lt, kn_eq, kn_pred, kn_m1, kn_m1', kn_a31, kn_shl, kn_shr, kn_bit, nB_0, nB_1, nB_t, nB_f, Nat.zero_add, Nat.add_zero, Nat.reduceAdd, Nat.reduceMul, Nat.reduceSub, Nat.reducePow]
      have w1 := hW.1
      have r0 : ∀ k, ¬ (117 ≤ k ∧ k < 117 + τ 0 1) → s_r0 τ k = 0 := fun k hk => if_neg hk
      refine jW_s (hP _ ⟨⟨⟨?_, fun w hw => ?_, fun c hc => ?_, fun g hg => ?_, fun g k hg hk => ?_⟩, ?_, Or.inl ?_⟩, ?_, fun f a1 a2 => ?_, fun d a1 a2 => by rw [jU_ne a1]; exact hW.2 d a2⟩)
      · rw [jU_ne (by omega), w1 0 (by omega), if_neg (by omega), r0 133 (by omega)]
      · rw [jU_ne (by omega), w1 (1 + w) (by omega)]
        unfold s_r0
        by_cases z : w < τ 0 1
        · rw [if_pos (by omega), if_pos (by omega), show 1 + w - 1 = w by omega, show 117 + w - 117 = w by omega]
        · rw [if_neg (by omega), if_neg (by omega)]
      · rw [jU_ne (by omega), w1 (7 + c) (by omega), if_neg (by omega), r0 (123 + c) (by omega)]
      · rw [jU_ne (by omega), w1 (17 + g) (by omega), if_neg (by omega), r0 (108 + g) (by omega)]
      · rw [r0 (108 + g) (by omega)] at hk
        exact absurd hk (Nat.not_lt_zero k)
      · simp (disch := omega) only [jU_eq, jV_ne, jV_eq]; rfl
      · simp (disch := omega) only [jU_eq, jV_ne, jV_eq]
      · simp (disch := omega) only [jU_eq, jV_ne, jV_eq]
      · simp (disch := omega) only [jU_eq, jV_ne]
        rw [hW.2 σ (by omega)]
theorem s_r0_ok (hO : jTOK τ) : jROK τ (s_r0 τ) := by
  have d1 : τ 0 1 ≤ 6 := hO.2.1
  have r0 : ∀ k, ¬ (117 ≤ k ∧ k < 117 + τ 0 1) → s_r0 τ k = 0 := fun k hk => if_neg hk
  unfold jROK
  refine ⟨fun g hg => by rw [r0 _ (by omega)]; omega, fun g k hg hk => ?_, fun w hw => ?_, fun c hc => by rw [r0 _ (by omega)]; omega, ?_⟩
  · rw [r0 _ (by omega)] at hk
    exact absurd hk (Nat.not_lt_zero k)
  · unfold s_r0
    split
    · have := (hO.2.2.2.2.2.2.2.1 w (by omega)).2.2.2.2.2
      rw [show 117 + w - 117 = w by omega]
      omega
    · omega
  · intro k hk
    by_cases z : 117 ≤ k ∧ k < 117 + τ 0 1
    · have := (hO.2.2.2.2.2.2.2.1 (k - 117) (by omega)).2.2.2.2.2
      rw [show s_r0 τ k = τ 5 (k - 117) from if_pos z]
      omega
    · rw [r0 k z]; omega
theorem m_bad1 (hL : jLay t u l m b c h) (h0 : J 205 0 = nI 0) {f i q : Nat} (hf : 1 ≤ f) (hf3 : f ≤ 3) (hi : i < 2) (hq : J 207 i = nI q) (hq9 : q < 100000) : ∃ K, F_Mod_bad 205 (nI 1) (nI f) (nI i) (jz_I h J) = some (nB true, jz_I h K) ∧ K 205 0 = nI f ∧ K 207 = jV (J 207) i (nI (q + 1)) ∧ (∀ k, ¬ k = 0 → K 205 k = J 205 k) ∧ ∀ d, ¬ d = 205 → ¬ d = 207 → K d = J d := by
  refine jE_i (fun P hP => ?_)
  unfold F_Mod_bad
  simp (disch := omega) only [h0, hq, F_Mod_bad_b26, F_Mod_bad_b38, ↓dK_205 hL, ↓dG_205 hL, ↓dP_205 hL, ↓dZ_205 hL (x := nI 0) (Or.inl rfl), ↓dZ_205 hL (x := nI 1) (Or.inr rfl), ↓dZ_205 hL (Or.inl rfl), ↓dZ_205 hL (Or.inr rfl), ↓dZ_205 hL (nB_01 _), ↓dR_205_10 hL, dI_207 hL, dS_207 hL, ↓reduceIte, ↓kq_bi, ↓kq_let, ↓kq_rz0, ↓kq_rz1, ↓kq_rzB, ↓Option.bind_some, kq_dvn, kt_lt, kf_lt, kt_eq, kf_eq, decide_true, decide_false, eq_self, Bool.false_eq_true, Bool.true_eq_false, not_true_eq_false, not_false_eq_true, jU_eq, jU_ne, jU_U, jV_eq, jV_ne, jV_V, kn_lit, kn_add, kn_mul, kn_sdm, kn_sub, kn_div, kn_nsdm, kn_lt, kn_eq, kn_pred, kn_m1, kn_m1', kn_a31, kn_shl, kn_shr, kn_bit, nB_0, nB_1, nB_t, nB_f, Nat.zero_add, Nat.add_zero, Nat.reduceAdd, Nat.reduceMul, Nat.reduceSub, Nat.reducePow]
  refine jW_s (hP _ ⟨?_, ?_, fun k hk => ?_, fun d a1 a2 => ?_⟩)
  · simp (disch := omega) only [jU_eq, jU_ne, jV_eq]
  · simp (disch := omega) only [jU_eq, jU_ne]
  · simp (disch := omega) only [jU_eq, jU_ne, jV_ne]
  · simp (disch := omega) only [jU_ne]
end

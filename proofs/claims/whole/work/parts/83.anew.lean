/-! PLAIN LEAN, 49: towns; the reference takes a town over -/
section
variable {t u l m b c : Nat} {h : LH} {I J K : Nat → Nat → Int32} {δ : JTn} {n j k : Nat} {x : Int32} {q : Nat}
theorem m_lays_216 (hL : jLay t u l m b c h) (hq : q ≤ 6) : ∃ K, F_Mod_lays 216 223 (nI q) (jz_I h J) = some (jz_I h K) ∧ (∀ w i, w < q → i < 4 → K (224 + w) i = J (217 + w) i) ∧ ∀ a, ¬ (224 ≤ a ∧ a < 230) → K a = J a := by
  refine jE_n (fun P hP => ?_)
  unfold F_Mod_lays
  refine jW_for0 (A := Nat → Nat → Int32) (f := fun fuel w s => F_Mod_lays_l2 fuel 216 223 (nI q) (nI w) (jz_I h s)) q (fun w s => (∀ w' i, w' < w → i < 4 → s (224 + w') i = J (217 + w') i) ∧ ∀ a, ¬ (224 ≤ a ∧ a < 230) → s a = J a) J ⟨fun w' _ hw _ => absurd hw (Nat.not_lt_zero w'), fun _ _ => rfl⟩ (by omega) (fun F w s hw hV ih => ?_) (fun F s hV => ?_)
  · show jW (F_Mod_lays_c2 (F_Mod_lays_l2 F) 216 223 (nI q) (nI w) (jz_I h s)) P
    unfold F_Mod_lays_c2
    simp (disch := omega) only [↓reduceIte, ↓kq_bi, ↓kq_let, ↓kq_rz0, ↓kq_rz1, ↓kq_rzB, ↓Option.bind_some, kq_dvn, kt_lt, kf_lt, kt_eq, kf_eq, decide_true, decide_false, eq_self, Bool.false_eq_true, Bool.true_eq_false, not_true_eq_false, not_false_eq_true, jU_eq, jU_ne, jU_U, jV_eq, jV_ne, jV_V, kn_lit, kn_add, kn_mul, kn_sdm, kn_sub, kn_div, kn_nsdm, kn_lt, kn_eq, kn_pred, kn_m1, kn_m1', kn_a31, kn_shl, kn_shr, kn_bit, nB_0, nB_1, nB_t, nB_f, Nat.zero_add, Nat.add_zero, Nat.reduceAdd, Nat.reduceMul, Nat.reduceSub, Nat.reducePow]
    refine jW_for0 (A := Nat → Nat → Int32) (f := fun fuel i s' => F_Mod_lays_l10 (F_Mod_lays_l2 F) fuel 216 223 (nI q) (nI w) (nI i) (jz_I h s')) 4 (fun i s' => (∀ i', i' < i → s' (224 + w) i' = J (217 + w) i') ∧ ∀ a, ¬ a = 224 + w → s' a = s a) s ⟨fun i' hi => absurd hi (Nat.not_lt_zero i'), fun _ _ => rfl⟩ (by omega) (fun G i s' hi hW ih2 => ?_) (fun G s' hW => ?_)
    · show jW (F_Mod_lays_c10 (F_Mod_lays_l2 F) (F_Mod_lays_l10 (F_Mod_lays_l2 F) G) 216 223 (nI q) (nI w) (nI i) (jz_I h s')) P
      unfold F_Mod_lays_c10
      simp (disch := omega) only [dL_224 hL, ↓dR_205_19 hL, dA_216 hL, dI_217 hL, dS_217 hL, ↓dR_205_20 hL, dA_223 hL, dI_224 hL, dS_224 hL, ↓reduceIte, ↓kq_bi, ↓kq_let, ↓kq_rz0, ↓kq_rz1, ↓kq_rzB, ↓Option.bind_some, kq_dvn, kt_lt, kf_lt, kt_eq, kf_eq, decide_true, decide_false, eq_self, Bool.false_eq_true, Bool.true_eq_false, not_true_eq_false, not_false_eq_true, jU_eq, jU_ne, jU_U, jV_eq, jV_ne, jV_V, kn_lit, kn_add, kn_mul, kn_sdm, kn_sub, kn_div, kn_nsdm, kn_lt, kn_eq, kn_pred, kn_m1, kn_m1', kn_a31, kn_shl, kn_shr, kn_bit, nB_0, nB_1, nB_t, nB_f, Nat.zero_add, Nat.add_zero, Nat.reduceAdd, Nat.reduceMul, Nat.reduceSub, Nat.reducePow]
      refine ih2 _ ⟨fun i' hi' => ?_, fun a ha => by rw [jU_ne ha]; exact hW.2 a ha⟩
      rw [jU_eq]
      by_cases z : i' = i
      · rw [z, jV_eq, hW.2 (217 + w) (by omega), hV.2 (217 + w) (by omega)]
      · rw [jV_ne z]; exact hW.1 i' (by omega)
    · show jW (F_Mod_lays_c10 (F_Mod_lays_l2 F) (F_Mod_lays_l10 (F_Mod_lays_l2 F) G) 216 223 (nI q) (nI w) (nI 4) (jz_I h s')) P
      unfold F_Mod_lays_c10
      simp (disch := omega) only [dL_224 hL, ↓dR_205_19 hL, dA_216 hL, dI_217 hL, dS_217 hL, ↓dR_205_20 hL, dA_223 hL, dI_224 hL, dS_224 hL, ↓reduceIte, ↓kq_bi, ↓kq_let, ↓kq_rz0, ↓kq_rz1, ↓kq_rzB, ↓Option.bind_some, kq_dvn, kt_lt, kf_lt, kt_eq, kf_eq, decide_true, decide_false, eq_self, Bool.false_eq_true, Bool.true_eq_false, not_true_eq_false, not_false_eq_true, jU_eq, jU_ne, jU_U, jV_eq, jV_ne, jV_V, kn_lit, kn_add, kn_mul, kn_sdm, kn_sub, kn_div, kn_nsdm, kn_lt, kn_eq, kn_pred, kn_m1, kn_m1', kn_a31, kn_shl, kn_shr, kn_bit, nB_0, nB_1, nB_t, nB_f, Nat.zero_add, Nat.add_zero, Nat.reduceAdd, Nat.reduceMul, Nat.reduceSub, Nat.reducePow]
      refine ih s' ⟨fun w' i h1 h2 => ?_, fun a ha => by rw [hW.2 a (by omega)]; exact hV.2 a ha⟩
      by_cases z : w' = w
      · rw [z]; exact hW.1 i h2
      · rw [hW.2 (224 + w') (by omega)]; exact hV.1 w' i (by omega) h2
  · show jW (F_Mod_lays_c2 (F_Mod_lays_l2 F) 216 223 (nI q) (nI q) (jz_I h s)) P
    unfold F_Mod_lays_c2
    simp (disch := omega) only [↓reduceIte, ↓kq_bi, ↓kq_let, ↓kq_rz0, ↓kq_rz1, ↓kq_rzB, ↓Option.bind_some, kq_dvn, kt_lt, kf_lt, kt_eq, kf_eq, decide_true, decide_false, eq_self, Bool.false_eq_true, Bool.true_eq_false, not_true_eq_false, not_false_eq_true, jU_eq, jU_ne, jU_U, jV_eq, jV_ne, jV_V, kn_lit, kn_add, kn_mul, kn_sdm, kn_sub, kn_div, kn_nsdm, kn_lt, kn_eq, kn_pred, kn_m1, kn_m1', kn_a31, kn_shl, kn_shr, kn_bit, nB_0, nB_1, nB_t, nB_f, Nat.zero_add, Nat.add_zero, Nat.reduceAdd, Nat.reduceMul, Nat.reduceSub, Nat.reducePow]
    exact jW_s (hP s hV)
theorem m_lays_230 (hL : jLay t u l m b c h) (hq : q ≤ 10) : ∃ K, F_Mod_lays 230 241 (nI q) (jz_I h J) = some (jz_I h K) ∧ (∀ w i, w < q → i < 3 → K (242 + w) i = J (231 + w) i) ∧ ∀ a, ¬ (242 ≤ a ∧ a < 252) → K a = J a := by
  refine jE_n (fun P hP => ?_)
  unfold F_Mod_lays
  refine jW_for0 (A := Nat → Nat → Int32) (f := fun fuel w s => F_Mod_lays_l2 fuel 230 241 (nI q) (nI w) (jz_I h s)) q (fun w s => (∀ w' i, w' < w → i < 3 → s (242 + w') i = J (231 + w') i) ∧ ∀ a, ¬ (242 ≤ a ∧ a < 252) → s a = J a) J ⟨fun w' _ hw _ => absurd hw (Nat.not_lt_zero w'), fun _ _ => rfl⟩ (by omega) (fun F w s hw hV ih => ?_) (fun F s hV => ?_)
  · show jW (F_Mod_lays_c2 (F_Mod_lays_l2 F) 230 241 (nI q) (nI w) (jz_I h s)) P
    unfold F_Mod_lays_c2
    simp (disch := omega) only [↓reduceIte, ↓kq_bi, ↓kq_let, ↓kq_rz0, ↓kq_rz1, ↓kq_rzB, ↓Option.bind_some, kq_dvn, kt_lt, kf_lt, kt_eq, kf_eq, decide_true, decide_false, eq_self, Bool.false_eq_true, Bool.true_eq_false, not_true_eq_false, not_false_eq_true, jU_eq, jU_ne, jU_U, jV_eq, jV_ne, jV_V, kn_lit, kn_add, kn_mul, kn_sdm, kn_sub, kn_div, kn_nsdm, kn_lt, kn_eq, kn_pred, kn_m1, kn_m1', kn_a31, kn_shl, kn_shr, kn_bit, nB_0, nB_1, nB_t, nB_f, Nat.zero_add, Nat.add_zero, Nat.reduceAdd, Nat.reduceMul, Nat.reduceSub, Nat.reducePow]
    refine jW_for0 (A := Nat → Nat → Int32) (f := fun fuel i s' => F_Mod_lays_l10 (F_Mod_lays_l2 F) fuel 230 241 (nI q) (nI w) (nI i) (jz_I h s')) 3 (fun i s' => (∀ i', i' < i → s' (242 + w) i' = J (231 + w) i') ∧ ∀ a, ¬ a = 242 + w → s' a = s a) s ⟨fun i' hi => absurd hi (Nat.not_lt_zero i'), fun _ _ => rfl⟩ (by omega) (fun G i s' hi hW ih2 => ?_) (fun G s' hW => ?_)
    · show jW (F_Mod_lays_c10 (F_Mod_lays_l2 F) (F_Mod_lays_l10 (F_Mod_lays_l2 F) G) 230 241 (nI q) (nI w) (nI i) (jz_I h s')) P
      unfold F_Mod_lays_c10
      simp (disch := omega) only [dL_242 hL, ↓dR_205_21 hL, dA_230 hL, dI_231 hL, dS_231 hL, ↓dR_205_22 hL, dA_241 hL, dI_242 hL, dS_242 hL, ↓reduceIte, ↓kq_bi, ↓kq_let, ↓kq_rz0, ↓kq_rz1, ↓kq_rzB, ↓Option.bind_some, kq_dvn, kt_lt, kf_lt, kt_eq, kf_eq, decide_true, decide_false, eq_self, Bool.false_eq_true, Bool.true_eq_false, not_true_eq_false, not_false_eq_true, jU_eq, jU_ne, jU_U, jV_eq, jV_ne, jV_V, kn_lit, kn_add, kn_mul, kn_sdm, kn_sub, kn_div, kn_nsdm, kn_lt, kn_eq, kn_pred, kn_m1, kn_m1', kn_a31, kn_shl, kn_shr, kn_bit, nB_0, nB_1, nB_t, nB_f, Nat.zero_add, Nat.add_zero, Nat.reduceAdd, Nat.reduceMul, Nat.reduceSub, Nat.reducePow]
      refine ih2 _ ⟨fun i' hi' => ?_, fun a ha => by rw [jU_ne ha]; exact hW.2 a ha⟩
      rw [jU_eq]
      by_cases z : i' = i
      · rw [z, jV_eq, hW.2 (231 + w) (by omega), hV.2 (231 + w) (by omega)]
      · rw [jV_ne z]; exact hW.1 i' (by omega)
    · show jW (F_Mod_lays_c10 (F_Mod_lays_l2 F) (F_Mod_lays_l10 (F_Mod_lays_l2 F) G) 230 241 (nI q) (nI w) (nI 3) (jz_I h s')) P
      unfold F_Mod_lays_c10
      simp (disch := omega) only [dL_242 hL, ↓dR_205_21 hL, dA_230 hL, dI_231 hL, dS_231 hL, ↓dR_205_22 hL, dA_241 hL, dI_242 hL, dS_242 hL, ↓reduceIte, ↓kq_bi, ↓kq_let, ↓kq_rz0, ↓kq_rz1, ↓kq_rzB, ↓Option.bind_some, kq_dvn, kt_lt, kf_lt, kt_eq, kf_eq, decide_true, decide_false, eq_self, Bool.false_eq_true, Bool.true_eq_false, not_true_eq_false, not_false_eq_true, jU_eq, jU_ne, jU_U, jV_eq, jV_ne, jV_V, kn_lit, kn_add, kn_mul, kn_sdm, kn_sub, kn_div, kn_nsdm, kn_lt, kn_eq, kn_pred, kn_m1, kn_m1', kn_a31, kn_shl, kn_shr, kn_bit, nB_0, nB_1, nB_t, nB_f, Nat.zero_add, Nat.add_zero, Nat.reduceAdd, Nat.reduceMul, Nat.reduceSub, Nat.reducePow]
      refine ih s' ⟨fun w' i h1 h2 => ?_, fun a ha => by rw [hW.2 a (by omega)]; exact hV.2 a ha⟩
      by_cases z : w' = w
      · rw [z]; exact hW.1 i h2
      · rw [hW.2 (242 + w') (by omega)]; exact hV.1 w' i (by omega) h2
  · show jW (F_Mod_lays_c2 (F_Mod_lays_l2 F) 230 241 (nI q) (nI q) (jz_I h s)) P
    unfold F_Mod_lays_c2
    simp (disch := omega) only [↓reduceIte, ↓kq_bi, ↓kq_let, ↓kq_rz0, ↓kq_rz1, ↓kq_rzB, ↓Option.bind_some, kq_dvn, kt_lt, kf_lt, kt_eq, kf_eq, decide_true, decide_false, eq_self, Bool.false_eq_true, Bool.true_eq_false, not_true_eq_false, not_false_eq_true, jU_eq, jU_ne, jU_U, jV_eq, jV_ne, jV_V, kn_lit, kn_add, kn_mul, kn_sdm, kn_sub, kn_div, kn_nsdm, kn_lt, kn_eq, kn_pred, kn_m1, kn_m1', kn_a31, kn_shl, kn_shr, kn_bit, nB_0, nB_1, nB_t, nB_f, Nat.zero_add, Nat.add_zero, Nat.reduceAdd, Nat.reduceMul, Nat.reduceSub, Nat.reducePow]
    exact jW_s (hP s hV)
theorem m_lays_252 (hL : jLay t u l m b c h) (hq : q ≤ 6) : ∃ K, F_Mod_lays 252 259 (nI q) (jz_I h J) = some (jz_I h K) ∧ (∀ w i, w < q → i < 2 → K (260 + w) i = J (253 + w) i) ∧ ∀ a, ¬ (260 ≤ a ∧ a < 266) → K a = J a := by
  refine jE_n (fun P hP => ?_)
  unfold F_Mod_lays
  refine jW_for0 (A := Nat → Nat → Int32) (f := fun fuel w s => F_Mod_lays_l2 fuel 252 259 (nI q) (nI w) (jz_I h s)) q (fun w s => (∀ w' i, w' < w → i < 2 → s (260 + w') i = J (253 + w') i) ∧ ∀ a, ¬ (260 ≤ a ∧ a < 266) → s a = J a) J ⟨fun w' _ hw _ => absurd hw (Nat.not_lt_zero w'), fun _ _ => rfl⟩ (by omega) (fun F w s hw hV ih => ?_) (fun F s hV => ?_)
  · show jW (F_Mod_lays_c2 (F_Mod_lays_l2 F) 252 259 (nI q) (nI w) (jz_I h s)) P
    unfold F_Mod_lays_c2
    simp (disch := omega) only [↓reduceIte, ↓kq_bi, ↓kq_let, ↓kq_rz0, ↓kq_rz1, ↓kq_rzB, ↓Option.bind_some, kq_dvn, kt_lt, kf_lt, kt_eq, kf_eq, decide_true, decide_false, eq_self, Bool.false_eq_true, Bool.true_eq_false, not_true_eq_false, not_false_eq_true, jU_eq, jU_ne, jU_U, jV_eq, jV_ne, jV_V, kn_lit, kn_add, kn_mul, kn_sdm, kn_sub, kn_div, kn_nsdm, kn_lt, kn_eq, kn_pred, kn_m1, kn_m1', kn_a31, kn_shl, kn_shr, kn_bit, nB_0, nB_1, nB_t, nB_f, Nat.zero_add, Nat.add_zero, Nat.reduceAdd, Nat.reduceMul, Nat.reduceSub, Nat.reducePow]
    refine jW_for0 (A := Nat → Nat → Int32) (f := fun fuel i s' => F_Mod_lays_l10 (F_Mod_lays_l2 F) fuel 252 259 (nI q) (nI w) (nI i) (jz_I h s')) 2 (fun i s' => (∀ i', i' < i → s' (260 + w) i' = J (253 + w) i') ∧ ∀ a, ¬ a = 260 + w → s' a = s a) s ⟨fun i' hi => absurd hi (Nat.not_lt_zero i'), fun _ _ => rfl⟩ (by omega) (fun G i s' hi hW ih2 => ?_) (fun G s' hW => ?_)
    · show jW (F_Mod_lays_c10 (F_Mod_lays_l2 F) (F_Mod_lays_l10 (F_Mod_lays_l2 F) G) 252 259 (nI q) (nI w) (nI i) (jz_I h s')) P
      unfold F_Mod_lays_c10
      simp (disch := omega) only [dL_260 hL, ↓dR_205_23 hL, dA_252 hL, dI_253 hL, dS_253 hL, ↓dR_205_24 hL, dA_259 hL, dI_260 hL, dS_260 hL, ↓reduceIte, ↓kq_bi, ↓kq_let, ↓kq_rz0, ↓kq_rz1, ↓kq_rzB, ↓Option.bind_some, kq_dvn, kt_lt, kf_lt, kt_eq, kf_eq, decide_true, decide_false, eq_self, Bool.false_eq_true, Bool.true_eq_false, not_true_eq_false, not_false_eq_true, jU_eq, jU_ne, jU_U, jV_eq, jV_ne, jV_V, kn_lit, kn_add, kn_mul, kn_sdm, kn_sub, kn_div, kn_nsdm, kn_lt, kn_eq, kn_pred, kn_m1, kn_m1', kn_a31, kn_shl, kn_shr, kn_bit, nB_0, nB_1, nB_t, nB_f, Nat.zero_add, Nat.add_zero, Nat.reduceAdd, Nat.reduceMul, Nat.reduceSub, Nat.reducePow]
      refine ih2 _ ⟨fun i' hi' => ?_, fun a ha => by rw [jU_ne ha]; exact hW.2 a ha⟩
      rw [jU_eq]
      by_cases z : i' = i
      · rw [z, jV_eq, hW.2 (253 + w) (by omega), hV.2 (253 + w) (by omega)]
      · rw [jV_ne z]; exact hW.1 i' (by omega)
    · show jW (F_Mod_lays_c10 (F_Mod_lays_l2 F) (F_Mod_lays_l10 (F_Mod_lays_l2 F) G) 252 259 (nI q) (nI w) (nI 2) (jz_I h s')) P
      unfold F_Mod_lays_c10
      simp (disch := omega) only [dL_260 hL, ↓dR_205_23 hL, dA_252 hL, dI_253 hL, dS_253 hL, ↓dR_205_24 hL, dA_259 hL, dI_260 hL, dS_260 hL, ↓reduceIte, ↓kq_bi, ↓kq_let, ↓kq_rz0, ↓kq_rz1, ↓kq_rzB, ↓Option.bind_some, kq_dvn, kt_lt, kf_lt, kt_eq, kf_eq, decide_true, decide_false, eq_self, Bool.false_eq_true, Bool.true_eq_false, not_true_eq_false, not_false_eq_true, jU_eq, jU_ne, jU_U, jV_eq, jV_ne, jV_V, kn_lit, kn_add, kn_mul, kn_sdm, kn_sub, kn_div, kn_nsdm, kn_lt, kn_eq, kn_pred, kn_m1, kn_m1', kn_a31, kn_shl, kn_shr, kn_bit, nB_0, nB_1, nB_t, nB_f, Nat.zero_add, Nat.add_zero, Nat.reduceAdd, Nat.reduceMul, Nat.reduceSub, Nat.reducePow]
      refine ih s' ⟨fun w' i h1 h2 => ?_, fun a ha => by rw [hW.2 a (by omega)]; exact hV.2 a ha⟩
      by_cases z : w' = w
      · rw [z]; exact hW.1 i h2
      · rw [hW.2 (260 + w') (by omega)]; exact hV.1 w' i (by omega) h2
  · show jW (F_Mod_lays_c2 (F_Mod_lays_l2 F) 252 259 (nI q) (nI q) (jz_I h s)) P
    unfold F_Mod_lays_c2
    simp (disch := omega) only [↓reduceIte, ↓kq_bi, ↓kq_let, ↓kq_rz0, ↓kq_rz1, ↓kq_rzB, ↓Option.bind_some, kq_dvn, kt_lt, kf_lt, kt_eq, kf_eq, decide_true, decide_false, eq_self, Bool.false_eq_true, Bool.true_eq_false, not_true_eq_false, not_false_eq_true, jU_eq, jU_ne, jU_U, jV_eq, jV_ne, jV_V, kn_lit, kn_add, kn_mul, kn_sdm, kn_sub, kn_div, kn_nsdm, kn_lt, kn_eq, kn_pred, kn_m1, kn_m1', kn_a31, kn_shl, kn_shr, kn_bit, nB_0, nB_1, nB_t, nB_f, Nat.zero_add, Nat.add_zero, Nat.reduceAdd, Nat.reduceMul, Nat.reduceSub, Nat.reducePow]
    exact jW_s (hP s hV)
theorem m_ba28 (hL : jLay t u l m b c h) (hq : q ≤ 9) (e : J 209 0 = nI q) {P : LH → Prop} (hP : ∀ K, (∀ i, i < q → K 211 i = J 210 i) ∧ (∀ a, ¬ a = 211 → K a = J a) → jW (F_Mod_beginsAnew_l58 jF 205 (nI 0) (jz_I h K)) P) : jW (F_Mod_beginsAnew_l28 jF 205 (nI 0) (jz_I h J)) P := by
  refine jW_for0 (A := Nat → Nat → Int32) (f := fun fuel w s => F_Mod_beginsAnew_l28 fuel 205 (nI w) (jz_I h s)) q (fun w s => (∀ i, i < w → s 211 i = J 210 i) ∧ ∀ a, ¬ a = 211 → s a = J a) J ⟨fun i hi => absurd hi (Nat.not_lt_zero i), fun _ _ => rfl⟩ (by omega) (fun F w s hw hV ih => ?_) (fun F s hV => ?_)
  · have e : s 209 0 = nI q := by rw [hV.2 209 (by omega)]; exact e
    show jW (F_Mod_beginsAnew_c28 (F_Mod_beginsAnew_l28 F) 205 (nI w) (jz_I h s)) P
    unfold F_Mod_beginsAnew_c28
    simp (disch := omega) only [e, ↓dK_205 hL, ↓dG_205 hL, ↓dP_205 hL, ↓dZ_205 hL (x := nI 0) (Or.inl rfl), ↓dZ_205 hL (x := nI 1) (Or.inr rfl), ↓dZ_205 hL (Or.inl rfl), ↓dZ_205 hL (Or.inr rfl), ↓dZ_205 hL (nB_01 _), ↓dR_205_12 hL, dI_209 hL, dS_209 hL, ↓dR_205_13 hL, dI_210 hL, dS_210 hL, ↓dR_205_14 hL, dI_211 hL, dS_211 hL, ↓reduceIte, ↓kq_bi, ↓kq_let, ↓kq_rz0, ↓kq_rz1, ↓kq_rzB, ↓Option.bind_some, kq_dvn, kt_lt, kf_lt, kt_eq, kf_eq, decide_true, decide_false, eq_self, Bool.false_eq_true, Bool.true_eq_false, not_true_eq_false, not_false_eq_true, jU_eq, jU_ne, jU_U, jV_eq, jV_ne, jV_V, kn_lit, kn_add, kn_mul, kn_sdm, kn_sub, kn_div, kn_nsdm, kn_lt, kn_eq, kn_pred, kn_m1, kn_m1', kn_a31, kn_shl, kn_shr, kn_bit, nB_0, nB_1, nB_t, nB_f, Nat.zero_add, Nat.add_zero, Nat.reduceAdd, Nat.reduceMul, Nat.reduceSub, Nat.reducePow]
    refine ih _ ⟨fun i hi => ?_, fun a ha => by rw [jU_ne ha]; exact hV.2 a ha⟩
    rw [jU_eq]
    by_cases z : i = w
    · rw [z, jV_eq, hV.2 210 (by omega)]
    · rw [jV_ne z]; exact hV.1 i (by omega)
  · have e : s 209 0 = nI q := by rw [hV.2 209 (by omega)]; exact e
    show jW (F_Mod_beginsAnew_c28 (F_Mod_beginsAnew_l28 F) 205 (nI q) (jz_I h s)) P
    unfold F_Mod_beginsAnew_c28
    simp (disch := omega) only [e, ↓dK_205 hL, ↓dG_205 hL, ↓dP_205 hL, ↓dZ_205 hL (x := nI 0) (Or.inl rfl), ↓dZ_205 hL (x := nI 1) (Or.inr rfl), ↓dZ_205 hL (Or.inl rfl), ↓dZ_205 hL (Or.inr rfl), ↓dZ_205 hL (nB_01 _), ↓dR_205_12 hL, dI_209 hL, dS_209 hL, ↓reduceIte, ↓kq_bi, ↓kq_let, ↓kq_rz0, ↓kq_rz1, ↓kq_rzB, ↓Option.bind_some, kq_dvn, kt_lt, kf_lt, kt_eq, kf_eq, decide_true, decide_false, eq_self, Bool.false_eq_true, Bool.true_eq_false, not_true_eq_false, not_false_eq_true, jU_eq, jU_ne, jU_U, jV_eq, jV_ne, jV_V, kn_lit, kn_add, kn_mul, kn_sdm, kn_sub, kn_div, kn_nsdm, kn_lt, kn_eq, kn_pred, kn_m1, kn_m1', kn_a31, kn_shl, kn_shr, kn_bit, nB_0, nB_1, nB_t, nB_f, Nat.zero_add, Nat.add_zero, Nat.reduceAdd, Nat.reduceMul, Nat.reduceSub, Nat.reducePow]
    exact hP s hV
theorem m_ba58 (hL : jLay t u l m b c h) (hq : q ≤ 8) (e : J 209 3 = nI q) {P : LH → Prop} (hP : ∀ K, (∀ i, i < q → K 215 i = J 214 i) ∧ (∀ a, ¬ a = 215 → K a = J a) → jW (F_Mod_beginsAnew_l88 jF 205 (nI 0) (jz_I h K)) P) : jW (F_Mod_beginsAnew_l58 jF 205 (nI 0) (jz_I h J)) P := by
  refine jW_for0 (A := Nat → Nat → Int32) (f := fun fuel w s => F_Mod_beginsAnew_l58 fuel 205 (nI w) (jz_I h s)) q (fun w s => (∀ i, i < w → s 215 i = J 214 i) ∧ ∀ a, ¬ a = 215 → s a = J a) J ⟨fun i hi => absurd hi (Nat.not_lt_zero i), fun _ _ => rfl⟩ (by omega) (fun F w s hw hV ih => ?_) (fun F s hV => ?_)
  · have e : s 209 3 = nI q := by rw [hV.2 209 (by omega)]; exact e
    show jW (F_Mod_beginsAnew_c58 (F_Mod_beginsAnew_l58 F) 205 (nI w) (jz_I h s)) P
    unfold F_Mod_beginsAnew_c58
    simp (disch := omega) only [e, ↓dK_205 hL, ↓dG_205 hL, ↓dP_205 hL, ↓dZ_205 hL (x := nI 0) (Or.inl rfl), ↓dZ_205 hL (x := nI 1) (Or.inr rfl), ↓dZ_205 hL (Or.inl rfl), ↓dZ_205 hL (Or.inr rfl), ↓dZ_205 hL (nB_01 _), ↓dR_205_12 hL, dI_209 hL, dS_209 hL, ↓dR_205_17 hL, dI_214 hL, dS_214 hL, ↓dR_205_18 hL, dI_215 hL, dS_215 hL, ↓reduceIte, ↓kq_bi, ↓kq_let, ↓kq_rz0, ↓kq_rz1, ↓kq_rzB, ↓Option.bind_some, kq_dvn, kt_lt, kf_lt, kt_eq, kf_eq, decide_true, decide_false, eq_self, Bool.false_eq_true, Bool.true_eq_false, not_true_eq_false, not_false_eq_true, jU_eq, jU_ne, jU_U, jV_eq, jV_ne, jV_V, kn_lit, kn_add, kn_mul, kn_sdm, kn_sub, kn_div, kn_nsdm, kn_lt, kn_eq, kn_pred, kn_m1, kn_m1', kn_a31, kn_shl, kn_shr, kn_bit, nB_0, nB_1, nB_t, nB_f, Nat.zero_add, Nat.add_zero, Nat.reduceAdd, Nat.reduceMul, Nat.reduceSub, Nat.reducePow]
    refine ih _ ⟨fun i hi => ?_, fun a ha => by rw [jU_ne ha]; exact hV.2 a ha⟩
    rw [jU_eq]
    by_cases z : i = w
    · rw [z, jV_eq, hV.2 214 (by omega)]
    · rw [jV_ne z]; exact hV.1 i (by omega)
  · have e : s 209 3 = nI q := by rw [hV.2 209 (by omega)]; exact e
    show jW (F_Mod_beginsAnew_c58 (F_Mod_beginsAnew_l58 F) 205 (nI q) (jz_I h s)) P
    unfold F_Mod_beginsAnew_c58
    simp (disch := omega) only [e, ↓dK_205 hL, ↓dG_205 hL, ↓dP_205 hL, ↓dZ_205 hL (x := nI 0) (Or.inl rfl), ↓dZ_205 hL (x := nI 1) (Or.inr rfl), ↓dZ_205 hL (Or.inl rfl), ↓dZ_205 hL (Or.inr rfl), ↓dZ_205 hL (nB_01 _), ↓dR_205_12 hL, dI_209 hL, dS_209 hL, ↓reduceIte, ↓kq_bi, ↓kq_let, ↓kq_rz0, ↓kq_rz1, ↓kq_rzB, ↓Option.bind_some, kq_dvn, kt_lt, kf_lt, kt_eq, kf_eq, decide_true, decide_false, eq_self, Bool.false_eq_true, Bool.true_eq_false, not_true_eq_false, not_false_eq_true, jU_eq, jU_ne, jU_U, jV_eq, jV_ne, jV_V, kn_lit, kn_add, kn_mul, kn_sdm, kn_sub, kn_div, kn_nsdm, kn_lt, kn_eq, kn_pred, kn_m1, kn_m1', kn_a31, kn_shl, kn_shr, kn_bit, nB_0, nB_1, nB_t, nB_f, Nat.zero_add, Nat.add_zero, Nat.reduceAdd, Nat.reduceMul, Nat.reduceSub, Nat.reducePow]
    exact hP s hV
theorem m_ba88 (hL : jLay t u l m b c h) (hq : q ≤ 24) (e : J 209 4 = nI q) {q1 q2 q5 : Nat} (h1 : q1 ≤ 6) (e1 : J 209 1 = nI q1) (h2 : q2 ≤ 10) (e2 : J 209 2 = nI q2) (h5 : q5 ≤ 6) (e5 : J 209 5 = nI q5) {P : LH → Prop} (hP : ∀ K, (∀ i, i < q → K 213 i = J 212 i) ∧ (∀ w i, w < q1 → i < 4 → K (224 + w) i = J (217 + w) i) ∧ (∀ w i, w < q2 → i < 3 → K (242 + w) i = J (231 + w) i) ∧ (∀ w i, w < q5 → i < 2 → K (260 + w) i = J (253 + w) i) ∧ (∀ a, ¬ a = 213 → ¬ (224 ≤ a ∧ a < 230) → ¬ (242 ≤ a ∧ a < 252) → ¬ (260 ≤ a ∧ a < 266) → K a = J a) → jW (F_Mod_beginsAnew_l169 jF 205 (nI 0) (jz_I h K)) P) : jW (F_Mod_beginsAnew_l88 jF 205 (nI 0) (jz_I h J)) P := by
  refine jW_for0 (A := Nat → Nat → Int32) (f := fun fuel w s => F_Mod_beginsAnew_l88 fuel 205 (nI w) (jz_I h s)) q (fun w s => (∀ i, i < w → s 213 i = J 212 i) ∧ ∀ a, ¬ a = 213 → s a = J a) J ⟨fun i hi => absurd hi (Nat.not_lt_zero i), fun _ _ => rfl⟩ (by omega) (fun F w s hw hV ih => ?_) (fun F s hV => ?_)
  · have e : s 209 4 = nI q := by rw [hV.2 209 (by omega)]; exact e
    show jW (F_Mod_beginsAnew_c88 (F_Mod_beginsAnew_l88 F) 205 (nI w) (jz_I h s)) P
    unfold F_Mod_beginsAnew_c88
    simp (disch := omega) only [e, ↓dK_205 hL, ↓dG_205 hL, ↓dP_205 hL, ↓dZ_205 hL (x := nI 0) (Or.inl rfl), ↓dZ_205 hL (x := nI 1) (Or.inr rfl), ↓dZ_205 hL (Or.inl rfl), ↓dZ_205 hL (Or.inr rfl), ↓dZ_205 hL (nB_01 _), ↓dR_205_12 hL, dI_209 hL, dS_209 hL, ↓dR_205_15 hL, dI_212 hL, dS_212 hL, ↓dR_205_16 hL, dI_213 hL, dS_213 hL, ↓reduceIte, ↓kq_bi, ↓kq_let, ↓kq_rz0, ↓kq_rz1, ↓kq_rzB, ↓Option.bind_some, kq_dvn, kt_lt, kf_lt, kt_eq, kf_eq, decide_true, decide_false, eq_self, Bool.false_eq_true, Bool.true_eq_false, not_true_eq_false, not_false_eq_true, jU_eq, jU_ne, jU_U, jV_eq, jV_ne, jV_V, kn_lit, kn_add, kn_mul, kn_sdm, kn_sub, kn_div, kn_nsdm, kn_lt, kn_eq, kn_pred, kn_m1, kn_m1', kn_a31, kn_shl, kn_shr, kn_bit, nB_0, nB_1, nB_t, nB_f, Nat.zero_add, Nat.add_zero, Nat.reduceAdd, Nat.reduceMul, Nat.reduceSub, Nat.reducePow]
    refine ih _ ⟨fun i hi => ?_, fun a ha => by rw [jU_ne ha]; exact hV.2 a ha⟩
    rw [jU_eq]
    by_cases z : i = w
    · rw [z, jV_eq, hV.2 212 (by omega)]
    · rw [jV_ne z]; exact hV.1 i (by omega)
  · have e : s 209 4 = nI q := by rw [hV.2 209 (by omega)]; exact e
    have e1 : s 209 1 = nI q1 := by rw [hV.2 209 (by omega)]; exact e1
    show jW (F_Mod_beginsAnew_c88 (F_Mod_beginsAnew_l88 F) 205 (nI q) (jz_I h s)) P
    unfold F_Mod_beginsAnew_c88
    simp (disch := omega) only [e, e1, ↓dK_205 hL, ↓dG_205 hL, ↓dP_205 hL, ↓dZ_205 hL (x := nI 0) (Or.inl rfl), ↓dZ_205 hL (x := nI 1) (Or.inr rfl), ↓dZ_205 hL (Or.inl rfl), ↓dZ_205 hL (Or.inr rfl), ↓dZ_205 hL (nB_01 _), ↓dR_205_12 hL, dI_209 hL, dS_209 hL, ↓dR_205_19 hL, dA_216 hL, dI_217 hL, dS_217 hL, ↓dR_205_20 hL, dA_223 hL, dI_224 hL, dS_224 hL, ↓reduceIte, ↓kq_bi, ↓kq_let, ↓kq_rz0, ↓kq_rz1, ↓kq_rzB, ↓Option.bind_some, kq_dvn, kt_lt, kf_lt, kt_eq, kf_eq, decide_true, decide_false, eq_self, Bool.false_eq_true, Bool.true_eq_false, not_true_eq_false, not_false_eq_true, jU_eq, jU_ne, jU_U, jV_eq, jV_ne, jV_V, kn_lit, kn_add, kn_mul, kn_sdm, kn_sub, kn_div, kn_nsdm, kn_lt, kn_eq, kn_pred, kn_m1, kn_m1', kn_a31, kn_shl, kn_shr, kn_bit, nB_0, nB_1, nB_t, nB_f, Nat.zero_add, Nat.add_zero, Nat.reduceAdd, Nat.reduceMul, Nat.reduceSub, Nat.reducePow]
    refine jW_bn (m_lays_216 hL h1) (fun A hA => ?_)
    have e2 : A 209 2 = nI q2 := by rw [hA.2 209 (by omega), hV.2 209 (by omega)]; exact e2
    simp (disch := omega) only [e2, ↓dK_205 hL, ↓dG_205 hL, ↓dP_205 hL, ↓dZ_205 hL (x := nI 0) (Or.inl rfl), ↓dZ_205 hL (x := nI 1) (Or.inr rfl), ↓dZ_205 hL (Or.inl rfl), ↓dZ_205 hL (Or.inr rfl), ↓dZ_205 hL (nB_01 _), ↓dR_205_12 hL, dI_209 hL, dS_209 hL, ↓dR_205_21 hL, dA_230 hL, dI_231 hL, dS_231 hL, ↓dR_205_22 hL, dA_241 hL, dI_242 hL, dS_242 hL, ↓reduceIte, ↓kq_bi, ↓kq_let, ↓kq_rz0, ↓kq_rz1, ↓kq_rzB, ↓Option.bind_some, kq_dvn, kt_lt, kf_lt, kt_eq, kf_eq, decide_true, decide_false, eq_self, Bool.false_eq_true, Bool.true_eq_false, not_true_eq_false, not_false_eq_true, jU_eq, jU_ne, jU_U, jV_eq, jV_ne, jV_V, kn_lit, kn_add, kn_mul, kn_sdm, kn_sub, kn_div, kn_nsdm, kn_lt, kn_eq, kn_pred, kn_m1, kn_m1', kn_a31, kn_shl, kn_shr, kn_bit, nB_0, nB_1, nB_t, nB_f, Nat.zero_add, Nat.add_zero, Nat.reduceAdd, Nat.reduceMul, Nat.reduceSub, Nat.reducePow]
    refine jW_bn (m_lays_230 hL h2) (fun B hB => ?_)
    have e5 : B 209 5 = nI q5 := by rw [hB.2 209 (by omega), hA.2 209 (by omega), hV.2 209 (by omega)]; exact e5
    simp (disch := omega) only [e5, ↓dK_205 hL, ↓dG_205 hL, ↓dP_205 hL, ↓dZ_205 hL (x := nI 0) (Or.inl rfl), ↓dZ_205 hL (x := nI 1) (Or.inr rfl), ↓dZ_205 hL (Or.inl rfl), ↓dZ_205 hL (Or.inr rfl), ↓dZ_205 hL (nB_01 _), ↓dR_205_12 hL, dI_209 hL, dS_209 hL, ↓dR_205_23 hL, dA_252 hL, dI_253 hL, dS_253 hL, ↓dR_205_24 hL, dA_259 hL, dI_260 hL, dS_260 hL, ↓reduceIte, ↓kq_bi, ↓kq_let, ↓kq_rz0, ↓kq_rz1, ↓kq_rzB, ↓Option.bind_some, kq_dvn, kt_lt, kf_lt, kt_eq, kf_eq, decide_true, decide_false, eq_self, Bool.false_eq_true, Bool.true_eq_false, not_true_eq_false, not_false_eq_true, jU_eq, jU_ne, jU_U, jV_eq, jV_ne, jV_V, kn_lit, kn_add, kn_mul, kn_sdm, kn_sub, kn_div, kn_nsdm, kn_lt, kn_eq, kn_pred, kn_m1, kn_m1', kn_a31, kn_shl, kn_shr, kn_bit, nB_0, nB_1, nB_t, nB_f, Nat.zero_add, Nat.add_zero, Nat.reduceAdd, Nat.reduceMul, Nat.reduceSub, Nat.reducePow]
    refine jW_bn (m_lays_252 hL h5) (fun C hC => ?_)
    refine hP C ⟨fun i hi => ?_, fun w i h1 h2 => ?_, fun w i h1 h2 => ?_, fun w i h1 h2 => ?_, fun a a1 a2 a3 a4 => ?_⟩
    · rw [hC.2 213 (by omega), hB.2 213 (by omega), hA.2 213 (by omega)]; exact hV.1 i hi
    · rw [hC.2 (224 + w) (by omega), hB.2 (224 + w) (by omega), hA.1 w i h1 h2, hV.2 (217 + w) (by omega)]
    · rw [hC.2 (242 + w) (by omega), hB.1 w i h1 h2, hA.2 (231 + w) (by omega), hV.2 (231 + w) (by omega)]
    · rw [hC.1 w i h1 h2, hB.2 (253 + w) (by omega), hA.2 (253 + w) (by omega), hV.2 (253 + w) (by omega)]
    · rw [hC.2 a (by omega), hB.2 a (by omega), hA.2 a (by omega), hV.2 a a1]
/-- the row that a town begins with -/
def s_r0 (τ : JTn) : JRw := fun k => if 117 ≤ k ∧ k < 117 + τ 0 1 then τ 5 (k - 117) else 0
theorem m_ba169 (hL : jLay t u l m b c h) (hq : q ≤ 6) (e : J 209 1 = nI q) {P : LH → Prop} (hP : ∀ K, (∀ k, k < 134 → K 691 k = if 117 ≤ k ∧ k < 117 + q then J (224 + (k - 117)) 3 else nI 0) ∧ (K 205 25 = nI 0 ∧ K 205 39 = nI 0 ∧ K 205 40 = nI 0 ∧ K 205 41 = nI 0 ∧ K 205 42 = nI 0) ∧ (∀ f, ¬ f = 25 → ¬ f = 39 → ¬ f = 40 → ¬ f = 41 → ¬ f = 42 → K 205 f = J 205 f) ∧ (∀ a, ¬ a = 205 → ¬ a = 691 → K a = J a) → P (jz_I h K)) : jW (F_Mod_beginsAnew_l169 jF 205 (nI 0) (jz_I h J)) P := by
  refine jW_for0 (A := Nat → Nat → Int32) (f := fun fuel w s => F_Mod_beginsAnew_l169 fuel 205 (nI w) (jz_I h s)) 134 (fun w s => (∀ i, i < w → s 691 i = nI 0) ∧ ∀ a, ¬ a = 691 → s a = J a) J ⟨fun i hi => absurd hi (Nat.not_lt_zero i), fun _ _ => rfl⟩ (by omega) (fun F w s hw hV ih => ?_) (fun F s hV => ?_)
  · show jW (F_Mod_beginsAnew_c169 (F_Mod_beginsAnew_l169 F) 205 (nI w) (jz_I h s)) P
    unfold F_Mod_beginsAnew_c169
    simp (disch := omega) only [↓dK_205 hL, ↓dG_205 hL, ↓dP_205 hL, ↓dZ_205 hL (x := nI 0) (Or.inl rfl), ↓dZ_205 hL (x := nI 1) (Or.inr rfl), ↓dZ_205 hL (Or.inl rfl), ↓dZ_205 hL (Or.inr rfl), ↓dZ_205 hL (nB_01 _), ↓dR_205_35 hL, dI_691 hL, dS_691 hL, ↓reduceIte, ↓kq_bi, ↓kq_let, ↓kq_rz0, ↓kq_rz1, ↓kq_rzB, ↓Option.bind_some, kq_dvn, kt_lt, kf_lt, kt_eq, kf_eq, decide_true, decide_false, eq_self, Bool.false_eq_true, Bool.true_eq_false, not_true_eq_false, not_false_eq_true, jU_eq, jU_ne, jU_U, jV_eq, jV_ne, jV_V, kn_lit, kn_add, kn_mul, kn_sdm, kn_sub, kn_div, kn_nsdm, kn_lt, kn_eq, kn_pred, kn_m1, kn_m1', kn_a31, kn_shl, kn_shr, kn_bit, nB_0, nB_1, nB_t, nB_f, Nat.zero_add, Nat.add_zero, Nat.reduceAdd, Nat.reduceMul, Nat.reduceSub, Nat.reducePow]
    refine ih _ ⟨fun i hi => ?_, fun a ha => by rw [jU_ne ha]; exact hV.2 a ha⟩
    rw [jU_eq]
    by_cases z : i = w
    · rw [z, jV_eq]
    · rw [jV_ne z]; exact hV.1 i (by omega)
  · show jW (F_Mod_beginsAnew_c169 (F_Mod_beginsAnew_l169 F) 205 (nI 134) (jz_I h s)) P
    unfold F_Mod_beginsAnew_c169
    simp (disch := omega) only [↓dK_205 hL, ↓dG_205 hL, ↓dP_205 hL, ↓dZ_205 hL (x := nI 0) (Or.inl rfl), ↓dZ_205 hL (x := nI 1) (Or.inr rfl), ↓dZ_205 hL (Or.inl rfl), ↓dZ_205 hL (Or.inr rfl), ↓dZ_205 hL (nB_01 _), ↓dR_205_35 hL, dI_691 hL, dS_691 hL, ↓reduceIte, ↓kq_bi, ↓kq_let, ↓kq_rz0, ↓kq_rz1, ↓kq_rzB, ↓Option.bind_some, kq_dvn, kt_lt, kf_lt, kt_eq, kf_eq, decide_true, decide_false, eq_self, Bool.false_eq_true, Bool.true_eq_false, not_true_eq_false, not_false_eq_true, jU_eq, jU_ne, jU_U, jV_eq, jV_ne, jV_V, kn_lit, kn_add, kn_mul, kn_sdm, kn_sub, kn_div, kn_nsdm, kn_lt, kn_eq, kn_pred, kn_m1, kn_m1', kn_a31, kn_shl, kn_shr, kn_bit, nB_0, nB_1, nB_t, nB_f, Nat.zero_add, Nat.add_zero, Nat.reduceAdd, Nat.reduceMul, Nat.reduceSub, Nat.reducePow]
    refine jW_for0 (A := Nat → Nat → Int32) (f := fun fuel w s' => F_Mod_beginsAnew_l191 fuel 205 (nI w) (jz_I h s')) q (fun w s' => (∀ k, k < 134 → s' 691 k = if 117 ≤ k ∧ k < 117 + w then J (224 + (k - 117)) 3 else nI 0) ∧ ∀ a, ¬ a = 691 → s' a = J a) s ⟨fun k hk => by rw [if_neg (by omega)]; exact hV.1 k hk, hV.2⟩ (by omega) (fun G w s' hw hW ih => ?_) (fun G s' hW => ?_)
    · have e : s' 209 1 = nI q := by rw [hW.2 209 (by omega)]; exact e
      show jW (F_Mod_beginsAnew_c191 (F_Mod_beginsAnew_l191 G) 205 (nI w) (jz_I h s')) P
      unfold F_Mod_beginsAnew_c191
      simp (disch := omega) only [e, ↓dK_205 hL, ↓dG_205 hL, ↓dP_205 hL, ↓dZ_205 hL (x := nI 0) (Or.inl rfl), ↓dZ_205 hL (x := nI 1) (Or.inr rfl), ↓dZ_205 hL (Or.inl rfl), ↓dZ_205 hL (Or.inr rfl), ↓dZ_205 hL (nB_01 _), ↓dR_205_12 hL, dI_209 hL, dS_209 hL, ↓dR_205_35 hL, dI_691 hL, dS_691 hL, ↓dR_205_20 hL, dA_223 hL, dI_224 hL, dS_224 hL, ↓reduceIte, ↓kq_bi, ↓kq_let, ↓kq_rz0, ↓kq_rz1, ↓kq_rzB, ↓Option.bind_some, kq_dvn, kt_lt, kf_lt, kt_eq, kf_eq, decide_true, decide_false, eq_self, Bool.false_eq_true, Bool.true_eq_false, not_true_eq_false, not_false_eq_true, jU_eq, jU_ne, jU_U, jV_eq, jV_ne, jV_V, kn_lit, kn_add, kn_mul, kn_sdm, kn_sub, kn_div, kn_nsdm, kn_lt, kn_eq, kn_pred, kn_m1, kn_m1', kn_a31, kn_shl, kn_shr, kn_bit, nB_0, nB_1, nB_t, nB_f, Nat.zero_add, Nat.add_zero, Nat.reduceAdd, Nat.reduceMul, Nat.reduceSub, Nat.reducePow]
      refine ih _ ⟨fun k hk => ?_, fun a ha => by rw [jU_ne ha]; exact hW.2 a ha⟩
      rw [jU_eq]
      by_cases z : k = 117 + w
      · rw [z, jV_eq, if_pos (by omega), hW.2 (224 + w) (by omega), show 117 + w - 117 = w by omega]
      · rw [jV_ne z, hW.1 k hk]
        by_cases z2 : 117 ≤ k ∧ k < 117 + w
        · rw [if_pos z2, if_pos (by omega)]
        · rw [if_neg z2, if_neg (by omega)]
    · have e : s' 209 1 = nI q := by rw [hW.2 209 (by omega)]; exact e
      show jW (F_Mod_beginsAnew_c191 (F_Mod_beginsAnew_l191 G) 205 (nI q) (jz_I h s')) P
      unfold F_Mod_beginsAnew_c191
      simp (disch := omega) only [e, ↓dK_205 hL, ↓dG_205 hL, ↓dP_205 hL, ↓dZ_205 hL (x := nI 0) (Or.inl rfl), ↓dZ_205 hL (x := nI 1) (Or.inr rfl), ↓dZ_205 hL (Or.inl rfl), ↓dZ_205 hL (Or.inr rfl), ↓dZ_205 hL (nB_01 _), ↓dR_205_12 hL, dI_209 hL, dS_209 hL, ↓reduceIte, ↓kq_bi, ↓kq_let, ↓kq_rz0, ↓kq_rz1, ↓kq_rzB, ↓Option.bind_some, kq_dvn, kt_lt, kf_lt, kt_eq, kf_eq, decide_true, decide_false, eq_self, Bool.false_eq_true, Bool.true_eq_false, not_true_eq_false, not_false_eq_true, jU_eq, jU_ne, jU_U, jV_eq, jV_ne, jV_V, kn_lit, kn_add, kn_mul, kn_sdm, kn_sub, kn_div, kn_nsdm, kn_lt, kn_eq, kn_pred, kn_m1, kn_m1', kn_a31, kn_shl, kn_shr, kn_bit, nB_0, nB_1, nB_t, nB_f, Nat.zero_add, Nat.add_zero, Nat.reduceAdd, Nat.reduceMul, Nat.reduceSub, Nat.reducePow]
      refine jW_s (hP _ ⟨fun k hk => by rw [jU_ne (by omega)]; exact hW.1 k hk, ⟨?_, ?_, ?_, ?_, ?_⟩, fun f a1 a2 a3 a4 a5 => ?_, fun a a1 a2 => by rw [jU_ne a1]; exact hW.2 a a2⟩)
      · simp (disch := omega) only [jU_eq, jV_ne, jV_eq]
      · simp (disch := omega) only [jU_eq, jV_ne, jV_eq]
      · simp (disch := omega) only [jU_eq, jV_ne, jV_eq]
      · simp (disch := omega) only [jU_eq, jV_ne, jV_eq]
      · simp (disch := omega) only [jU_eq, jV_ne, jV_eq]
      · simp (disch := omega) only [jU_eq, jV_ne]
        rw [hW.2 205 (by omega)]
end

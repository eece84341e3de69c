/-! PLAIN LEAN: the reference keeps an image, and takes one back -/
section
variable {t u l m b c : Nat} {h : LH} {I J K : Nat → Nat → Int32} {e s i k w : Nat} {x : Int32}
theorem m_putsS (hL : jLay t u l m b c h) (he : e < 3) (hs : s < 2279) (h43 : J 205 43 = nI s) : F_Mod_puts 205 (711 + e) x (nI 0) (jz_I h J) = some (x, jz_I h (jU (jU J (711 + e) (jV (J (711 + e)) s x)) 205 (jV (J 205) 43 (nI (s + 1))))) := by
  unfold F_Mod_puts F_Mod_puts_b11
  simp (disch := omega) only [h43, Nat.add_sub_cancel, ↓dK_205 hL, ↓dG_205 hL, ↓dP_205 hL, ↓dZ_205 hL (x := nI 0) (Or.inl rfl), ↓dZ_205 hL (x := nI 1) (Or.inr rfl), ↓dZ_205 hL (Or.inl rfl), ↓dZ_205 hL (Or.inr rfl), ↓dZ_205 hL (nB_01 _), ↓dR_205_38 hL, dA_710 hL, dI_711 hL, dS_711 hL, ↓reduceIte, ↓kq_bi, ↓kq_let, ↓kq_rz0, ↓kq_rz1, ↓kq_rzB, ↓Option.bind_some, kq_dvn, kt_lt, kf_lt, kt_eq, kf_eq, decide_true, decide_false, eq_self, Bool.false_eq_true, Bool.true_eq_false, not_true_eq_false, not_false_eq_true, jU_eq, jU_ne, jU_U, jV_eq, jV_ne, jV_V, kn_lit, kn_add, kn_mul, kn_sdm, kn_sub, kn_div, kn_nsdm, kn_lt, kn_eq, kn_pred, kn_m1, kn_m1', kn_a31, kn_shl, kn_shr, kn_bit, nB_0, nB_1, nB_t, nB_f, Nat.zero_add, Nat.add_zero, Nat.reduceAdd, Nat.reduceMul, Nat.reduceSub, Nat.reducePow]
theorem m_putsL (hL : jLay t u l m b c h) (he : e < 3) (hs : s < 2279) (h43 : J 205 43 = nI s) : F_Mod_puts 205 (711 + e) x (nI 1) (jz_I h J) = some (J (711 + e) s, jz_I h (jU J 205 (jV (J 205) 43 (nI (s + 1))))) := by
  unfold F_Mod_puts F_Mod_puts_b11
  simp (disch := omega) only [h43, Nat.add_sub_cancel, ↓dK_205 hL, ↓dG_205 hL, ↓dP_205 hL, ↓dZ_205 hL (x := nI 0) (Or.inl rfl), ↓dZ_205 hL (x := nI 1) (Or.inr rfl), ↓dZ_205 hL (Or.inl rfl), ↓dZ_205 hL (Or.inr rfl), ↓dZ_205 hL (nB_01 _), ↓dR_205_38 hL, dA_710 hL, dI_711 hL, dS_711 hL, ↓reduceIte, ↓kq_bi, ↓kq_let, ↓kq_rz0, ↓kq_rz1, ↓kq_rzB, ↓Option.bind_some, kq_dvn, kt_lt, kf_lt, kt_eq, kf_eq, decide_true, decide_false, eq_self, Bool.false_eq_true, Bool.true_eq_false, not_true_eq_false, not_false_eq_true, jU_eq, jU_ne, jU_U, jV_eq, jV_ne, jV_V, kn_lit, kn_add, kn_mul, kn_sdm, kn_sub, kn_div, kn_nsdm, kn_lt, kn_eq, kn_pred, kn_m1, kn_m1', kn_a31, kn_shl, kn_shr, kn_bit, nB_0, nB_1, nB_t, nB_f, Nat.zero_add, Nat.add_zero, Nat.reduceAdd, Nat.reduceMul, Nat.reduceSub, Nat.reducePow]
/-- save -/
theorem m_saves (hL : jLay t u l m b c h) (he : e < 3) : ∃ K, F_Mod_putsAll 205 (711 + e) (nI 0) (jz_I h I) = some (jz_I h K) ∧ K (711 + e) 0 = I 205 40 ∧ (∀ k, k < 134 → K (711 + e) (1 + k) = I 691 k) ∧ (∀ i k, i < 16 → k < 134 → K (711 + e) (135 + (134 * i + k)) = I (694 + i) k) ∧ (∀ f, ¬ f = 43 → K 205 f = I 205 f) ∧ ∀ a, ¬ a = 205 → ¬ a = 711 + e → K a = I a := by
  refine jE_n (fun P hP => ?_)
  unfold F_Mod_putsAll
  simp (disch := omega) only [m_putsS hL he (J := jU I 205 (jV (I 205) 43 (nI 0))) (s := 0) (by omega) (by rw [jU_eq, jV_eq]), ↓dK_205 hL, ↓dG_205 hL, ↓dP_205 hL, ↓dZ_205 hL (x := nI 0) (Or.inl rfl), ↓dZ_205 hL (x := nI 1) (Or.inr rfl), ↓dZ_205 hL (Or.inl rfl), ↓dZ_205 hL (Or.inr rfl), ↓dZ_205 hL (nB_01 _), ↓reduceIte, ↓kq_bi, ↓kq_let, ↓kq_rz0, ↓kq_rz1, ↓kq_rzB, ↓Option.bind_some, kq_dvn, kt_lt, kf_lt, kt_eq, kf_eq, decide_true, decide_false, eq_self, Bool.false_eq_true, Bool.true_eq_false, not_true_eq_false, not_false_eq_true, jU_eq, jU_ne, jU_U, jV_eq, jV_ne, jV_V, kn_lit, kn_add, kn_mul, kn_sdm, kn_sub, kn_div, kn_nsdm, kn_lt, kn_eq, kn_pred, kn_m1, kn_m1', kn_a31, kn_shl, kn_shr, kn_bit, nB_0, nB_1, nB_t, nB_f, Nat.zero_add, Nat.add_zero, Nat.reduceAdd, Nat.reduceMul, Nat.reduceSub, Nat.reducePow]
  refine jW_for0 (A := Nat → Nat → Int32) (f := fun fuel k s' => F_Mod_putsAll_l21 fuel 205 (711 + e) (nI 0) (nI k) (jz_I h s')) 134 (fun k s' => s' 205 43 = nI (1 + k) ∧ (∀ f, ¬ f = 43 → s' 205 f = I 205 f) ∧ s' (711 + e) 0 = I 205 40 ∧ (∀ j, j < k → s' (711 + e) (1 + j) = I 691 j) ∧ ∀ a, ¬ a = 205 → ¬ a = 711 + e → s' a = I a) _ ⟨?_, fun f hf => ?_, ?_, fun j hj => absurd hj (Nat.not_lt_zero j), fun a a1 a2 => ?_⟩ (by omega) (fun F k s' hk hV ih => ?_) (fun F s' hV => ?_)
  · simp (disch := omega) only [jU_eq, jV_ne, jV_eq]
  · by_cases z : f = 40
    · rw [z]; simp (disch := omega) only [jU_eq, jV_eq]
    · simp (disch := omega) only [jU_eq, jV_ne]
  · simp (disch := omega) only [jU_eq, jU_ne, jV_eq]
  · simp (disch := omega) only [jU_ne]
  · obtain ⟨v1, v2, v3, v4, v5⟩ := hV
    have e1 := v5 691 (by omega) (by omega)
    show jW (F_Mod_putsAll_c21 (F_Mod_putsAll_l21 F) 205 (711 + e) (nI 0) (nI k) (jz_I h s')) P
    unfold F_Mod_putsAll_c21
    simp (disch := omega) only [e1, m_putsS hL he (J := s') (s := 1 + k) (by omega) v1, ↓dK_205 hL, ↓dG_205 hL, ↓dP_205 hL, ↓dZ_205 hL (x := nI 0) (Or.inl rfl), ↓dZ_205 hL (x := nI 1) (Or.inr rfl), ↓dZ_205 hL (Or.inl rfl), ↓dZ_205 hL (Or.inr rfl), ↓dZ_205 hL (nB_01 _), ↓dR_205_35 hL, dI_691 hL, dS_691 hL, ↓reduceIte, ↓kq_bi, ↓kq_let, ↓kq_rz0, ↓kq_rz1, ↓kq_rzB, ↓Option.bind_some, kq_dvn, kt_lt, kf_lt, kt_eq, kf_eq, decide_true, decide_false, eq_self, Bool.false_eq_true, Bool.true_eq_false, not_true_eq_false, not_false_eq_true, jU_eq, jU_ne, jU_U, jV_eq, jV_ne, jV_V, kn_lit, kn_add, kn_mul, kn_sdm, kn_sub, kn_div, kn_nsdm, kn_lt, kn_eq, kn_pred, kn_m1, kn_m1', kn_a31, kn_shl, kn_shr, kn_bit, nB_0, nB_1, nB_t, nB_f, Nat.zero_add, Nat.add_zero, Nat.reduceAdd, Nat.reduceMul, Nat.reduceSub, Nat.reducePow]
    refine ih _ ⟨?_, fun f hf => ?_, ?_, fun j hj => ?_, fun a a1 a2 => ?_⟩
    · simp (disch := omega) only [jU_eq, jU_ne, jV_eq]; rfl
    · simp (disch := omega) only [jU_eq, jU_ne, jV_ne]; exact v2 f hf
    · simp (disch := omega) only [jU_eq, jU_ne, jV_ne]; exact v3
    · by_cases z : j = k
      · rw [z]; simp (disch := omega) only [jU_eq, jU_ne, jV_eq]
      · simp (disch := omega) only [jU_eq, jU_ne, jV_ne]; exact v4 j (by omega)
    · by_cases z : a = 691
      · rw [z, jU_eq, jV_id]
      · simp (disch := omega) only [jU_ne]; exact v5 a a1 a2
  · show jW (F_Mod_putsAll_c21 (F_Mod_putsAll_l21 F) 205 (711 + e) (nI 0) (nI 134) (jz_I h s')) P
    obtain ⟨v1, v2, v3, v4, v5⟩ := hV
    unfold F_Mod_putsAll_c21
    simp (disch := omega) only [↓dK_205 hL, ↓dG_205 hL, ↓dP_205 hL, ↓dZ_205 hL (x := nI 0) (Or.inl rfl), ↓dZ_205 hL (x := nI 1) (Or.inr rfl), ↓dZ_205 hL (Or.inl rfl), ↓dZ_205 hL (Or.inr rfl), ↓dZ_205 hL (nB_01 _), ↓reduceIte, ↓kq_bi, ↓kq_let, ↓kq_rz0, ↓kq_rz1, ↓kq_rzB, ↓Option.bind_some, kq_dvn, kt_lt, kf_lt, kt_eq, kf_eq, decide_true, decide_false, eq_self, Bool.false_eq_true, Bool.true_eq_false, not_true_eq_false, not_false_eq_true, jU_eq, jU_ne, jU_U, jV_eq, jV_ne, jV_V, kn_lit, kn_add, kn_mul, kn_sdm, kn_sub, kn_div, kn_nsdm, kn_lt, kn_eq, kn_pred, kn_m1, kn_m1', kn_a31, kn_shl, kn_shr, kn_bit, nB_0, nB_1, nB_t, nB_f, Nat.zero_add, Nat.add_zero, Nat.reduceAdd, Nat.reduceMul, Nat.reduceSub, Nat.reducePow]
    refine jW_for0 (A := Nat → Nat → Int32) (f := fun fuel w q => F_Mod_putsAll_l54 fuel 205 (711 + e) (nI 0) (nI w) (jz_I h q)) 16 (fun w q => q 205 43 = nI (135 + 134 * w) ∧ (∀ f, ¬ f = 43 → q 205 f = I 205 f) ∧ (∀ j, j < 135 → q (711 + e) j = s' (711 + e) j) ∧ (∀ i k, i < w → k < 134 → q (711 + e) (135 + (134 * i + k)) = I (694 + i) k) ∧ ∀ a, ¬ a = 205 → ¬ a = 711 + e → q a = I a) s' ⟨v1, v2, fun _ _ => rfl, fun i k hi => absurd hi (Nat.not_lt_zero i), v5⟩ (by omega) (fun G w q hw hW ih => ?_) (fun G q hW => ?_)
    · show jW (F_Mod_putsAll_c54 (F_Mod_putsAll_l54 G) 205 (711 + e) (nI 0) (nI w) (jz_I h q)) P
      obtain ⟨w1, w2, w3, w4, w5⟩ := hW
      unfold F_Mod_putsAll_c54
      simp (disch := omega) only [↓dK_205 hL, ↓dG_205 hL, ↓dP_205 hL, ↓dZ_205 hL (x := nI 0) (Or.inl rfl), ↓dZ_205 hL (x := nI 1) (Or.inr rfl), ↓dZ_205 hL (Or.inl rfl), ↓dZ_205 hL (Or.inr rfl), ↓dZ_205 hL (nB_01 _), ↓reduceIte, ↓kq_bi, ↓kq_let, ↓kq_rz0, ↓kq_rz1, ↓kq_rzB, ↓Option.bind_some, kq_dvn, kt_lt, kf_lt, kt_eq, kf_eq, decide_true, decide_false, eq_self, Bool.false_eq_true, Bool.true_eq_false, not_true_eq_false, not_false_eq_true, jU_eq, jU_ne, jU_U, jV_eq, jV_ne, jV_V, kn_lit, kn_add, kn_mul, kn_sdm, kn_sub, kn_div, kn_nsdm, kn_lt, kn_eq, kn_pred, kn_m1, kn_m1', kn_a31, kn_shl, kn_shr, kn_bit, nB_0, nB_1, nB_t, nB_f, Nat.zero_add, Nat.add_zero, Nat.reduceAdd, Nat.reduceMul, Nat.reduceSub, Nat.reducePow]
      refine jW_for0 (A := Nat → Nat → Int32) (f := fun fuel k q' => F_Mod_putsAll_l63 (F_Mod_putsAll_l54 G) fuel 205 (711 + e) (nI 0) (nI w) (nI k) (jz_I h q')) 134 (fun k q' => q' 205 43 = nI (135 + 134 * w + k) ∧ (∀ f, ¬ f = 43 → q' 205 f = I 205 f) ∧ (∀ j, j < 135 + 134 * w → q' (711 + e) j = q (711 + e) j) ∧ (∀ j, j < k → q' (711 + e) (135 + (134 * w + j)) = I (694 + w) j) ∧ ∀ a, ¬ a = 205 → ¬ a = 711 + e → q' a = I a) q ⟨w1, w2, fun _ _ => rfl, fun j hj => absurd hj (Nat.not_lt_zero j), w5⟩ (by omega) (fun G2 k q' hk hX ih2 => ?_) (fun G2 q' hX => ?_)
      · obtain ⟨x1, x2, x3, x4, x5⟩ := hX
        have e1 := x5 (694 + w) (by omega) (by omega)
        show jW (F_Mod_putsAll_c63 (F_Mod_putsAll_l54 G) (F_Mod_putsAll_l63 (F_Mod_putsAll_l54 G) G2) 205 (711 + e) (nI 0) (nI w) (nI k) (jz_I h q')) P
        unfold F_Mod_putsAll_c63
        simp (disch := omega) only [e1, m_putsS hL he (J := q') (s := 135 + 134 * w + k) (by omega) x1, ↓dK_205 hL, ↓dG_205 hL, ↓dP_205 hL, ↓dZ_205 hL (x := nI 0) (Or.inl rfl), ↓dZ_205 hL (x := nI 1) (Or.inr rfl), ↓dZ_205 hL (Or.inl rfl), ↓dZ_205 hL (Or.inr rfl), ↓dZ_205 hL (nB_01 _), ↓dR_205_37 hL, dA_693 hL, dI_694 hL, dS_694 hL, ↓reduceIte, ↓kq_bi, ↓kq_let, ↓kq_rz0, ↓kq_rz1, ↓kq_rzB, ↓Option.bind_some, kq_dvn, kt_lt, kf_lt, kt_eq, kf_eq, decide_true, decide_false, eq_self, Bool.false_eq_true, Bool.true_eq_false, not_true_eq_false, not_false_eq_true, jU_eq, jU_ne, jU_U, jV_eq, jV_ne, jV_V, kn_lit, kn_add, kn_mul, kn_sdm, kn_sub, kn_div, kn_nsdm, kn_lt, kn_eq, kn_pred, kn_m1, kn_m1', kn_a31, kn_shl, kn_shr, kn_bit, nB_0, nB_1, nB_t, nB_f, Nat.zero_add, Nat.add_zero, Nat.reduceAdd, Nat.reduceMul, Nat.reduceSub, Nat.reducePow]
        refine ih2 _ ⟨?_, fun f hf => ?_, fun j hj => ?_, fun j hj => ?_, fun a a1 a2 => ?_⟩
        · simp (disch := omega) only [jU_eq, jU_ne, jV_eq]; rfl
        · simp (disch := omega) only [jU_eq, jU_ne, jV_ne]; exact x2 f hf
        · simp (disch := omega) only [jU_eq, jU_ne, jV_ne]; exact x3 j hj
        · by_cases z : j = k
          · rw [z, show 135 + (134 * w + k) = 135 + 134 * w + k by omega]; simp (disch := omega) only [jU_eq, jU_ne, jV_eq]
          · simp (disch := omega) only [jU_eq, jU_ne, jV_ne]; exact x4 j (by omega)
        · by_cases z : a = 694 + w
          · rw [z, jU_eq, jV_id]
          · simp (disch := omega) only [jU_ne]; exact x5 a a1 a2
      · obtain ⟨x1, x2, x3, x4, x5⟩ := hX
        show jW (F_Mod_putsAll_c63 (F_Mod_putsAll_l54 G) (F_Mod_putsAll_l63 (F_Mod_putsAll_l54 G) G2) 205 (711 + e) (nI 0) (nI w) (nI 134) (jz_I h q')) P
        unfold F_Mod_putsAll_c63
        simp (disch := omega) only [↓dK_205 hL, ↓dG_205 hL, ↓dP_205 hL, ↓dZ_205 hL (x := nI 0) (Or.inl rfl), ↓dZ_205 hL (x := nI 1) (Or.inr rfl), ↓dZ_205 hL (Or.inl rfl), ↓dZ_205 hL (Or.inr rfl), ↓dZ_205 hL (nB_01 _), ↓reduceIte, ↓kq_bi, ↓kq_let, ↓kq_rz0, ↓kq_rz1, ↓kq_rzB, ↓Option.bind_some, kq_dvn, kt_lt, kf_lt, kt_eq, kf_eq, decide_true, decide_false, eq_self, Bool.false_eq_true, Bool.true_eq_false, not_true_eq_false, not_false_eq_true, jU_eq, jU_ne, jU_U, jV_eq, jV_ne, jV_V, kn_lit, kn_add, kn_mul, kn_sdm, kn_sub, kn_div, kn_nsdm, kn_lt, kn_eq, kn_pred, kn_m1, kn_m1', kn_a31, kn_shl, kn_shr, kn_bit, nB_0, nB_1, nB_t, nB_f, Nat.zero_add, Nat.add_zero, Nat.reduceAdd, Nat.reduceMul, Nat.reduceSub, Nat.reducePow]
        refine ih q' ⟨by rw [x1]; congr 1, x2, fun j hj => by rw [x3 j (by omega)]; exact w3 j hj, fun i k hi hk => ?_, x5⟩
        by_cases z : i = w
        · rw [z]; exact x4 k hk
        · rw [x3 _ (by omega)]; exact w4 i k (by omega) hk
    · show jW (F_Mod_putsAll_c54 (F_Mod_putsAll_l54 G) 205 (711 + e) (nI 0) (nI 16) (jz_I h q)) P
      obtain ⟨w1, w2, w3, w4, w5⟩ := hW
      unfold F_Mod_putsAll_c54
      simp (disch := omega) only [↓dK_205 hL, ↓dG_205 hL, ↓dP_205 hL, ↓dZ_205 hL (x := nI 0) (Or.inl rfl), ↓dZ_205 hL (x := nI 1) (Or.inr rfl), ↓dZ_205 hL (Or.inl rfl), ↓dZ_205 hL (Or.inr rfl), ↓dZ_205 hL (nB_01 _), ↓reduceIte, ↓kq_bi, ↓kq_let, ↓kq_rz0, ↓kq_rz1, ↓kq_rzB, ↓Option.bind_some, kq_dvn, kt_lt, kf_lt, kt_eq, kf_eq, decide_true, decide_false, eq_self, Bool.false_eq_true, Bool.true_eq_false, not_true_eq_false, not_false_eq_true, jU_eq, jU_ne, jU_U, jV_eq, jV_ne, jV_V, kn_lit, kn_add, kn_mul, kn_sdm, kn_sub, kn_div, kn_nsdm, kn_lt, kn_eq, kn_pred, kn_m1, kn_m1', kn_a31, kn_shl, kn_shr, kn_bit, nB_0, nB_1, nB_t, nB_f, Nat.zero_add, Nat.add_zero, Nat.reduceAdd, Nat.reduceMul, Nat.reduceSub, Nat.reducePow]
      exact jW_s (hP q ⟨by rw [w3 0 (by omega)]; exact v3, fun k hk => by rw [w3 (1 + k) (by omega)]; exact v4 k hk, w4, w2, w5⟩)
/-- load -/
theorem m_loads (hL : jLay t u l m b c h) (he : e < 3) : ∃ K, F_Mod_putsAll 205 (711 + e) (nI 1) (jz_I h I) = some (jz_I h K) ∧ K 205 40 = I (711 + e) 0 ∧ (∀ k, k < 134 → K 691 k = I (711 + e) (1 + k)) ∧ (∀ i k, i < 16 → k < 134 → K (694 + i) k = I (711 + e) (135 + (134 * i + k))) ∧ (∀ f, ¬ f = 43 → ¬ f = 40 → K 205 f = I 205 f) ∧ ∀ a, ¬ a = 205 → ¬ a = 691 → ¬ (694 ≤ a ∧ a < 710) → K a = I a := by
  refine jE_n (fun P hP => ?_)
  unfold F_Mod_putsAll
  simp (disch := omega) only [m_putsL hL he (J := jU I 205 (jV (I 205) 43 (nI 0))) (s := 0) (by omega) (by rw [jU_eq, jV_eq]), ↓dK_205 hL, ↓dG_205 hL, ↓dP_205 hL, ↓dZ_205 hL (x := nI 0) (Or.inl rfl), ↓dZ_205 hL (x := nI 1) (Or.inr rfl), ↓dZ_205 hL (Or.inl rfl), ↓dZ_205 hL (Or.inr rfl), ↓dZ_205 hL (nB_01 _), ↓reduceIte, ↓kq_bi, ↓kq_let, ↓kq_rz0, ↓kq_rz1, ↓kq_rzB, ↓Option.bind_some, kq_dvn, kt_lt, kf_lt, kt_eq, kf_eq, decide_true, decide_false, eq_self, Bool.false_eq_true, Bool.true_eq_false, not_true_eq_false, not_false_eq_true, jU_eq, jU_ne, jU_U, jV_eq, jV_ne, jV_V, kn_lit, kn_add, kn_mul, kn_sdm, kn_sub, kn_div, kn_nsdm, kn_lt, kn_eq, kn_pred, kn_m1, kn_m1', kn_a31, kn_shl, kn_shr, kn_bit, nB_0, nB_1, nB_t, nB_f, Nat.zero_add, Nat.add_zero, Nat.reduceAdd, Nat.reduceMul, Nat.reduceSub, Nat.reducePow]
  refine jW_for0 (A := Nat → Nat → Int32) (f := fun fuel k s' => F_Mod_putsAll_l21 fuel 205 (711 + e) (nI 1) (nI k) (jz_I h s')) 134 (fun k s' => s' 205 43 = nI (1 + k) ∧ s' 205 40 = I (711 + e) 0 ∧ (∀ f, ¬ f = 43 → ¬ f = 40 → s' 205 f = I 205 f) ∧ (∀ j, j < k → s' 691 j = I (711 + e) (1 + j)) ∧ ∀ a, ¬ a = 205 → ¬ a = 691 → s' a = I a) _ ⟨?_, ?_, fun f hf hf2 => ?_, fun j hj => absurd hj (Nat.not_lt_zero j), fun a a1 a2 => ?_⟩ (by omega) (fun F k s' hk hV ih => ?_) (fun F s' hV => ?_)
  · simp (disch := omega) only [jU_eq, jV_ne, jV_eq]
  · simp (disch := omega) only [jU_eq, jV_eq, jU_ne]
  · simp (disch := omega) only [jU_eq, jV_ne]
  · simp (disch := omega) only [jU_ne]
  · obtain ⟨v1, v2, v3, v4, v5⟩ := hV
    have e1 := v5 (711 + e) (by omega) (by omega)
    show jW (F_Mod_putsAll_c21 (F_Mod_putsAll_l21 F) 205 (711 + e) (nI 1) (nI k) (jz_I h s')) P
    unfold F_Mod_putsAll_c21
    simp (disch := omega) only [m_putsL hL he (J := s') (s := 1 + k) (by omega) v1, e1, ↓dK_205 hL, ↓dG_205 hL, ↓dP_205 hL, ↓dZ_205 hL (x := nI 0) (Or.inl rfl), ↓dZ_205 hL (x := nI 1) (Or.inr rfl), ↓dZ_205 hL (Or.inl rfl), ↓dZ_205 hL (Or.inr rfl), ↓dZ_205 hL (nB_01 _), ↓dR_205_35 hL, dI_691 hL, dS_691 hL, ↓reduceIte, ↓kq_bi, ↓kq_let, ↓kq_rz0, ↓kq_rz1, ↓kq_rzB, ↓Option.bind_some, kq_dvn, kt_lt, kf_lt, kt_eq, kf_eq, decide_true, decide_false, eq_self, Bool.false_eq_true, Bool.true_eq_false, not_true_eq_false, not_false_eq_true, jU_eq, jU_ne, jU_U, jV_eq, jV_ne, jV_V, kn_lit, kn_add, kn_mul, kn_sdm, kn_sub, kn_div, kn_nsdm, kn_lt, kn_eq, kn_pred, kn_m1, kn_m1', kn_a31, kn_shl, kn_shr, kn_bit, nB_0, nB_1, nB_t, nB_f, Nat.zero_add, Nat.add_zero, Nat.reduceAdd, Nat.reduceMul, Nat.reduceSub, Nat.reducePow]
    refine ih _ ⟨?_, ?_, fun f hf hf2 => ?_, fun j hj => ?_, fun a a1 a2 => ?_⟩
    · simp (disch := omega) only [jU_eq, jU_ne, jV_eq]; rfl
    · simp (disch := omega) only [jU_eq, jU_ne, jV_ne]; exact v2
    · simp (disch := omega) only [jU_eq, jU_ne, jV_ne]; exact v3 f hf hf2
    · by_cases z : j = k
      · rw [z]; simp (disch := omega) only [jU_eq, jV_eq]
      · simp (disch := omega) only [jU_eq, jU_ne, jV_ne]; exact v4 j (by omega)
    · simp (disch := omega) only [jU_ne]; exact v5 a a1 a2
  · show jW (F_Mod_putsAll_c21 (F_Mod_putsAll_l21 F) 205 (711 + e) (nI 1) (nI 134) (jz_I h s')) P
    obtain ⟨v1, v2, v3, v4, v5⟩ := hV
    unfold F_Mod_putsAll_c21
    simp (disch := omega) only [↓dK_205 hL, ↓dG_205 hL, ↓dP_205 hL, ↓dZ_205 hL (x := nI 0) (Or.inl rfl), ↓dZ_205 hL (x := nI 1) (Or.inr rfl), ↓dZ_205 hL (Or.inl rfl), ↓dZ_205 hL (Or.inr rfl), ↓dZ_205 hL (nB_01 _), ↓reduceIte, ↓kq_bi, ↓kq_let, ↓kq_rz0, ↓kq_rz1, ↓kq_rzB, ↓Option.bind_some, kq_dvn, kt_lt, kf_lt, kt_eq, kf_eq, decide_true, decide_false, eq_self, Bool.false_eq_true, Bool.true_eq_false, not_true_eq_false, not_false_eq_true, jU_eq, jU_ne, jU_U, jV_eq, jV_ne, jV_V, kn_lit, kn_add, kn_mul, kn_sdm, kn_sub, kn_div, kn_nsdm, kn_lt, kn_eq, kn_pred, kn_m1, kn_m1', kn_a31, kn_shl, kn_shr, kn_bit, nB_0, nB_1, nB_t, nB_f, Nat.zero_add, Nat.add_zero, Nat.reduceAdd, Nat.reduceMul, Nat.reduceSub, Nat.reducePow]
    refine jW_for0 (A := Nat → Nat → Int32) (f := fun fuel w q => F_Mod_putsAll_l54 fuel 205 (711 + e) (nI 1) (nI w) (jz_I h q)) 16 (fun w q => q 205 43 = nI (135 + 134 * w) ∧ (∀ f, ¬ f = 43 → q 205 f = s' 205 f) ∧ (∀ i k, i < w → k < 134 → q (694 + i) k = I (711 + e) (135 + (134 * i + k))) ∧ ∀ a, ¬ a = 205 → ¬ (694 ≤ a ∧ a < 710) → q a = s' a) s' ⟨v1, fun _ _ => rfl, fun i k hi => absurd hi (Nat.not_lt_zero i), fun _ _ _ => rfl⟩ (by omega) (fun G w q hw hW ih => ?_) (fun G q hW => ?_)
    · show jW (F_Mod_putsAll_c54 (F_Mod_putsAll_l54 G) 205 (711 + e) (nI 1) (nI w) (jz_I h q)) P
      obtain ⟨w1, w2, w3, w4⟩ := hW
      unfold F_Mod_putsAll_c54
      simp (disch := omega) only [↓dK_205 hL, ↓dG_205 hL, ↓dP_205 hL, ↓dZ_205 hL (x := nI 0) (Or.inl rfl), ↓dZ_205 hL (x := nI 1) (Or.inr rfl), ↓dZ_205 hL (Or.inl rfl), ↓dZ_205 hL (Or.inr rfl), ↓dZ_205 hL (nB_01 _), ↓reduceIte, ↓kq_bi, ↓kq_let, ↓kq_rz0, ↓kq_rz1, ↓kq_rzB, ↓Option.bind_some, kq_dvn, kt_lt, kf_lt, kt_eq, kf_eq, decide_true, decide_false, eq_self, Bool.false_eq_true, Bool.true_eq_false, not_true_eq_false, not_false_eq_true, jU_eq, jU_ne, jU_U, jV_eq, jV_ne, jV_V, kn_lit, kn_add, kn_mul, kn_sdm, kn_sub, kn_div, kn_nsdm, kn_lt, kn_eq, kn_pred, kn_m1, kn_m1', kn_a31, kn_shl, kn_shr, kn_bit, nB_0, nB_1, nB_t, nB_f, Nat.zero_add, Nat.add_zero, Nat.reduceAdd, Nat.reduceMul, Nat.reduceSub, Nat.reducePow]
      refine jW_for0 (A := Nat → Nat → Int32) (f := fun fuel k q' => F_Mod_putsAll_l63 (F_Mod_putsAll_l54 G) fuel 205 (711 + e) (nI 1) (nI w) (nI k) (jz_I h q')) 134 (fun k q' => q' 205 43 = nI (135 + 134 * w + k) ∧ (∀ f, ¬ f = 43 → q' 205 f = s' 205 f) ∧ (∀ j, j < k → q' (694 + w) j = I (711 + e) (135 + (134 * w + j))) ∧ ∀ a, ¬ a = 205 → ¬ a = 694 + w → q' a = q a) q ⟨w1, w2, fun j hj => absurd hj (Nat.not_lt_zero j), fun _ _ _ => rfl⟩ (by omega) (fun G2 k q' hk hX ih2 => ?_) (fun G2 q' hX => ?_)
      · obtain ⟨x1, x2, x3, x4⟩ := hX
        have e1 : q' (711 + e) = I (711 + e) := by rw [x4 (711 + e) (by omega) (by omega), w4 (711 + e) (by omega) (by omega), v5 (711 + e) (by omega) (by omega)]
        show jW (F_Mod_putsAll_c63 (F_Mod_putsAll_l54 G) (F_Mod_putsAll_l63 (F_Mod_putsAll_l54 G) G2) 205 (711 + e) (nI 1) (nI w) (nI k) (jz_I h q')) P
        unfold F_Mod_putsAll_c63
        simp (disch := omega) only [m_putsL hL he (J := q') (s := 135 + 134 * w + k) (by omega) x1, e1, ↓dK_205 hL, ↓dG_205 hL, ↓dP_205 hL, ↓dZ_205 hL (x := nI 0) (Or.inl rfl), ↓dZ_205 hL (x := nI 1) (Or.inr rfl), ↓dZ_205 hL (Or.inl rfl), ↓dZ_205 hL (Or.inr rfl), ↓dZ_205 hL (nB_01 _), ↓dR_205_37 hL, dA_693 hL, dI_694 hL, dS_694 hL, ↓reduceIte, ↓kq_bi, ↓kq_let, ↓kq_rz0, ↓kq_rz1, ↓kq_rzB, ↓Option.bind_some, kq_dvn, kt_lt, kf_lt, kt_eq, kf_eq, decide_true, decide_false, eq_self, Bool.false_eq_true, Bool.true_eq_false, not_true_eq_false, not_false_eq_true, jU_eq, jU_ne, jU_U, jV_eq, jV_ne, jV_V, kn_lit, kn_add, kn_mul, kn_sdm, kn_sub, kn_div, kn_nsdm, kn_lt, kn_eq, kn_pred, kn_m1, kn_m1', kn_a31, kn_shl, kn_shr, kn_bit, nB_0, nB_1, nB_t, nB_f, Nat.zero_add, Nat.add_zero, Nat.reduceAdd, Nat.reduceMul, Nat.reduceSub, Nat.reducePow]
        refine ih2 _ ⟨?_, fun f hf => ?_, fun j hj => ?_, fun a a1 a2 => ?_⟩
        · simp (disch := omega) only [jU_eq, jU_ne, jV_eq]; rfl
        · simp (disch := omega) only [jU_eq, jU_ne, jV_ne]; exact x2 f hf
        · by_cases z : j = k
          · rw [z, show 135 + (134 * w + k) = 135 + 134 * w + k by omega]; simp (disch := omega) only [jU_eq, jV_eq]
          · simp (disch := omega) only [jU_eq, jU_ne, jV_ne]; exact x3 j (by omega)
        · simp (disch := omega) only [jU_ne]; exact x4 a a1 a2
      · obtain ⟨x1, x2, x3, x4⟩ := hX
        show jW (F_Mod_putsAll_c63 (F_Mod_putsAll_l54 G) (F_Mod_putsAll_l63 (F_Mod_putsAll_l54 G) G2) 205 (711 + e) (nI 1) (nI w) (nI 134) (jz_I h q')) P
        unfold F_Mod_putsAll_c63
        simp (disch := omega) only [↓dK_205 hL, ↓dG_205 hL, ↓dP_205 hL, ↓dZ_205 hL (x := nI 0) (Or.inl rfl), ↓dZ_205 hL (x := nI 1) (Or.inr rfl), ↓dZ_205 hL (Or.inl rfl), ↓dZ_205 hL (Or.inr rfl), ↓dZ_205 hL (nB_01 _), ↓reduceIte, ↓kq_bi, ↓kq_let, ↓kq_rz0, ↓kq_rz1, ↓kq_rzB, ↓Option.bind_some, kq_dvn, kt_lt, kf_lt, kt_eq, kf_eq, decide_true, decide_false, eq_self, Bool.false_eq_true, Bool.true_eq_false, not_true_eq_false, not_false_eq_true, jU_eq, jU_ne, jU_U, jV_eq, jV_ne, jV_V, kn_lit, kn_add, kn_mul, kn_sdm, kn_sub, kn_div, kn_nsdm, kn_lt, kn_eq, kn_pred, kn_m1, kn_m1', kn_a31, kn_shl, kn_shr, kn_bit, nB_0, nB_1, nB_t, nB_f, Nat.zero_add, Nat.add_zero, Nat.reduceAdd, Nat.reduceMul, Nat.reduceSub, Nat.reducePow]
        refine ih q' ⟨by rw [x1]; congr 1, x2, fun i k hi hk => ?_, fun a a1 a2 => by rw [x4 a a1 (by omega)]; exact w4 a a1 a2⟩
        by_cases z : i = w
        · rw [z]; exact x3 k hk
        · rw [x4 _ (by omega) (by omega)]; exact w3 i k (by omega) hk
    · show jW (F_Mod_putsAll_c54 (F_Mod_putsAll_l54 G) 205 (711 + e) (nI 1) (nI 16) (jz_I h q)) P
      obtain ⟨w1, w2, w3, w4⟩ := hW
      unfold F_Mod_putsAll_c54
      simp (disch := omega) only [↓dK_205 hL, ↓dG_205 hL, ↓dP_205 hL, ↓dZ_205 hL (x := nI 0) (Or.inl rfl), ↓dZ_205 hL (x := nI 1) (Or.inr rfl), ↓dZ_205 hL (Or.inl rfl), ↓dZ_205 hL (Or.inr rfl), ↓dZ_205 hL (nB_01 _), ↓reduceIte, ↓kq_bi, ↓kq_let, ↓kq_rz0, ↓kq_rz1, ↓kq_rzB, ↓Option.bind_some, kq_dvn, kt_lt, kf_lt, kt_eq, kf_eq, decide_true, decide_false, eq_self, Bool.false_eq_true, Bool.true_eq_false, not_true_eq_false, not_false_eq_true, jU_eq, jU_ne, jU_U, jV_eq, jV_ne, jV_V, kn_lit, kn_add, kn_mul, kn_sdm, kn_sub, kn_div, kn_nsdm, kn_lt, kn_eq, kn_pred, kn_m1, kn_m1', kn_a31, kn_shl, kn_shr, kn_bit, nB_0, nB_1, nB_t, nB_f, Nat.zero_add, Nat.add_zero, Nat.reduceAdd, Nat.reduceMul, Nat.reduceSub, Nat.reducePow]
      exact jW_s (hP q ⟨by rw [w2 40 (by omega)]; exact v2, fun k hk => by rw [w4 691 (by omega) (by omega)]; exact v4 k hk, w3, fun f hf hf2 => by rw [w2 f hf]; exact v3 f hf hf2, fun a a1 a2 a3 => by rw [w4 a a1 a3]; exact v5 a a1 a2⟩)
end

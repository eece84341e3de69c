/-! PLAIN LEAN, 44: towns; the reference knows a clause -/
theorem s_w_inj0 : ∀ k, k < 16 → ∀ j, j < 16 → s_w k = s_w j → k = j := by decide
section
variable {t u l m b c : Nat} {h : LH} {I J K : Nat → Nat → Int32} {δ : JTn} {tp : Nat → Nat} {n j k : Nat} {y : JTs} {x : Int32} {X : LH} {v : Nat → Nat} {d : Bool}
theorem s_isk_dj (hk : s_isk tp n y k = true) (k1 : k < 16) (j1 : j < 16) (hne : ¬ k = j) : s_isk tp n y j = false := by
  cases e : s_isk tp n y j
  · rfl
  · exact absurd (s_w_inj0 k k1 j j1 ((of_decide_eq_true hk).2.symm.trans (of_decide_eq_true e).2)) hne
theorem m_kindHere (hL : jLay t u l m b c h) (hT : jTM J tp n y) : ∃ K, F_Mod_kindHere 205 (jz_I h J) = some (nO (s_knd tp n y), jz_I h K) ∧ jTM K tp n y ∧ (y.2.1 = 0 → K 205 4 = nI (s_skp c_bl tp n y.1)) ∧ jM1 J K := by
  refine jE_i (fun P hP => ?_)
  unfold F_Mod_kindHere
  have M0 : jM1 J J := jM1_r
  have T0 := hT
  simp (disch := omega) only [F_Mod_kindHere_b112, ↓dK_205 hL, ↓dG_205 hL, ↓dP_205 hL, ↓dZ_205 hL (x := nI 0) (Or.inl rfl), ↓dZ_205 hL (x := nI 1) (Or.inr rfl), ↓dZ_205 hL (Or.inl rfl), ↓dZ_205 hL (Or.inr rfl), ↓dZ_205 hL (nB_01 _), ↓reduceIte, ↓kq_bi, ↓kq_let, ↓kq_rz0, ↓kq_rz1, ↓kq_rzB, ↓Option.bind_some, kq_dvn, kt_lt, kf_lt, kt_eq, kf_eq, decide_true, decide_false, eq_self, Bool.false_eq_true, Bool.true_eq_false, not_true_eq_false, not_false_eq_true, jU_eq, jU_ne, jU_U, jV_eq, jV_ne, jV_V, kn_lit, kn_add, kn_mul, kn_sdm, kn_sub, kn_div, kn_nsdm, kn_lt, kn_eq, kn_pred, kn_m1, kn_m1', kn_a31, kn_shl, kn_shr, kn_bit, nB_0, nB_1, nB_t, nB_f, Nat.zero_add, Nat.add_zero, Nat.reduceAdd, Nat.reduceMul, Nat.reduceSub, Nat.reducePow]
  refine jW_bi (m_isWord hL T0 (k := 1) (by omega) six_1) (fun K1 hK => ?_)
  obtain ⟨T1, A1, Q1⟩ := hK
  have M1 := jM1_trans M0 Q1
  cases g1 : s_isk tp n y 1
  case true =>
    have ek : s_knd tp n y = some 0 := by unfold s_knd; rw [if_pos g1]
    rw [ek, nO_some] at hP
    simp (disch := omega) only [F_Mod_kindHere_b112, ↓dK_205 hL, ↓dG_205 hL, ↓dP_205 hL, ↓dZ_205 hL (x := nI 0) (Or.inl rfl), ↓dZ_205 hL (x := nI 1) (Or.inr rfl), ↓dZ_205 hL (Or.inl rfl), ↓dZ_205 hL (Or.inr rfl), ↓dZ_205 hL (nB_01 _), ↓reduceIte, ↓kq_bi, ↓kq_let, ↓kq_rz0, ↓kq_rz1, ↓kq_rzB, ↓Option.bind_some, kq_dvn, kt_lt, kf_lt, kt_eq, kf_eq, decide_true, decide_false, eq_self, Bool.false_eq_true, Bool.true_eq_false, not_true_eq_false, not_false_eq_true, jU_eq, jU_ne, jU_U, jV_eq, jV_ne, jV_V, kn_lit, kn_add, kn_mul, kn_sdm, kn_sub, kn_div, kn_nsdm, kn_lt, kn_eq, kn_pred, kn_m1, kn_m1', kn_a31, kn_shl, kn_shr, kn_bit, nB_0, nB_1, nB_t, nB_f, Nat.zero_add, Nat.add_zero, Nat.reduceAdd, Nat.reduceMul, Nat.reduceSub, Nat.reducePow]
    exact jW_s (hP K1 ⟨T1, A1, M1⟩)
  simp (disch := omega) only [F_Mod_kindHere_b112, ↓dK_205 hL, ↓dG_205 hL, ↓dP_205 hL, ↓dZ_205 hL (x := nI 0) (Or.inl rfl), ↓dZ_205 hL (x := nI 1) (Or.inr rfl), ↓dZ_205 hL (Or.inl rfl), ↓dZ_205 hL (Or.inr rfl), ↓dZ_205 hL (nB_01 _), ↓reduceIte, ↓kq_bi, ↓kq_let, ↓kq_rz0, ↓kq_rz1, ↓kq_rzB, ↓Option.bind_some, kq_dvn, kt_lt, kf_lt, kt_eq, kf_eq, decide_true, decide_false, eq_self, Bool.false_eq_true, Bool.true_eq_false, not_true_eq_false, not_false_eq_true, jU_eq, jU_ne, jU_U, jV_eq, jV_ne, jV_V, kn_lit, kn_add, kn_mul, kn_sdm, kn_sub, kn_div, kn_nsdm, kn_lt, kn_eq, kn_pred, kn_m1, kn_m1', kn_a31, kn_shl, kn_shr, kn_bit, nB_0, nB_1, nB_t, nB_f, Nat.zero_add, Nat.add_zero, Nat.reduceAdd, Nat.reduceMul, Nat.reduceSub, Nat.reducePow]
  refine jW_bi (m_isWord hL T1 (k := 2) (by omega) six_2) (fun K2 hK => ?_)
  obtain ⟨T2, A2, Q2⟩ := hK
  have M2 := jM1_trans M1 Q2
  cases g2 : s_isk tp n y 2
  case true =>
    have ek : s_knd tp n y = some 1 := by unfold s_knd; rw [if_neg (show ¬ s_isk tp n y 1 = true by rw [g1]; decide), if_pos g2]
    rw [ek, nO_some] at hP
    simp (disch := omega) only [F_Mod_kindHere_b112, ↓dK_205 hL, ↓dG_205 hL, ↓dP_205 hL, ↓dZ_205 hL (x := nI 0) (Or.inl rfl), ↓dZ_205 hL (x := nI 1) (Or.inr rfl), ↓dZ_205 hL (Or.inl rfl), ↓dZ_205 hL (Or.inr rfl), ↓dZ_205 hL (nB_01 _), ↓reduceIte, ↓kq_bi, ↓kq_let, ↓kq_rz0, ↓kq_rz1, ↓kq_rzB, ↓Option.bind_some, kq_dvn, kt_lt, kf_lt, kt_eq, kf_eq, decide_true, decide_false, eq_self, Bool.false_eq_true, Bool.true_eq_false, not_true_eq_false, not_false_eq_true, jU_eq, jU_ne, jU_U, jV_eq, jV_ne, jV_V, kn_lit, kn_add, kn_mul, kn_sdm, kn_sub, kn_div, kn_nsdm, kn_lt, kn_eq, kn_pred, kn_m1, kn_m1', kn_a31, kn_shl, kn_shr, kn_bit, nB_0, nB_1, nB_t, nB_f, Nat.zero_add, Nat.add_zero, Nat.reduceAdd, Nat.reduceMul, Nat.reduceSub, Nat.reducePow]
    exact jW_s (hP K2 ⟨T2, A2, M2⟩)
  simp (disch := omega) only [F_Mod_kindHere_b112, ↓dK_205 hL, ↓dG_205 hL, ↓dP_205 hL, ↓dZ_205 hL (x := nI 0) (Or.inl rfl), ↓dZ_205 hL (x := nI 1) (Or.inr rfl), ↓dZ_205 hL (Or.inl rfl), ↓dZ_205 hL (Or.inr rfl), ↓dZ_205 hL (nB_01 _), ↓reduceIte, ↓kq_bi, ↓kq_let, ↓kq_rz0, ↓kq_rz1, ↓kq_rzB, ↓Option.bind_some, kq_dvn, kt_lt, kf_lt, kt_eq, kf_eq, decide_true, decide_false, eq_self, Bool.false_eq_true, Bool.true_eq_false, not_true_eq_false, not_false_eq_true, jU_eq, jU_ne, jU_U, jV_eq, jV_ne, jV_V, kn_lit, kn_add, kn_mul, kn_sdm, kn_sub, kn_div, kn_nsdm, kn_lt, kn_eq, kn_pred, kn_m1, kn_m1', kn_a31, kn_shl, kn_shr, kn_bit, nB_0, nB_1, nB_t, nB_f, Nat.zero_add, Nat.add_zero, Nat.reduceAdd, Nat.reduceMul, Nat.reduceSub, Nat.reducePow]
  refine jW_bi (m_isWord hL T2 (k := 5) (by omega) six_5) (fun K3 hK => ?_)
  obtain ⟨T3, A3, Q3⟩ := hK
  have M3 := jM1_trans M2 Q3
  cases g5 : s_isk tp n y 5
  case true =>
    have ek : s_knd tp n y = some 2 := by unfold s_knd; rw [if_neg (show ¬ s_isk tp n y 1 = true by rw [g1]; decide), if_neg (show ¬ s_isk tp n y 2 = true by rw [g2]; decide), if_neg (show ¬ s_isk tp n y 3 = true by rw [s_isk_dj g5 (j := 3) (by omega) (by omega) (by omega)]; decide), if_neg (show ¬ s_isk tp n y 4 = true by rw [s_isk_dj g5 (j := 4) (by omega) (by omega) (by omega)]; decide), if_pos g5]
    rw [ek, nO_some] at hP
    simp (disch := omega) only [F_Mod_kindHere_b112, ↓dK_205 hL, ↓dG_205 hL, ↓dP_205 hL, ↓dZ_205 hL (x := nI 0) (Or.inl rfl), ↓dZ_205 hL (x := nI 1) (Or.inr rfl), ↓dZ_205 hL (Or.inl rfl), ↓dZ_205 hL (Or.inr rfl), ↓dZ_205 hL (nB_01 _), ↓reduceIte, ↓kq_bi, ↓kq_let, ↓kq_rz0, ↓kq_rz1, ↓kq_rzB, ↓Option.bind_some, kq_dvn, kt_lt, kf_lt, kt_eq, kf_eq, decide_true, decide_false, eq_self, Bool.false_eq_true, Bool.true_eq_false, not_true_eq_false, not_false_eq_true, jU_eq, jU_ne, jU_U, jV_eq, jV_ne, jV_V, kn_lit, kn_add, kn_mul, kn_sdm, kn_sub, kn_div, kn_nsdm, kn_lt, kn_eq, kn_pred, kn_m1, kn_m1', kn_a31, kn_shl, kn_shr, kn_bit, nB_0, nB_1, nB_t, nB_f, Nat.zero_add, Nat.add_zero, Nat.reduceAdd, Nat.reduceMul, Nat.reduceSub, Nat.reducePow]
    exact jW_s (hP K3 ⟨T3, A3, M3⟩)
  simp (disch := omega) only [F_Mod_kindHere_b112, ↓dK_205 hL, ↓dG_205 hL, ↓dP_205 hL, ↓dZ_205 hL (x := nI 0) (Or.inl rfl), ↓dZ_205 hL (x := nI 1) (Or.inr rfl), ↓dZ_205 hL (Or.inl rfl), ↓dZ_205 hL (Or.inr rfl), ↓dZ_205 hL (nB_01 _), ↓reduceIte, ↓kq_bi, ↓kq_let, ↓kq_rz0, ↓kq_rz1, ↓kq_rzB, ↓Option.bind_some, kq_dvn, kt_lt, kf_lt, kt_eq, kf_eq, decide_true, decide_false, eq_self, Bool.false_eq_true, Bool.true_eq_false, not_true_eq_false, not_false_eq_true, jU_eq, jU_ne, jU_U, jV_eq, jV_ne, jV_V, kn_lit, kn_add, kn_mul, kn_sdm, kn_sub, kn_div, kn_nsdm, kn_lt, kn_eq, kn_pred, kn_m1, kn_m1', kn_a31, kn_shl, kn_shr, kn_bit, nB_0, nB_1, nB_t, nB_f, Nat.zero_add, Nat.add_zero, Nat.reduceAdd, Nat.reduceMul, Nat.reduceSub, Nat.reducePow]
  refine jW_bi (m_isWord hL T3 (k := 6) (by omega) six_6) (fun K4 hK => ?_)
  obtain ⟨T4, A4, Q4⟩ := hK
  have M4 := jM1_trans M3 Q4
  cases g6 : s_isk tp n y 6
  case true =>
    have ek : s_knd tp n y = some 3 := by unfold s_knd; rw [if_neg (show ¬ s_isk tp n y 1 = true by rw [g1]; decide), if_neg (show ¬ s_isk tp n y 2 = true by rw [g2]; decide), if_neg (show ¬ s_isk tp n y 3 = true by rw [s_isk_dj g6 (j := 3) (by omega) (by omega) (by omega)]; decide), if_neg (show ¬ s_isk tp n y 4 = true by rw [s_isk_dj g6 (j := 4) (by omega) (by omega) (by omega)]; decide), if_neg (show ¬ s_isk tp n y 5 = true by rw [g5]; decide), if_pos g6]
    rw [ek, nO_some] at hP
    simp (disch := omega) only [F_Mod_kindHere_b112, ↓dK_205 hL, ↓dG_205 hL, ↓dP_205 hL, ↓dZ_205 hL (x := nI 0) (Or.inl rfl), ↓dZ_205 hL (x := nI 1) (Or.inr rfl), ↓dZ_205 hL (Or.inl rfl), ↓dZ_205 hL (Or.inr rfl), ↓dZ_205 hL (nB_01 _), ↓reduceIte, ↓kq_bi, ↓kq_let, ↓kq_rz0, ↓kq_rz1, ↓kq_rzB, ↓Option.bind_some, kq_dvn, kt_lt, kf_lt, kt_eq, kf_eq, decide_true, decide_false, eq_self, Bool.false_eq_true, Bool.true_eq_false, not_true_eq_false, not_false_eq_true, jU_eq, jU_ne, jU_U, jV_eq, jV_ne, jV_V, kn_lit, kn_add, kn_mul, kn_sdm, kn_sub, kn_div, kn_nsdm, kn_lt, kn_eq, kn_pred, kn_m1, kn_m1', kn_a31, kn_shl, kn_shr, kn_bit, nB_0, nB_1, nB_t, nB_f, Nat.zero_add, Nat.add_zero, Nat.reduceAdd, Nat.reduceMul, Nat.reduceSub, Nat.reducePow]
    exact jW_s (hP K4 ⟨T4, A4, M4⟩)
  simp (disch := omega) only [F_Mod_kindHere_b112, ↓dK_205 hL, ↓dG_205 hL, ↓dP_205 hL, ↓dZ_205 hL (x := nI 0) (Or.inl rfl), ↓dZ_205 hL (x := nI 1) (Or.inr rfl), ↓dZ_205 hL (Or.inl rfl), ↓dZ_205 hL (Or.inr rfl), ↓dZ_205 hL (nB_01 _), ↓reduceIte, ↓kq_bi, ↓kq_let, ↓kq_rz0, ↓kq_rz1, ↓kq_rzB, ↓Option.bind_some, kq_dvn, kt_lt, kf_lt, kt_eq, kf_eq, decide_true, decide_false, eq_self, Bool.false_eq_true, Bool.true_eq_false, not_true_eq_false, not_false_eq_true, jU_eq, jU_ne, jU_U, jV_eq, jV_ne, jV_V, kn_lit, kn_add, kn_mul, kn_sdm, kn_sub, kn_div, kn_nsdm, kn_lt, kn_eq, kn_pred, kn_m1, kn_m1', kn_a31, kn_shl, kn_shr, kn_bit, nB_0, nB_1, nB_t, nB_f, Nat.zero_add, Nat.add_zero, Nat.reduceAdd, Nat.reduceMul, Nat.reduceSub, Nat.reducePow]
  refine jW_bi (m_isWord hL T4 (k := 3) (by omega) six_3) (fun K5 hK => ?_)
  obtain ⟨T5, A5, Q5⟩ := hK
  have M5 := jM1_trans M4 Q5
  cases g3 : s_isk tp n y 3
  case true =>
    have ek : s_knd tp n y = some 4 := by unfold s_knd; rw [if_neg (show ¬ s_isk tp n y 1 = true by rw [g1]; decide), if_neg (show ¬ s_isk tp n y 2 = true by rw [g2]; decide), if_pos g3]
    rw [ek, nO_some] at hP
    simp (disch := omega) only [F_Mod_kindHere_b112, ↓dK_205 hL, ↓dG_205 hL, ↓dP_205 hL, ↓dZ_205 hL (x := nI 0) (Or.inl rfl), ↓dZ_205 hL (x := nI 1) (Or.inr rfl), ↓dZ_205 hL (Or.inl rfl), ↓dZ_205 hL (Or.inr rfl), ↓dZ_205 hL (nB_01 _), ↓reduceIte, ↓kq_bi, ↓kq_let, ↓kq_rz0, ↓kq_rz1, ↓kq_rzB, ↓Option.bind_some, kq_dvn, kt_lt, kf_lt, kt_eq, kf_eq, decide_true, decide_false, eq_self, Bool.false_eq_true, Bool.true_eq_false, not_true_eq_false, not_false_eq_true, jU_eq, jU_ne, jU_U, jV_eq, jV_ne, jV_V, kn_lit, kn_add, kn_mul, kn_sdm, kn_sub, kn_div, kn_nsdm, kn_lt, kn_eq, kn_pred, kn_m1, kn_m1', kn_a31, kn_shl, kn_shr, kn_bit, nB_0, nB_1, nB_t, nB_f, Nat.zero_add, Nat.add_zero, Nat.reduceAdd, Nat.reduceMul, Nat.reduceSub, Nat.reducePow]
    exact jW_s (hP K5 ⟨T5, A5, M5⟩)
  simp (disch := omega) only [F_Mod_kindHere_b112, ↓dK_205 hL, ↓dG_205 hL, ↓dP_205 hL, ↓dZ_205 hL (x := nI 0) (Or.inl rfl), ↓dZ_205 hL (x := nI 1) (Or.inr rfl), ↓dZ_205 hL (Or.inl rfl), ↓dZ_205 hL (Or.inr rfl), ↓dZ_205 hL (nB_01 _), ↓reduceIte, ↓kq_bi, ↓kq_let, ↓kq_rz0, ↓kq_rz1, ↓kq_rzB, ↓Option.bind_some, kq_dvn, kt_lt, kf_lt, kt_eq, kf_eq, decide_true, decide_false, eq_self, Bool.false_eq_true, Bool.true_eq_false, not_true_eq_false, not_false_eq_true, jU_eq, jU_ne, jU_U, jV_eq, jV_ne, jV_V, kn_lit, kn_add, kn_mul, kn_sdm, kn_sub, kn_div, kn_nsdm, kn_lt, kn_eq, kn_pred, kn_m1, kn_m1', kn_a31, kn_shl, kn_shr, kn_bit, nB_0, nB_1, nB_t, nB_f, Nat.zero_add, Nat.add_zero, Nat.reduceAdd, Nat.reduceMul, Nat.reduceSub, Nat.reducePow]
  refine jW_bi (m_isWord hL T5 (k := 4) (by omega) six_4) (fun K6 hK => ?_)
  obtain ⟨T6, A6, Q6⟩ := hK
  have M6 := jM1_trans M5 Q6
  cases g4 : s_isk tp n y 4
  case true =>
    have ek : s_knd tp n y = some 5 := by unfold s_knd; rw [if_neg (show ¬ s_isk tp n y 1 = true by rw [g1]; decide), if_neg (show ¬ s_isk tp n y 2 = true by rw [g2]; decide), if_neg (show ¬ s_isk tp n y 3 = true by rw [g3]; decide), if_pos g4]
    rw [ek, nO_some] at hP
    simp (disch := omega) only [F_Mod_kindHere_b112, ↓dK_205 hL, ↓dG_205 hL, ↓dP_205 hL, ↓dZ_205 hL (x := nI 0) (Or.inl rfl), ↓dZ_205 hL (x := nI 1) (Or.inr rfl), ↓dZ_205 hL (Or.inl rfl), ↓dZ_205 hL (Or.inr rfl), ↓dZ_205 hL (nB_01 _), ↓reduceIte, ↓kq_bi, ↓kq_let, ↓kq_rz0, ↓kq_rz1, ↓kq_rzB, ↓Option.bind_some, kq_dvn, kt_lt, kf_lt, kt_eq, kf_eq, decide_true, decide_false, eq_self, Bool.false_eq_true, Bool.true_eq_false, not_true_eq_false, not_false_eq_true, jU_eq, jU_ne, jU_U, jV_eq, jV_ne, jV_V, kn_lit, kn_add, kn_mul, kn_sdm, kn_sub, kn_div, kn_nsdm, kn_lt, kn_eq, kn_pred, kn_m1, kn_m1', kn_a31, kn_shl, kn_shr, kn_bit, nB_0, nB_1, nB_t, nB_f, Nat.zero_add, Nat.add_zero, Nat.reduceAdd, Nat.reduceMul, Nat.reduceSub, Nat.reducePow]
    exact jW_s (hP K6 ⟨T6, A6, M6⟩)
  have ek : s_knd tp n y = none := by unfold s_knd; rw [if_neg (show ¬ s_isk tp n y 1 = true by rw [g1]; decide), if_neg (show ¬ s_isk tp n y 2 = true by rw [g2]; decide), if_neg (show ¬ s_isk tp n y 3 = true by rw [g3]; decide), if_neg (show ¬ s_isk tp n y 4 = true by rw [g4]; decide), if_neg (show ¬ s_isk tp n y 5 = true by rw [g5]; decide), if_neg (show ¬ s_isk tp n y 6 = true by rw [g6]; decide)]
  rw [ek, nO_none] at hP
  simp (disch := omega) only [F_Mod_kindHere_b112, ↓dK_205 hL, ↓dG_205 hL, ↓dP_205 hL, ↓dZ_205 hL (x := nI 0) (Or.inl rfl), ↓dZ_205 hL (x := nI 1) (Or.inr rfl), ↓dZ_205 hL (Or.inl rfl), ↓dZ_205 hL (Or.inr rfl), ↓dZ_205 hL (nB_01 _), ↓reduceIte, ↓kq_bi, ↓kq_let, ↓kq_rz0, ↓kq_rz1, ↓kq_rzB, ↓Option.bind_some, kq_dvn, kt_lt, kf_lt, kt_eq, kf_eq, decide_true, decide_false, eq_self, Bool.false_eq_true, Bool.true_eq_false, not_true_eq_false, not_false_eq_true, jU_eq, jU_ne, jU_U, jV_eq, jV_ne, jV_V, kn_lit, kn_add, kn_mul, kn_sdm, kn_sub, kn_div, kn_nsdm, kn_lt, kn_eq, kn_pred, kn_m1, kn_m1', kn_a31, kn_shl, kn_shr, kn_bit, nB_0, nB_1, nB_t, nB_f, Nat.zero_add, Nat.add_zero, Nat.reduceAdd, Nat.reduceMul, Nat.reduceSub, Nat.reducePow]
  exact jW_s (hP K6 ⟨T6, A6, M6⟩)
theorem m_mostOf (hj : j < 6) : F_Mod_mostOf (nI j) X = some (nI (s_cap j), X) := by
  rcases (show j = 0 ∨ j = 1 ∨ j = 2 ∨ j = 3 ∨ j = 4 ∨ j = 5 by omega) with rfl | rfl | rfl | rfl | rfl | rfl <;> rfl
theorem jTM_U (hT : jTM J tp n y) {a : Nat} (ha : 206 < a) {f : Nat → Int32} : jTM (jU J a f) tp n y := by
  obtain ⟨⟨b2, bn, bt, b256⟩, hy, h56, hq⟩ := hT
  exact ⟨⟨by rw [jU_ne (by omega)]; exact b2, bn, fun k hk => by rw [jU_ne (by omega)]; exact bt k hk, b256⟩, hy, ⟨by rw [jU_ne (by omega)]; exact h56.1, by rw [jU_ne (by omega)]; exact h56.2⟩, by rw [jU_ne (by omega)]; exact hq⟩
/-- the end of a clause -/
theorem m_b292 (hL : jLay t u l m b c h) (hT : jTM J tp n y) (hj : j < 6) {q : Nat} (hq : q ≤ 30) (hc : J 208 j = nI q) : ∃ K, F_Mod_clause_b292 205 (nI j) (jz_I h J) = some (jz_I h K) ∧ jTM K tp n (s_nd tp n 59 y) ∧ K 208 = jV (J 208) j (nI (if y.2.1 = 0 then q + 1 else q)) ∧ (∀ f, ¬ f = 4 → ¬ f = 5 → ¬ f = 6 → K 205 f = J 205 f) ∧ ∀ a, ¬ a = 205 → ¬ a = 208 → K a = J a := by
  have h5 := hT.2.2.1.1
  have y2 := hT.2.1.2.1
  refine jE_n (fun P hP => ?_)
  unfold F_Mod_clause_b292
  by_cases h0 : y.2.1 = 0
  · rw [if_pos h0] at hP
    rw [h0] at h5
    simp (disch := omega) only [hc, h5, F_Mod_clause_b311, ↓dK_205 hL, ↓dG_205 hL, ↓dP_205 hL, ↓dZ_205 hL (x := nI 0) (Or.inl rfl), ↓dZ_205 hL (x := nI 1) (Or.inr rfl), ↓dZ_205 hL (Or.inl rfl), ↓dZ_205 hL (Or.inr rfl), ↓dZ_205 hL (nB_01 _), ↓dR_205_11 hL, dI_208 hL, dS_208 hL, ↓reduceIte, ↓kq_bi, ↓kq_let, ↓kq_rz0, ↓kq_rz1, ↓kq_rzB, ↓Option.bind_some, kq_dvn, kt_lt, kf_lt, kt_eq, kf_eq, decide_true, decide_false, eq_self, Bool.false_eq_true, Bool.true_eq_false, not_true_eq_false, not_false_eq_true, jU_eq, jU_ne, jU_U, jV_eq, jV_ne, jV_V, kn_lit, kn_add, kn_mul, kn_sdm, kn_sub, kn_div, kn_nsdm, kn_lt, kn_eq, kn_pred, kn_m1, kn_m1', kn_a31, kn_shl, kn_shr, kn_bit, nB_0, nB_1, nB_t, nB_f, Nat.zero_add, Nat.add_zero, Nat.reduceAdd, Nat.reduceMul, Nat.reduceSub, Nat.reducePow]
    refine jW_bn (m_sign hL (jTM_U hT (a := 208) (by omega)) (by omega)) (fun K hK => ?_)
    exact jW_s (hP K ⟨hK.1, by rw [hK.2.2 208 (by omega), jU_eq], fun f a1 a2 a3 => by rw [hK.2.1 f a1 a2 a3, jU_ne (by omega)], fun a a1 a2 => by rw [hK.2.2 a a1, jU_ne a2]⟩)
  · rw [if_neg h0] at hP
    simp (disch := omega) only [hc, h5, F_Mod_clause_b311, ↓dK_205 hL, ↓dG_205 hL, ↓dP_205 hL, ↓dZ_205 hL (x := nI 0) (Or.inl rfl), ↓dZ_205 hL (x := nI 1) (Or.inr rfl), ↓dZ_205 hL (Or.inl rfl), ↓dZ_205 hL (Or.inr rfl), ↓dZ_205 hL (nB_01 _), ↓dR_205_11 hL, dI_208 hL, dS_208 hL, ↓reduceIte, ↓kq_bi, ↓kq_let, ↓kq_rz0, ↓kq_rz1, ↓kq_rzB, ↓Option.bind_some, kq_dvn, kt_lt, kf_lt, kt_eq, kf_eq, decide_true, decide_false, eq_self, Bool.false_eq_true, Bool.true_eq_false, not_true_eq_false, not_false_eq_true, jU_eq, jU_ne, jU_U, jV_eq, jV_ne, jV_V, kn_lit, kn_add, kn_mul, kn_sdm, kn_sub, kn_div, kn_nsdm, kn_lt, kn_eq, kn_pred, kn_m1, kn_m1', kn_a31, kn_shl, kn_shr, kn_bit, nB_0, nB_1, nB_t, nB_f, Nat.zero_add, Nat.add_zero, Nat.reduceAdd, Nat.reduceMul, Nat.reduceSub, Nat.reducePow]
    refine jW_bn (m_sign hL (jTM_U hT (a := 208) (by omega)) (by omega)) (fun K hK => ?_)
    exact jW_s (hP K ⟨hK.1, by rw [hK.2.2 208 (by omega), jU_eq], fun f a1 a2 a3 => by rw [hK.2.1 f a1 a2 a3, jU_ne (by omega)], fun a a1 a2 => by rw [hK.2.2 a a1, jU_ne a2]⟩)
end

/-! PLAIN LEAN, 47: towns; the reference reads all clauses -/
section
variable {t u l m b c : Nat} {h : LH} {I J K : Nat → Nat → Int32} {δ : JTn} {tp : Nat → Nat} {n j k : Nat} {y : JTs} {x : Int32} {X : LH} {v : Nat → Nat} {d : Bool}
theorem m_bl2 (hL : jLay t u l m b c h) (hT : jTM J tp n y) : ∃ K, F_Mod_blanks 205 (jz_I h J) = some (jz_I h K) ∧ jTM K tp n y ∧ (y.2.1 = 0 → K 205 4 = nI (s_skp c_bl tp n y.1)) ∧ jM1 J K := by
  by_cases h0 : y.2.1 = 0
  · obtain ⟨K, e, k1, k2, k3⟩ := m_bl hL hT h0
    exact ⟨K, e, k1, fun _ => k2, k3⟩
  · obtain ⟨hB, hy, h56, q, q1, q2, -⟩ := hT
    have hM := jM1_V (K := J) (f := 4) (Or.inl rfl) (x := nI (s_skp c_bl tp n q))
    exact ⟨_, m_blanks hL hB q1 q2, ⟨jTB_M1 hB hM, hy, ⟨by rw [jU_eq, jV_ne (by omega)]; exact h56.1, by rw [jU_eq, jV_ne (by omega)]; exact h56.2⟩, s_skp c_bl tp n q, (s_skp_ge q1).2, by rw [jU_eq, jV_eq], fun z => absurd z h0⟩, fun z => absurd z h0, hM⟩
theorem jMD_M1 (hC : jMD J δ) (hD : jTD δ) (M1 : jM1 J K) : jMD K δ := ⟨fun i hi => by rw [M1.2 208 (by omega)]; exact hC.1 i hi, fun c k a1 a2 a3 => by
    have := s_ma_rg a1 a2 (Nat.lt_of_lt_of_le a3 (hD _ (s_kd_lt c (by omega))))
    rw [M1.2 _ (by omega)]; exact hC.2 c k a1 a2 a3⟩
theorem s_fa_0 {k w : Nat} (hk : 1 ≤ k) : ¬ (s_fa k w y).2.1 = 0 := by
  unfold s_fa
  split
  · show ¬ k = 0; omega
  · assumption
theorem s_cl_t : ¬ (s_cl tp n true δ y).2.2.1 = 0 := by
  cases e : s_knd tp n y with
  | none => rw [s_cl_n e]; exact s_fa_0 (by omega)
  | some j => rw [s_cl_f e (Or.inl rfl)]; exact s_fa_0 (by omega)
theorem s_nd_0 {ch : Nat} (h0 : (s_nd tp n ch y).2.1 = 0) : y.2.1 = 0 := by
  by_cases z : y.2.1 = 0
  · exact z
  · rw [s_nd_no z] at h0; exact absurd h0 z
theorem m_townL (hL : jLay t u l m b c h) (hT : jTM J tp n (0, 0, 0)) (h4 : J 205 4 = nI (s_skp c_bl tp n 0)) (h7 : J 205 7 = nI 0) (hC : jMD J (fun _ _ => 0)) {P : Int32 × LH → Prop} (hP : ∀ K, jTM K tp n (s_town tp n).2 ∧ ((s_town tp n).2.2.1 = 0 → jMD K (s_town tp n).1) ∧ jTD (s_town tp n).1 ∧ jMu J K → jW (F_Mod_town_b88 205 (jz_I h K)) P) : jW (F_Mod_town_l59 jF 205 (jz_I h J)) P := by
  refine jW_for0 (A := (Nat → Nat → Int32) × JTn × JTs) (f := fun fuel k s => F_Mod_town_l59 fuel 205 (jz_I h s.1)) 61 (fun k s => jTM s.1 tp n s.2.2 ∧ (s.2.2.2.1 = 0 → s.1 205 4 = nI (s_skp c_bl tp n s.2.2.1) ∧ jMD s.1 s.2.1 ∧ s.1 205 7 = nI k) ∧ jTD s.2.1 ∧ jMu J s.1 ∧ s_tw tp n (61 - k) k s.2 = s_town tp n ∧ (k = 61 → ¬ s.2.2.2.1 = 0)) (J, fun _ _ => 0, (0, 0, 0)) ⟨hT, fun _ => ⟨h4, hC, h7⟩, fun _ _ => Nat.zero_le _, ⟨fun _ _ _ _ _ => rfl, fun _ _ _ => rfl⟩, rfl, fun z => absurd z (by omega)⟩ (by omega) (fun F k s hk hV ih => ?_) (fun F s hV => ?_)
  · obtain ⟨v1, v2, v3, v4, v5, -⟩ := hV
    obtain ⟨J2, δ, y⟩ := s
    show jW (F_Mod_town_c59 (F_Mod_town_l59 F) 205 (jz_I h J2)) P
    have v1 : jTM J2 tp n y := v1
    have v2 : y.2.1 = 0 → J2 205 4 = nI (s_skp c_bl tp n y.1) ∧ jMD J2 δ ∧ J2 205 7 = nI k := v2
    have v3 : jTD δ := v3
    have v4 : jMu J J2 := v4
    rw [show 61 - k = (60 - k) + 1 by omega] at v5
    have v5 : (if s_nc tp n y = none then (δ, s_nx tp n y) else s_tw tp n (60 - k) (k + 1) ((s_cl tp n (decide (60 ≤ k)) δ (s_nx tp n y)).1, s_nd tp n 59 (s_cl tp n (decide (60 ≤ k)) δ (s_nx tp n y)).2)) = s_town tp n := v5
    have hy := v1.2.1
    have y2 := hy.2.1
    have hn := hy.2.2.2
    have h5 := v1.2.2.1.1
    have hs := v1.1.1
    have hp := (s_skp_ge (c := c_bl) (tp := tp) hy.1).2
    have enx2 : (s_nx tp n y).2 = y.2 := by unfold s_nx; split <;> rfl
    unfold F_Mod_town_c59
    by_cases h0 : y.2.1 = 0
    · obtain ⟨a4, aC, a7⟩ := v2 h0
      rw [h0] at h5
      by_cases z : s_skp c_bl tp n y.1 < n
      · rw [if_neg (show ¬ s_nc tp n y = none by rw [s_nc0 h0, show s_byt tp n (s_skp c_bl tp n y.1) = some _ from if_pos z]; intro a; cases a)] at v5
        simp (disch := omega) only [h5, a4, hs, ↓dK_205 hL, ↓dG_205 hL, ↓dP_205 hL, ↓dZ_205 hL (x := nI 0) (Or.inl rfl), ↓dZ_205 hL (x := nI 1) (Or.inr rfl), ↓dZ_205 hL (Or.inl rfl), ↓dZ_205 hL (Or.inr rfl), ↓dZ_205 hL (nB_01 _), ↓reduceIte, ↓kq_bi, ↓kq_let, ↓kq_rz0, ↓kq_rz1, ↓kq_rzB, ↓Option.bind_some, kq_dvn, kt_lt, kf_lt, kt_eq, kf_eq, decide_true, decide_false, eq_self, Bool.false_eq_true, Bool.true_eq_false, not_true_eq_false, not_false_eq_true, jU_eq, jU_ne, jU_U, jV_eq, jV_ne, jV_V, kn_lit, kn_add, kn_mul, kn_sdm, kn_sub, kn_div, kn_nsdm, kn_lt, kn_eq, kn_pred, kn_m1, kn_m1', kn_a31, kn_shl, kn_shr, kn_bit, nB_0, nB_1, nB_t, nB_f, Nat.zero_add, Nat.add_zero, Nat.reduceAdd, Nat.reduceMul, Nat.reduceSub, Nat.reducePow]
        refine jW_bn (m_clause hL (jTM_nx v1) (by rw [enx2]; exact h0) (cl := k) (by omega) a7 aC v3) (fun L hL' => ?_)
        obtain ⟨l1, l2, l3⟩ := hL'
        simp (disch := omega) only [↓dK_205 hL, ↓dG_205 hL, ↓dP_205 hL, ↓dZ_205 hL (x := nI 0) (Or.inl rfl), ↓dZ_205 hL (x := nI 1) (Or.inr rfl), ↓dZ_205 hL (Or.inl rfl), ↓dZ_205 hL (Or.inr rfl), ↓dZ_205 hL (nB_01 _), ↓reduceIte, ↓kq_bi, ↓kq_let, ↓kq_rz0, ↓kq_rz1, ↓kq_rzB, ↓Option.bind_some, kq_dvn, kt_lt, kf_lt, kt_eq, kf_eq, decide_true, decide_false, eq_self, Bool.false_eq_true, Bool.true_eq_false, not_true_eq_false, not_false_eq_true, jU_eq, jU_ne, jU_U, jV_eq, jV_ne, jV_V, kn_lit, kn_add, kn_mul, kn_sdm, kn_sub, kn_div, kn_nsdm, kn_lt, kn_eq, kn_pred, kn_m1, kn_m1', kn_a31, kn_shl, kn_shr, kn_bit, nB_0, nB_1, nB_t, nB_f, Nat.zero_add, Nat.add_zero, Nat.reduceAdd, Nat.reduceMul, Nat.reduceSub, Nat.reducePow]
        refine jW_bn (m_bl2 hL l1) (fun L2 hL2 => ?_)
        obtain ⟨c1, c2, c3⟩ := hL2
        refine ih (L2, (s_cl tp n (decide (60 ≤ k)) δ (s_nx tp n y)).1, s_nd tp n 59 (s_cl tp n (decide (60 ≤ k)) δ (s_nx tp n y)).2) ⟨c1, fun w => ?_, s_cl_D v3, jMu_trans v4 (jMu_trans l3 (jMu_M1 c3)), by rw [show 61 - (k + 1) = 60 - k by omega]; exact v5, fun w => ?_⟩
        · have w : (s_nd tp n 59 (s_cl tp n (decide (60 ≤ k)) δ (s_nx tp n y)).2).2.1 = 0 := w
          obtain ⟨d1, d2⟩ := l2 (s_nd_0 w)
          exact ⟨c2 w, jMD_M1 d1 (s_cl_D v3) c3, (c3.1 7 (by omega) (by omega) (by omega)).trans d2⟩
        · show ¬ (s_nd tp n 59 (s_cl tp n (decide (60 ≤ k)) δ (s_nx tp n y)).2).2.1 = 0
          rw [show decide (60 ≤ k) = true from decide_eq_true (by omega)]
          exact fun q => s_cl_t (s_nd_0 q)
      · rw [if_pos (show s_nc tp n y = none by rw [s_nc0 h0]; exact if_neg z)] at v5
        rw [← v5] at hP
        simp (disch := omega) only [h5, a4, hs, ↓dK_205 hL, ↓dG_205 hL, ↓dP_205 hL, ↓dZ_205 hL (x := nI 0) (Or.inl rfl), ↓dZ_205 hL (x := nI 1) (Or.inr rfl), ↓dZ_205 hL (Or.inl rfl), ↓dZ_205 hL (Or.inr rfl), ↓dZ_205 hL (nB_01 _), ↓reduceIte, ↓kq_bi, ↓kq_let, ↓kq_rz0, ↓kq_rz1, ↓kq_rzB, ↓Option.bind_some, kq_dvn, kt_lt, kf_lt, kt_eq, kf_eq, decide_true, decide_false, eq_self, Bool.false_eq_true, Bool.true_eq_false, not_true_eq_false, not_false_eq_true, jU_eq, jU_ne, jU_U, jV_eq, jV_ne, jV_V, kn_lit, kn_add, kn_mul, kn_sdm, kn_sub, kn_div, kn_nsdm, kn_lt, kn_eq, kn_pred, kn_m1, kn_m1', kn_a31, kn_shl, kn_shr, kn_bit, nB_0, nB_1, nB_t, nB_f, Nat.zero_add, Nat.add_zero, Nat.reduceAdd, Nat.reduceMul, Nat.reduceSub, Nat.reducePow]
        exact hP J2 ⟨jTM_nx v1, fun _ => aC, v3, v4⟩
    · rw [if_pos (show s_nc tp n y = none from if_neg (fun a => h0 a.1))] at v5
      rw [← v5] at hP
      simp (disch := omega) only [h5, ↓dK_205 hL, ↓dG_205 hL, ↓dP_205 hL, ↓dZ_205 hL (x := nI 0) (Or.inl rfl), ↓dZ_205 hL (x := nI 1) (Or.inr rfl), ↓dZ_205 hL (Or.inl rfl), ↓dZ_205 hL (Or.inr rfl), ↓dZ_205 hL (nB_01 _), ↓reduceIte, ↓kq_bi, ↓kq_let, ↓kq_rz0, ↓kq_rz1, ↓kq_rzB, ↓Option.bind_some, kq_dvn, kt_lt, kf_lt, kt_eq, kf_eq, decide_true, decide_false, eq_self, Bool.false_eq_true, Bool.true_eq_false, not_true_eq_false, not_false_eq_true, jU_eq, jU_ne, jU_U, jV_eq, jV_ne, jV_V, kn_lit, kn_add, kn_mul, kn_sdm, kn_sub, kn_div, kn_nsdm, kn_lt, kn_eq, kn_pred, kn_m1, kn_m1', kn_a31, kn_shl, kn_shr, kn_bit, nB_0, nB_1, nB_t, nB_f, Nat.zero_add, Nat.add_zero, Nat.reduceAdd, Nat.reduceMul, Nat.reduceSub, Nat.reducePow]
      exact hP J2 ⟨jTM_nx v1, fun z => absurd (by rw [← enx2]; exact z) h0, v3, v4⟩
  · obtain ⟨v1, v2, v3, v4, v5, v6⟩ := hV
    have v5 : s.2 = s_town tp n := v5
    have v6 := v6 rfl
    have h5 := v1.2.2.1.1
    have y2 := v1.2.1.2.1
    rw [← v5] at hP
    show jW (F_Mod_town_c59 (F_Mod_town_l59 F) 205 (jz_I h s.1)) P
    unfold F_Mod_town_c59
    simp (disch := omega) only [h5, ↓dK_205 hL, ↓dG_205 hL, ↓dP_205 hL, ↓dZ_205 hL (x := nI 0) (Or.inl rfl), ↓dZ_205 hL (x := nI 1) (Or.inr rfl), ↓dZ_205 hL (Or.inl rfl), ↓dZ_205 hL (Or.inr rfl), ↓dZ_205 hL (nB_01 _), ↓reduceIte, ↓kq_bi, ↓kq_let, ↓kq_rz0, ↓kq_rz1, ↓kq_rzB, ↓Option.bind_some, kq_dvn, kt_lt, kf_lt, kt_eq, kf_eq, decide_true, decide_false, eq_self, Bool.false_eq_true, Bool.true_eq_false, not_true_eq_false, not_false_eq_true, jU_eq, jU_ne, jU_U, jV_eq, jV_ne, jV_V, kn_lit, kn_add, kn_mul, kn_sdm, kn_sub, kn_div, kn_nsdm, kn_lt, kn_eq, kn_pred, kn_m1, kn_m1', kn_a31, kn_shl, kn_shr, kn_bit, nB_0, nB_1, nB_t, nB_f, Nat.zero_add, Nat.add_zero, Nat.reduceAdd, Nat.reduceMul, Nat.reduceSub, Nat.reducePow]
    exact hP s.1 ⟨v1, fun z => absurd z v6, v3, v4⟩
theorem m_townZ (hL : jLay t u l m b c h) (hT : jTM J tp n (0, 0, 0)) (h4 : J 205 4 = nI (s_skp c_bl tp n 0)) (h7 : J 205 7 = nI 0) {P : Int32 × LH → Prop} (hP : ∀ K, jTM K tp n (s_town tp n).2 ∧ ((s_town tp n).2.2.1 = 0 → jMD K (s_town tp n).1) ∧ jTD (s_town tp n).1 ∧ jMu J K → jW (F_Mod_town_b88 205 (jz_I h K)) P) : jW (F_Mod_town_l40 jF 205 (nI 0) (jz_I h J)) P := by
  refine jW_for0 (A := Nat → Nat → Int32) (f := fun fuel k s => F_Mod_town_l40 fuel 205 (nI k) (jz_I h s)) 6 (fun k s => (∀ i, i < k → s 208 i = nI 0) ∧ ∀ a, ¬ a = 208 → s a = J a) J ⟨fun i hi => absurd hi (Nat.not_lt_zero i), fun _ _ => rfl⟩ (by omega) (fun F k s hk hV ih => ?_) (fun F s hV => ?_)
  · show jW (F_Mod_town_c40 (F_Mod_town_l40 F) 205 (nI k) (jz_I h s)) P
    unfold F_Mod_town_c40
    simp (disch := omega) only [↓dK_205 hL, ↓dG_205 hL, ↓dP_205 hL, ↓dZ_205 hL (x := nI 0) (Or.inl rfl), ↓dZ_205 hL (x := nI 1) (Or.inr rfl), ↓dZ_205 hL (Or.inl rfl), ↓dZ_205 hL (Or.inr rfl), ↓dZ_205 hL (nB_01 _), ↓dR_205_11 hL, dI_208 hL, dS_208 hL, ↓reduceIte, ↓kq_bi, ↓kq_let, ↓kq_rz0, ↓kq_rz1, ↓kq_rzB, ↓Option.bind_some, kq_dvn, kt_lt, kf_lt, kt_eq, kf_eq, decide_true, decide_false, eq_self, Bool.false_eq_true, Bool.true_eq_false, not_true_eq_false, not_false_eq_true, jU_eq, jU_ne, jU_U, jV_eq, jV_ne, jV_V, kn_lit, kn_add, kn_mul, kn_sdm, kn_sub, kn_div, kn_nsdm, kn_lt, kn_eq, kn_pred, kn_m1, kn_m1', kn_a31, kn_shl, kn_shr, kn_bit, nB_0, nB_1, nB_t, nB_f, Nat.zero_add, Nat.add_zero, Nat.reduceAdd, Nat.reduceMul, Nat.reduceSub, Nat.reducePow]
    refine ih _ ⟨fun i hi => ?_, fun a ha => by rw [jU_ne ha]; exact hV.2 a ha⟩
    rw [jU_eq]
    by_cases z : i = k
    · rw [z, jV_eq]
    · rw [jV_ne z]; exact hV.1 i (by omega)
  · show jW (F_Mod_town_c40 (F_Mod_town_l40 F) 205 (nI 6) (jz_I h s)) P
    unfold F_Mod_town_c40
    simp (disch := omega) only [↓dK_205 hL, ↓dG_205 hL, ↓dP_205 hL, ↓dZ_205 hL (x := nI 0) (Or.inl rfl), ↓dZ_205 hL (x := nI 1) (Or.inr rfl), ↓dZ_205 hL (Or.inl rfl), ↓dZ_205 hL (Or.inr rfl), ↓dZ_205 hL (nB_01 _), ↓dR_205_11 hL, dI_208 hL, dS_208 hL, ↓reduceIte, ↓kq_bi, ↓kq_let, ↓kq_rz0, ↓kq_rz1, ↓kq_rzB, ↓Option.bind_some, kq_dvn, kt_lt, kf_lt, kt_eq, kf_eq, decide_true, decide_false, eq_self, Bool.false_eq_true, Bool.true_eq_false, not_true_eq_false, not_false_eq_true, jU_eq, jU_ne, jU_U, jV_eq, jV_ne, jV_V, kn_lit, kn_add, kn_mul, kn_sdm, kn_sub, kn_div, kn_nsdm, kn_lt, kn_eq, kn_pred, kn_m1, kn_m1', kn_a31, kn_shl, kn_shr, kn_bit, nB_0, nB_1, nB_t, nB_f, Nat.zero_add, Nat.add_zero, Nat.reduceAdd, Nat.reduceMul, Nat.reduceSub, Nat.reducePow]
    have e : ∀ a, ¬ a = 208 → s a = J a := hV.2
    obtain ⟨⟨b2, bn, bt, b256⟩, hy, h56, hq⟩ := hT
    refine m_townL hL ⟨⟨by rw [e 205 (by omega)]; exact b2, bn, fun k hk => by rw [e 206 (by omega)]; exact bt k hk, b256⟩, hy, by rw [e 205 (by omega)]; exact h56, by rw [e 205 (by omega)]; exact hq⟩ (by rw [e 205 (by omega)]; exact h4) (by rw [e 205 (by omega)]; exact h7) ⟨hV.1, fun c k _ _ a => absurd a (Nat.not_lt_zero k)⟩ (fun K hK => hP K ⟨hK.1, hK.2.1, hK.2.2.1, jMu_trans ⟨fun f _ _ _ _ => by rw [e 205 (by omega)], fun a _ a2 => e a (fun z => a2 (Or.inl z))⟩ hK.2.2.2⟩)
end

/-! PLAIN LEAN, 46: towns; the reference reads a town -/
section
variable {t u l m b c : Nat} {h : LH} {I J K : Nat → Nat → Int32} {δ : JTn} {tp : Nat → Nat} {n j k : Nat} {y : JTs} {x : Int32} {X : LH} {v : Nat → Nat} {d : Bool}
theorem jTM_fl {a w f : Nat} (hT : jTM J tp n (a, f, w)) (hf : ¬ f = 0) {a' : Nat} (ha : a' ≤ n) : jTM J tp n (a', f, w) := by
  obtain ⟨hB, hy, h56, q, q1, q2, -⟩ := hT
  exact ⟨hB, ⟨ha, hy.2⟩, h56, q, q1, q2, fun z => absurd z hf⟩
theorem s_nd_no {ch : Nat} (h0 : ¬ y.2.1 = 0) : s_nd tp n ch y = y := by
  have ey : s_nx tp n y = y := if_neg h0
  unfold s_nd
  rw [s_tk_no h0, if_neg (show ¬ false = true by decide), ey]
  exact if_neg h0
theorem m_clause (hL : jLay t u l m b c h) (hT : jTM J tp n y) (h0 : y.2.1 = 0) {cl : Nat} (hcl : cl ≤ 60) (h7 : J 205 7 = nI cl) (hC : jMD J δ) (hD : jTD δ) : ∃ K, F_Mod_clause 205 (jz_I h J) = some (jz_I h K) ∧ jTM K tp n (s_nd tp n 59 (s_cl tp n (decide (60 ≤ cl)) δ y).2) ∧ ((s_cl tp n (decide (60 ≤ cl)) δ y).2.2.1 = 0 → jMD K (s_cl tp n (decide (60 ≤ cl)) δ y).1 ∧ K 205 7 = nI (cl + 1)) ∧ jMu J K := by
  have hy := hT.2.1
  refine jE_n (fun P hP => ?_)
  unfold F_Mod_clause
  simp (disch := omega) only [↓dK_205 hL, ↓dG_205 hL, ↓dP_205 hL, ↓dZ_205 hL (x := nI 0) (Or.inl rfl), ↓dZ_205 hL (x := nI 1) (Or.inr rfl), ↓dZ_205 hL (Or.inl rfl), ↓dZ_205 hL (Or.inr rfl), ↓dZ_205 hL (nB_01 _), ↓reduceIte, ↓kq_bi, ↓kq_let, ↓kq_rz0, ↓kq_rz1, ↓kq_rzB, ↓Option.bind_some, kq_dvn, kt_lt, kf_lt, kt_eq, kf_eq, decide_true, decide_false, eq_self, Bool.false_eq_true, Bool.true_eq_false, not_true_eq_false, not_false_eq_true, jU_eq, jU_ne, jU_U, jV_eq, jV_ne, jV_V, kn_lit, kn_add, kn_mul, kn_sdm, kn_sub, kn_div, kn_nsdm, kn_lt, kn_eq, kn_pred, kn_m1, kn_m1', kn_a31, kn_shl, kn_shr, kn_bit, nB_0, nB_1, nB_t, nB_f, Nat.zero_add, Nat.add_zero, Nat.reduceAdd, Nat.reduceMul, Nat.reduceSub, Nat.reducePow]
  refine jW_bi (m_kindHere hL hT) (fun K hK => ?_)
  obtain ⟨T1, A1, M1⟩ := hK
  have A1 := A1 h0
  have hp := (s_skp_ge (c := c_bl) (tp := tp) hy.1).2
  have hwd : (s_wd tp n y).1 ≤ n := (s_wd_y hy).1
  have ewd : s_wd tp n y = (s_p1 c_sm tp n y, y.2) := if_pos h0
  have enx : s_nx tp n y = (s_skp c_bl tp n y.1, y.2) := if_pos h0
  have efa : ∀ k w, s_fa k w (s_wd tp n y) = ((s_wd tp n y).1, k, w) := fun k w => by rw [ewd]; exact if_pos h0
  have efy : ∀ k w, s_fa k w y = (y.1, k, w) := fun k w => if_pos h0
  have fault : ∀ k, 1 ≤ k → k ≤ 3 → s_cl tp n (decide (60 ≤ cl)) δ y = (δ, s_fa k (s_nx tp n y).1 (s_wd tp n y)) → ∀ jj, jW ((F_Mod_wrong 205 (nI k) (nI (s_skp c_bl tp n y.1)) (jz_I h K)).bind fun h2 => F_Mod_clause_b53 205 jj h2) P := fun k hk1 hk3 e jj => by
    rw [e, efa, enx] at hP
    refine jW_bn (m_wrong hL T1 hk1 hk3 hp) (fun L hL' => ?_)
    obtain ⟨l1, -, lM⟩ := hL'
    rw [efy] at l1
    have l5 : L 205 5 = nI k := l1.2.2.1.1
    unfold F_Mod_clause_b53
    simp (disch := omega) only [l5, ↓dK_205 hL, ↓dG_205 hL, ↓dP_205 hL, ↓dZ_205 hL (x := nI 0) (Or.inl rfl), ↓dZ_205 hL (x := nI 1) (Or.inr rfl), ↓dZ_205 hL (Or.inl rfl), ↓dZ_205 hL (Or.inr rfl), ↓dZ_205 hL (nB_01 _), ↓reduceIte, ↓kq_bi, ↓kq_let, ↓kq_rz0, ↓kq_rz1, ↓kq_rzB, ↓Option.bind_some, kq_dvn, kt_lt, kf_lt, kt_eq, kf_eq, decide_true, decide_false, eq_self, Bool.false_eq_true, Bool.true_eq_false, not_true_eq_false, not_false_eq_true, jU_eq, jU_ne, jU_U, jV_eq, jV_ne, jV_V, kn_lit, kn_add, kn_mul, kn_sdm, kn_sub, kn_div, kn_nsdm, kn_lt, kn_eq, kn_pred, kn_m1, kn_m1', kn_a31, kn_shl, kn_shr, kn_bit, nB_0, nB_1, nB_t, nB_f, Nat.zero_add, Nat.add_zero, Nat.reduceAdd, Nat.reduceMul, Nat.reduceSub, Nat.reducePow]
    refine jW_s (hP L ⟨?_, fun z => ?_, jMu_trans (jMu_M1 M1) (jMu_M1 lM)⟩)
    · rw [s_nd_no (show ¬ k = 0 by omega)]
      exact jTM_fl l1 (by omega) hwd
    · have z : k = 0 := z
      omega
  have e7 : K 205 7 = nI cl := by rw [M1.1 7 (by omega) (by omega) (by omega)]; exact h7
  have KC : jMD K δ := ⟨fun i hi => by rw [M1.2 208 (by omega)]; exact hC.1 i hi, fun c k a1 a2 a3 => by
    have := s_ma_rg a1 a2 (Nat.lt_of_lt_of_le a3 (hD _ (s_kd_lt c (by omega))))
    rw [M1.2 _ (by omega)]; exact hC.2 c k a1 a2 a3⟩
  cases hk : s_knd tp n y with
  | none =>
    have := fault 1 (by omega) (by omega) (s_cl_n hk) (-nI 1)
    simp (disch := omega) only [nO_none, A1, ↓dK_205 hL, ↓dG_205 hL, ↓dP_205 hL, ↓dZ_205 hL (x := nI 0) (Or.inl rfl), ↓dZ_205 hL (x := nI 1) (Or.inr rfl), ↓dZ_205 hL (Or.inl rfl), ↓dZ_205 hL (Or.inr rfl), ↓dZ_205 hL (nB_01 _), ↓reduceIte, ↓kq_bi, ↓kq_let, ↓kq_rz0, ↓kq_rz1, ↓kq_rzB, ↓Option.bind_some, kq_dvn, kt_lt, kf_lt, kt_eq, kf_eq, decide_true, decide_false, eq_self, Bool.false_eq_true, Bool.true_eq_false, not_true_eq_false, not_false_eq_true, jU_eq, jU_ne, jU_U, jV_eq, jV_ne, jV_V, kn_lit, kn_add, kn_mul, kn_sdm, kn_sub, kn_div, kn_nsdm, kn_lt, kn_eq, kn_pred, kn_m1, kn_m1', kn_a31, kn_shl, kn_shr, kn_bit, nB_0, nB_1, nB_t, nB_f, Nat.zero_add, Nat.add_zero, Nat.reduceAdd, Nat.reduceMul, Nat.reduceSub, Nat.reducePow]
    exact this
  | some j =>
    have hj := s_knd_lt hk
    have e8 : K 208 j = nI (δ 0 j) := KC.1 j hj
    have hDj := hD j hj
    have hmo := m_mostOf (j := j) (X := jz_I h K) hj
    by_cases z : cl = 60
    · have := fault 3 (by omega) (by omega) (s_cl_f hk (Or.inl (decide_eq_true (by omega)))) (nI j)
      rw [z] at e7
      simp (disch := omega) only [nO_some, e7, A1, F_Mod_clause_b44, ↓dK_205 hL, ↓dG_205 hL, ↓dP_205 hL, ↓dZ_205 hL (x := nI 0) (Or.inl rfl), ↓dZ_205 hL (x := nI 1) (Or.inr rfl), ↓dZ_205 hL (Or.inl rfl), ↓dZ_205 hL (Or.inr rfl), ↓dZ_205 hL (nB_01 _), ↓reduceIte, ↓kq_bi, ↓kq_let, ↓kq_rz0, ↓kq_rz1, ↓kq_rzB, ↓Option.bind_some, kq_dvn, kt_lt, kf_lt, kt_eq, kf_eq, decide_true, decide_false, eq_self, Bool.false_eq_true, Bool.true_eq_false, not_true_eq_false, not_false_eq_true, jU_eq, jU_ne, jU_U, jV_eq, jV_ne, jV_V, kn_lit, kn_add, kn_mul, kn_sdm, kn_sub, kn_div, kn_nsdm, kn_lt, kn_eq, kn_pred, kn_m1, kn_m1', kn_a31, kn_shl, kn_shr, kn_bit, nB_0, nB_1, nB_t, nB_f, Nat.zero_add, Nat.add_zero, Nat.reduceAdd, Nat.reduceMul, Nat.reduceSub, Nat.reducePow]
      exact this
    · have hcap : s_cap j ≤ 24 := by
        rcases (show j = 0 ∨ j = 1 ∨ j = 2 ∨ j = 3 ∨ j = 4 ∨ j = 5 by omega) with rfl | rfl | rfl | rfl | rfl | rfl <;> decide
      by_cases z2 : δ 0 j = s_cap j
      · have := fault 3 (by omega) (by omega) (s_cl_f hk (Or.inr (by omega))) (nI j)
        rw [z2] at e8
        generalize s_cap j = cap at hmo e8 hcap
        simp (disch := omega) only [nO_some, e7, A1, e8, hmo, F_Mod_clause_b44, ↓dK_205 hL, ↓dG_205 hL, ↓dP_205 hL, ↓dZ_205 hL (x := nI 0) (Or.inl rfl), ↓dZ_205 hL (x := nI 1) (Or.inr rfl), ↓dZ_205 hL (Or.inl rfl), ↓dZ_205 hL (Or.inr rfl), ↓dZ_205 hL (nB_01 _), ↓dR_205_11 hL, dI_208 hL, dS_208 hL, ↓reduceIte, ↓kq_bi, ↓kq_let, ↓kq_rz0, ↓kq_rz1, ↓kq_rzB, ↓Option.bind_some, kq_dvn, kt_lt, kf_lt, kt_eq, kf_eq, decide_true, decide_false, eq_self, Bool.false_eq_true, Bool.true_eq_false, not_true_eq_false, not_false_eq_true, jU_eq, jU_ne, jU_U, jV_eq, jV_ne, jV_V, kn_lit, kn_add, kn_mul, kn_sdm, kn_sub, kn_div, kn_nsdm, kn_lt, kn_eq, kn_pred, kn_m1, kn_m1', kn_a31, kn_shl, kn_shr, kn_bit, nB_0, nB_1, nB_t, nB_f, Nat.zero_add, Nat.add_zero, Nat.reduceAdd, Nat.reduceMul, Nat.reduceSub, Nat.reducePow]
        exact this
      · have hlt : δ 0 j < s_cap j := by omega
        have hr := s_cl_r (tp := tp) (n := n) (d := decide (60 ≤ cl)) hk (show ¬ (decide (60 ≤ cl) = true ∨ s_cap j ≤ δ 0 j) from fun a => by rcases a with a | a; exact absurd (of_decide_eq_true a) (by omega); omega)
        rw [hr] at hP
        have h9 : δ 0 0 ≤ 9 := hD 0 (by omega)
        have key : ∃ L, F_Mod_clause_b53 205 (nI j) (jz_I h K) = some (jz_I h L) ∧ jTM L tp n (s_nd tp n 59 (s_rdk tp n δ j (s_wd tp n y)).2) ∧ L 205 7 = nI (cl + 1) ∧ ((s_rdk tp n δ j (s_wd tp n y)).2.2.1 = 0 → jMD L (s_add δ j (s_rdk tp n δ j (s_wd tp n y)).1)) ∧ jMu K L := by
          rcases (show j = 0 ∨ j = 1 ∨ j = 2 ∨ j = 3 ∨ j = 4 ∨ j = 5 by omega) with rfl | rfl | rfl | rfl | rfl | rfl
          · exact m_b53_0 hL T1 h0 A1 hcl e7 KC hD hlt
          · exact m_b53_1 hL T1 h0 A1 hcl e7 KC hD hlt
          · exact m_b53_2 hL T1 h0 A1 hcl e7 KC hD hlt h9
          · exact m_b53_3 hL T1 h0 A1 hcl e7 KC hD hlt
          · exact m_b53_4 hL T1 h0 A1 hcl e7 KC hD hlt
          · exact m_b53_5 hL T1 h0 A1 hcl e7 KC hD hlt
        obtain ⟨L, l0, l1, l2, l3, l4⟩ := key
        generalize s_cap j = cap at hmo hcap z2 hlt
        simp (disch := omega) only [nO_some, e7, e8, hmo, ↓dK_205 hL, ↓dG_205 hL, ↓dP_205 hL, ↓dZ_205 hL (x := nI 0) (Or.inl rfl), ↓dZ_205 hL (x := nI 1) (Or.inr rfl), ↓dZ_205 hL (Or.inl rfl), ↓dZ_205 hL (Or.inr rfl), ↓dZ_205 hL (nB_01 _), ↓dR_205_11 hL, dI_208 hL, dS_208 hL, ↓reduceIte, ↓kq_bi, ↓kq_let, ↓kq_rz0, ↓kq_rz1, ↓kq_rzB, ↓Option.bind_some, kq_dvn, kt_lt, kf_lt, kt_eq, kf_eq, decide_true, decide_false, eq_self, Bool.false_eq_true, Bool.true_eq_false, not_true_eq_false, not_false_eq_true, jU_eq, jU_ne, jU_U, jV_eq, jV_ne, jV_V, kn_lit, kn_add, kn_mul, kn_sdm, kn_sub, kn_div, kn_nsdm, kn_lt, kn_eq, kn_pred, kn_m1, kn_m1', kn_a31, kn_shl, kn_shr, kn_bit, nB_0, nB_1, nB_t, nB_f, Nat.zero_add, Nat.add_zero, Nat.reduceAdd, Nat.reduceMul, Nat.reduceSub, Nat.reducePow]
        exact jW_e l0 (hP L ⟨l1, fun z => ⟨l3 z, l2⟩, jMu_trans (jMu_M1 M1) l4⟩)
end

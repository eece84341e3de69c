/-! PLAIN LEAN: work; a step, on both sides -/
def s_stp (tp : Nat → Nat) (n : Nat) (y : JTs) : Option Nat := if s_isk tp n y 13 = true then some 0 else if s_isk tp n y 14 = true then some 1 else if s_isk tp n y 11 = true then some 2 else if s_isk tp n y 15 = true then some 3 else none
/-- the row of a step that is being read -/
def jRk (J K : Nat → Nat → Int32) (k : Nat) (row : Nat → Int32) : Prop := K 205 34 = nI (k + 1) ∧ K 205 8 = J 205 8 ∧ K (611 + k) = row ∧ (∀ i, i < k → K (611 + i) = J (611 + i)) ∧ jPFm J K
section
variable {t u l m b c : Nat} {h : LH} {I J K L : Nat → Nat → Int32} {tp : Nat → Nat} {n o k : Nat} {y z : JTs} {x : Int32} {s s' s3 : JLs} {π : JLw} {τ : JTn} {R : Nat → Nat → Nat → Int32 → LH → Option LH} {row : Nat → Int32}
theorem s_stp_lt {j : Nat} (e : s_stp tp n y = some j) : j ≤ 3 ∧ y.2.1 = 0 := by
  unfold s_stp at e
  repeat' split at e
  all_goals first | (rename_i hh; cases e; exact ⟨by omega, (of_decide_eq_true hh).1⟩) | cases e
theorem s_stp_no (h0 : ¬ y.2.1 = 0) : s_stp tp n y = none := by
  have f : ∀ k, s_isk tp n y k = false := fun k => decide_eq_false (fun a => h0 a.1)
  unfold s_stp
  rw [f, f, f, f]; rfl
/-- a step's word has three letters at least -/
theorem s_stp_ge (hy : jTy n y) {j : Nat} (e : s_stp tp n y = some j) : y.1 + 3 ≤ (s_wd tp n y).1 := by
  have key : ∀ k, 3 ≤ (s_w k).length → s_isk tp n y k = true → y.1 + 3 ≤ (s_wd tp n y).1 := fun k hk hh => by
    obtain ⟨h0, e⟩ := of_decide_eq_true hh
    obtain ⟨e1, -⟩ := s_rng_eq.mp e
    obtain ⟨g1, g2⟩ := s_skp_ge (c := c_bl) (tp := tp) hy.1
    have ew : s_wd tp n y = (s_p1 c_sm tp n y, y.2) := if_pos h0
    rw [ew]
    show y.1 + 3 ≤ s_p1 c_sm tp n y
    omega
  unfold s_stp at e
  repeat' split at e
  · rename_i hh; exact key 13 (by decide) hh
  · rename_i hh; exact key 14 (by decide) hh
  · rename_i hh; exact key 11 (by decide) hh
  · rename_i hh; exact key 15 (by decide) hh
  · cases e
/-- the class: which step it is -/
theorem c_stW (hL : jLay t u l m b c h) (hy : jTy n y) (hJ : jPC h J tp n (y, π)) {P : LH → Prop} (hP : ∀ K, jPC h K tp n (s_wd tp n y, π) → K 65 6 = nI (s_nx tp n y).1 → jPFc J K → jW ((match s_stp tp n y with
    | none => (F_Text_fail 65 (1 : Int32) (jz_I h K)).bind fun h10 => F_Prog_readStep_b119 R h10
    | some 0 => jf_gi (jz_I h K) t 8 0 fun v17 => jf_kd (jz_I h K) 65 7 (jf_bi (F_Text_number 65 (0 : Int32) (v17 - (1 : Int32)) (jz_I h K)) fun v18 h19 => jf_gi h19 t 8 1 fun v20 => jf_kd h19 65 7 (jf_bi (F_Text_number 65 (0 : Int32) (v20 - (1 : Int32)) h19) fun v21 h22 => jf_kd h22 67 5 ((F_Prog_put 67 (1 : Int32) v18 v21 h22).bind fun h23 => F_Prog_readStep_b119 R h23)))
    | some 1 => jf_gi (jz_I h K) t 8 0 fun v13 => jf_kd (jz_I h K) 65 7 (jf_bi (F_Text_number 65 (0 : Int32) (v13 - (1 : Int32)) (jz_I h K)) fun v14 h15 => jf_kd h15 67 5 ((F_Prog_put 67 (2 : Int32) v14 (0 : Int32) h15).bind fun h16 => F_Prog_readStep_b119 R h16))
    | some 2 => (F_Prog_put 67 (3 : Int32) (0 : Int32) (0 : Int32) (jz_I h K)).bind fun h12 => F_Prog_readStep_b119 R h12
    | some _ => (F_Prog_readAgain R 67 65 t (nI o) (jz_I h K)).bind fun h11 => F_Prog_readStep_b119 R h11)) P) : jW (F_Prog_readStep R 67 65 t (nI o) (jz_I h J)) P := by
  have hw := s_nx_wd (tp := tp) hy
  unfold F_Prog_readStep
  rw [dK_65 hL]
  refine jW_bn (c_word hL hJ.2.1) (fun K hK => ?_)
  obtain ⟨k1, k6, kM⟩ := hK
  have K1 := jPC_T1 hJ k1 kM (fun e => by rw [s_wd_2] at e; exact e)
  have fin := hP K K1 k6 (jPFc_T1 kM)
  have i13 := c_isWord hL K1.1 k1 (k := 13) (by omega) (by omega) k6 hw
  rw [s_isw_isk] at i13
  have i14 := c_isWord hL K1.1 k1 (k := 14) (by omega) (by omega) k6 hw
  rw [s_isw_isk] at i14
  have i11 := c_isWord hL K1.1 k1 (k := 11) (by omega) (by omega) k6 hw
  rw [s_isw_isk] at i11
  have i15 := c_isWord hL K1.1 k1 (k := 15) (by omega) (by omega) k6 hw
  rw [s_isw_isk] at i15
  rw [dK_65 hL, i13, kq_bi]
  cases g13 : s_isk tp n y 13
  · rw [if_pos (show nB false = (0 : Int32) from rfl), dK_65 hL, i14, kq_bi]
    cases g14 : s_isk tp n y 14
    · rw [if_pos (show nB false = (0 : Int32) from rfl), dK_65 hL, i11, kq_bi]
      cases g11 : s_isk tp n y 11
      · rw [if_pos (show nB false = (0 : Int32) from rfl), dK_65 hL, i15, kq_bi]
        cases g15 : s_isk tp n y 15
        · rw [if_pos (show nB false = (0 : Int32) from rfl), dK_65 hL]
          rw [show s_stp tp n y = none by unfold s_stp; rw [g13, g14, g11, g15]; rfl] at fin
          exact fin
        · rw [if_neg (show ¬ nB true = (0 : Int32) by decide), dK_67 hL]
          rw [show s_stp tp n y = some 3 by unfold s_stp; rw [g13, g14, g11, g15]; rfl] at fin
          exact fin
      · rw [if_neg (show ¬ nB true = (0 : Int32) by decide), dK_67 hL]
        rw [show s_stp tp n y = some 2 by unfold s_stp; rw [g13, g14, g11]; rfl] at fin
        exact fin
    · rw [if_neg (show ¬ nB true = (0 : Int32) by decide)]
      rw [show s_stp tp n y = some 1 by unfold s_stp; rw [g13, g14]; rfl] at fin
      exact fin
  · rw [if_neg (show ¬ nB true = (0 : Int32) by decide)]
    rw [show s_stp tp n y = some 0 by unfold s_stp; rw [g13]; rfl] at fin
    exact fin
/-- the reference: which step it is -/
theorem m_stepHere (hL : jLay t u l m b c h) (hT : jTM J tp n y) : ∃ K, F_Mod_stepHere 205 (jz_I h J) = some (nO (s_stp tp n y), jz_I h K) ∧ jTM K tp n y ∧ (y.2.1 = 0 → K 205 4 = nI (s_skp c_bl tp n y.1)) ∧ jM1 J K := by
  refine jE_i (fun P hP => ?_)
  unfold F_Mod_stepHere
  simp (disch := omega) only [↓dK_205 hL, ↓dG_205 hL, ↓dP_205 hL, ↓dZ_205 hL (x := nI 0) (Or.inl rfl), ↓dZ_205 hL (x := nI 1) (Or.inr rfl), ↓dZ_205 hL (Or.inl rfl), ↓dZ_205 hL (Or.inr rfl), ↓dZ_205 hL (nB_01 _), ↓reduceIte, ↓kq_bi, ↓kq_let, ↓kq_rz0, ↓kq_rz1, ↓kq_rzB, ↓Option.bind_some, kq_dvn, kt_lt, kf_lt, kt_eq, kf_eq, decide_true, decide_false, eq_self, Bool.false_eq_true, Bool.true_eq_false, not_true_eq_false, not_false_eq_true, jU_eq, jU_ne, jU_U, jV_eq, jV_ne, jV_V, kn_lit, kn_add, kn_mul, kn_sdm, kn_sub, kn_div, kn_nsdm, kn_lt, kn_eq, kn_pred, kn_m1, kn_m1', kn_a31, kn_shl, kn_shr, kn_bit, nB_0, nB_1, nB_t, nB_f, Nat.zero_add, Nat.add_zero, Nat.reduceAdd, Nat.reduceMul, Nat.reduceSub, Nat.reducePow]
  refine jW_bi (m_isWord hL hT (k := 13) (by omega) six_13) (fun K1 hK => ?_)
  obtain ⟨T1, A1, M1⟩ := hK
  cases g13 : s_isk tp n y 13
  case true =>
    rw [show s_stp tp n y = some 0 by unfold s_stp; rw [g13]; rfl, nO_some] at hP
    simp (disch := omega) only [↓dK_205 hL, ↓dG_205 hL, ↓dP_205 hL, ↓dZ_205 hL (x := nI 0) (Or.inl rfl), ↓dZ_205 hL (x := nI 1) (Or.inr rfl), ↓dZ_205 hL (Or.inl rfl), ↓dZ_205 hL (Or.inr rfl), ↓dZ_205 hL (nB_01 _), ↓reduceIte, ↓kq_bi, ↓kq_let, ↓kq_rz0, ↓kq_rz1, ↓kq_rzB, ↓Option.bind_some, kq_dvn, kt_lt, kf_lt, kt_eq, kf_eq, decide_true, decide_false, eq_self, Bool.false_eq_true, Bool.true_eq_false, not_true_eq_false, not_false_eq_true, jU_eq, jU_ne, jU_U, jV_eq, jV_ne, jV_V, kn_lit, kn_add, kn_mul, kn_sdm, kn_sub, kn_div, kn_nsdm, kn_lt, kn_eq, kn_pred, kn_m1, kn_m1', kn_a31, kn_shl, kn_shr, kn_bit, nB_0, nB_1, nB_t, nB_f, Nat.zero_add, Nat.add_zero, Nat.reduceAdd, Nat.reduceMul, Nat.reduceSub, Nat.reducePow]
    exact jW_s (hP K1 ⟨T1, A1, M1⟩)
  simp (disch := omega) only [↓dK_205 hL, ↓dG_205 hL, ↓dP_205 hL, ↓dZ_205 hL (x := nI 0) (Or.inl rfl), ↓dZ_205 hL (x := nI 1) (Or.inr rfl), ↓dZ_205 hL (Or.inl rfl), ↓dZ_205 hL (Or.inr rfl), ↓dZ_205 hL (nB_01 _), ↓reduceIte, ↓kq_bi, ↓kq_let, ↓kq_rz0, ↓kq_rz1, ↓kq_rzB, ↓Option.bind_some, kq_dvn, kt_lt, kf_lt, kt_eq, kf_eq, decide_true, decide_false, eq_self, Bool.false_eq_true, Bool.true_eq_false, not_true_eq_false, not_false_eq_true, jU_eq, jU_ne, jU_U, jV_eq, jV_ne, jV_V, kn_lit, kn_add, kn_mul, kn_sdm, kn_sub, kn_div, kn_nsdm, kn_lt, kn_eq, kn_pred, kn_m1, kn_m1', kn_a31, kn_shl, kn_shr, kn_bit, nB_0, nB_1, nB_t, nB_f, Nat.zero_add, Nat.add_zero, Nat.reduceAdd, Nat.reduceMul, Nat.reduceSub, Nat.reducePow]
  refine jW_bi (m_isWord hL T1 (k := 14) (by omega) six_14) (fun K2 hK => ?_)
  obtain ⟨T2, A2, Q2⟩ := hK
  have M2 := jM1_trans M1 Q2
  cases g14 : s_isk tp n y 14
  case true =>
    rw [show s_stp tp n y = some 1 by unfold s_stp; rw [g13, g14]; rfl, nO_some] at hP
    simp (disch := omega) only [↓dK_205 hL, ↓dG_205 hL, ↓dP_205 hL, ↓dZ_205 hL (x := nI 0) (Or.inl rfl), ↓dZ_205 hL (x := nI 1) (Or.inr rfl), ↓dZ_205 hL (Or.inl rfl), ↓dZ_205 hL (Or.inr rfl), ↓dZ_205 hL (nB_01 _), ↓reduceIte, ↓kq_bi, ↓kq_let, ↓kq_rz0, ↓kq_rz1, ↓kq_rzB, ↓Option.bind_some, kq_dvn, kt_lt, kf_lt, kt_eq, kf_eq, decide_true, decide_false, eq_self, Bool.false_eq_true, Bool.true_eq_false, not_true_eq_false, not_false_eq_true, jU_eq, jU_ne, jU_U, jV_eq, jV_ne, jV_V, kn_lit, kn_add, kn_mul, kn_sdm, kn_sub, kn_div, kn_nsdm, kn_lt, kn_eq, kn_pred, kn_m1, kn_m1', kn_a31, kn_shl, kn_shr, kn_bit, nB_0, nB_1, nB_t, nB_f, Nat.zero_add, Nat.add_zero, Nat.reduceAdd, Nat.reduceMul, Nat.reduceSub, Nat.reducePow]
    exact jW_s (hP K2 ⟨T2, A2, M2⟩)
  simp (disch := omega) only [↓dK_205 hL, ↓dG_205 hL, ↓dP_205 hL, ↓dZ_205 hL (x := nI 0) (Or.inl rfl), ↓dZ_205 hL (x := nI 1) (Or.inr rfl), ↓dZ_205 hL (Or.inl rfl), ↓dZ_205 hL (Or.inr rfl), ↓dZ_205 hL (nB_01 _), ↓reduceIte, ↓kq_bi, ↓kq_let, ↓kq_rz0, ↓kq_rz1, ↓kq_rzB, ↓Option.bind_some, kq_dvn, kt_lt, kf_lt, kt_eq, kf_eq, decide_true, decide_false, eq_self, Bool.false_eq_true, Bool.true_eq_false, not_true_eq_false, not_false_eq_true, jU_eq, jU_ne, jU_U, jV_eq, jV_ne, jV_V, kn_lit, kn_add, kn_mul, kn_sdm, kn_sub, kn_div, kn_nsdm, kn_lt, kn_eq, kn_pred, kn_m1, kn_m1', kn_a31, kn_shl, kn_shr, kn_bit, nB_0, nB_1, nB_t, nB_f, Nat.zero_add, Nat.add_zero, Nat.reduceAdd, Nat.reduceMul, Nat.reduceSub, Nat.reducePow]
  refine jW_bi (m_isWord hL T2 (k := 11) (by omega) six_11) (fun K3 hK => ?_)
  obtain ⟨T3, A3, Q3⟩ := hK
  have M3 := jM1_trans M2 Q3
  cases g11 : s_isk tp n y 11
  case true =>
    rw [show s_stp tp n y = some 2 by unfold s_stp; rw [g13, g14, g11]; rfl, nO_some] at hP
    simp (disch := omega) only [↓dK_205 hL, ↓dG_205 hL, ↓dP_205 hL, ↓dZ_205 hL (x := nI 0) (Or.inl rfl), ↓dZ_205 hL (x := nI 1) (Or.inr rfl), ↓dZ_205 hL (Or.inl rfl), ↓dZ_205 hL (Or.inr rfl), ↓dZ_205 hL (nB_01 _), ↓reduceIte, ↓kq_bi, ↓kq_let, ↓kq_rz0, ↓kq_rz1, ↓kq_rzB, ↓Option.bind_some, kq_dvn, kt_lt, kf_lt, kt_eq, kf_eq, decide_true, decide_false, eq_self, Bool.false_eq_true, Bool.true_eq_false, not_true_eq_false, not_false_eq_true, jU_eq, jU_ne, jU_U, jV_eq, jV_ne, jV_V, kn_lit, kn_add, kn_mul, kn_sdm, kn_sub, kn_div, kn_nsdm, kn_lt, kn_eq, kn_pred, kn_m1, kn_m1', kn_a31, kn_shl, kn_shr, kn_bit, nB_0, nB_1, nB_t, nB_f, Nat.zero_add, Nat.add_zero, Nat.reduceAdd, Nat.reduceMul, Nat.reduceSub, Nat.reducePow]
    exact jW_s (hP K3 ⟨T3, A3, M3⟩)
  simp (disch := omega) only [↓dK_205 hL, ↓dG_205 hL, ↓dP_205 hL, ↓dZ_205 hL (x := nI 0) (Or.inl rfl), ↓dZ_205 hL (x := nI 1) (Or.inr rfl), ↓dZ_205 hL (Or.inl rfl), ↓dZ_205 hL (Or.inr rfl), ↓dZ_205 hL (nB_01 _), ↓reduceIte, ↓kq_bi, ↓kq_let, ↓kq_rz0, ↓kq_rz1, ↓kq_rzB, ↓Option.bind_some, kq_dvn, kt_lt, kf_lt, kt_eq, kf_eq, decide_true, decide_false, eq_self, Bool.false_eq_true, Bool.true_eq_false, not_true_eq_false, not_false_eq_true, jU_eq, jU_ne, jU_U, jV_eq, jV_ne, jV_V, kn_lit, kn_add, kn_mul, kn_sdm, kn_sub, kn_div, kn_nsdm, kn_lt, kn_eq, kn_pred, kn_m1, kn_m1', kn_a31, kn_shl, kn_shr, kn_bit, nB_0, nB_1, nB_t, nB_f, Nat.zero_add, Nat.add_zero, Nat.reduceAdd, Nat.reduceMul, Nat.reduceSub, Nat.reducePow]
  refine jW_bi (m_isWord hL T3 (k := 15) (by omega) six_15) (fun K4 hK => ?_)
  obtain ⟨T4, A4, Q4⟩ := hK
  have M4 := jM1_trans M3 Q4
  cases g15 : s_isk tp n y 15
  case true =>
    rw [show s_stp tp n y = some 3 by unfold s_stp; rw [g13, g14, g11, g15]; rfl, nO_some] at hP
    simp (disch := omega) only [F_Mod_stepHere_b76, ↓dK_205 hL, ↓dG_205 hL, ↓dP_205 hL, ↓dZ_205 hL (x := nI 0) (Or.inl rfl), ↓dZ_205 hL (x := nI 1) (Or.inr rfl), ↓dZ_205 hL (Or.inl rfl), ↓dZ_205 hL (Or.inr rfl), ↓dZ_205 hL (nB_01 _), ↓reduceIte, ↓kq_bi, ↓kq_let, ↓kq_rz0, ↓kq_rz1, ↓kq_rzB, ↓Option.bind_some, kq_dvn, kt_lt, kf_lt, kt_eq, kf_eq, decide_true, decide_false, eq_self, Bool.false_eq_true, Bool.true_eq_false, not_true_eq_false, not_false_eq_true, jU_eq, jU_ne, jU_U, jV_eq, jV_ne, jV_V, kn_lit, kn_add, kn_mul, kn_sdm, kn_sub, kn_div, kn_nsdm, kn_lt, kn_eq, kn_pred, kn_m1, kn_m1', kn_a31, kn_shl, kn_shr, kn_bit, nB_0, nB_1, nB_t, nB_f, Nat.zero_add, Nat.add_zero, Nat.reduceAdd, Nat.reduceMul, Nat.reduceSub, Nat.reducePow]
    exact jW_s (hP K4 ⟨T4, A4, M4⟩)
  rw [show s_stp tp n y = none by unfold s_stp; rw [g13, g14, g11, g15]; rfl, nO_none] at hP
  simp (disch := omega) only [F_Mod_stepHere_b76, ↓dK_205 hL, ↓dG_205 hL, ↓dP_205 hL, ↓dZ_205 hL (x := nI 0) (Or.inl rfl), ↓dZ_205 hL (x := nI 1) (Or.inr rfl), ↓dZ_205 hL (Or.inl rfl), ↓dZ_205 hL (Or.inr rfl), ↓dZ_205 hL (nB_01 _), ↓reduceIte, ↓kq_bi, ↓kq_let, ↓kq_rz0, ↓kq_rz1, ↓kq_rzB, ↓Option.bind_some, kq_dvn, kt_lt, kf_lt, kt_eq, kf_eq, decide_true, decide_false, eq_self, Bool.false_eq_true, Bool.true_eq_false, not_true_eq_false, not_false_eq_true, jU_eq, jU_ne, jU_U, jV_eq, jV_ne, jV_V, kn_lit, kn_add, kn_mul, kn_sdm, kn_sub, kn_div, kn_nsdm, kn_lt, kn_eq, kn_pred, kn_m1, kn_m1', kn_a31, kn_shl, kn_shr, kn_bit, nB_0, nB_1, nB_t, nB_f, Nat.zero_add, Nat.add_zero, Nat.reduceAdd, Nat.reduceMul, Nat.reduceSub, Nat.reducePow]
  exact jW_s (hP K4 ⟨T4, A4, M4⟩)
theorem jRk_M1 (hk : k < 80) (h1 : jRk J K k row) (h2 : jM1 K L) : jRk J L k row := by
  obtain ⟨a1, a2, a3, a4, a5⟩ := h1
  exact ⟨(h2.1 34 (by omega) (by omega) (by omega)).trans a1, (h2.1 8 (by omega) (by omega) (by omega)).trans a2, (h2.2 _ (by omega)).trans a3, fun i hi => (h2.2 _ (by omega)).trans (a4 i hi), jPFm_trans a5 (jPFm_M1 h2)⟩
theorem jRk_set (hk : k < 80) {i : Nat} (h1 : jRk J K k row) : jRk J (jU K (611 + k) (jV (K (611 + k)) i x)) k (jV row i x) := by
  obtain ⟨a1, a2, a3, a4, a5⟩ := h1
  exact ⟨by rw [jU_ne (by omega)]; exact a1, by rw [jU_ne (by omega)]; exact a2, by rw [jU_eq, a3], fun i hi => by rw [jU_ne (by omega)]; exact a4 i hi, jPFm_trans a5 ⟨fun f _ _ _ _ _ => by rw [jU_ne (by omega)], fun a x1 x2 => jU_ne (by omega)⟩⟩
theorem jRk_done {kd a b' x3 o' : Nat} (hJ : jPM J tp n o (y, π)) (h0 : y.2.1 = 0) (hR : jRk J K π.1 row) (hT : jTM K tp n z) (hx : z.2.1 = 0 → row 0 = nI kd ∧ (¬ kd = 2 → row 1 = nI a) ∧ (kd = 0 → row 2 = nI b') ∧ (¬ x3 = 0 → row 3 = nI x3)) : jPM K tp n o (z, s_psh (s_pv kd a b' x3 o') π) := by
  obtain ⟨a1, a2, a3, a4, a5⟩ := hR
  obtain ⟨⟨b1, b2⟩, b3⟩ := hJ.2 h0
  refine ⟨hT, fun e => ⟨⟨a1, a2.trans b2⟩, fun i hi => ?_⟩⟩
  have hi : i < π.1 + 1 := hi
  unfold jPsM
  by_cases e1 : i = π.1
  · show K (611 + i) 0 = nI ((s_psh (s_pv kd a b' x3 o') π).2 i 0) ∧ _
    rw [e1, s_psh_eq, s_psh_eq, s_psh_eq, s_psh_eq, a3]
    exact hx e
  · have := b3 i (by show i < π.1; omega)
    unfold jPsM at this
    show K (611 + i) 0 = nI ((s_psh (s_pv kd a b' x3 o') π).2 i 0) ∧ (¬ (s_psh (s_pv kd a b' x3 o') π).2 i 0 = 2 → K (611 + i) 1 = nI ((s_psh (s_pv kd a b' x3 o') π).2 i 1)) ∧ ((s_psh (s_pv kd a b' x3 o') π).2 i 0 = 0 → K (611 + i) 2 = nI ((s_psh (s_pv kd a b' x3 o') π).2 i 2)) ∧ (¬ (s_psh (s_pv kd a b' x3 o') π).2 i 3 = 0 → K (611 + i) 3 = nI ((s_psh (s_pv kd a b' x3 o') π).2 i 3))
    rw [s_psh_ne e1, s_psh_ne e1, s_psh_ne e1, s_psh_ne e1, a4 i (by omega)]
    exact this
theorem m_setn {i : Nat} (hi8 : i < 80) (hJ : jPM J tp n o s) : jPM (jU J (611 + i) (jV (J (611 + i)) 3 (J 205 34))) tp n o (s.1, s_sn i s.2.1 s.2) ∧ jPFm J (jU J (611 + i) (jV (J (611 + i)) 3 (J 205 34))) := by
  refine ⟨⟨jTM_U hJ.1 (by omega), fun e => ?_⟩, fun f _ _ _ _ _ => by rw [jU_ne (by omega)], fun a _ x2 => jU_ne (by omega)⟩
  obtain ⟨⟨b1, b2⟩, b3⟩ := hJ.2 e
  refine ⟨⟨by rw [jU_ne (by omega)]; exact b1, by rw [jU_ne (by omega)]; exact b2⟩, fun i' hi' => ?_⟩
  have := b3 i' hi'
  unfold jPsM at this ⊢
  rw [s_sn_j (show ¬ 0 = 3 by omega), s_sn_j (show ¬ 1 = 3 by omega), s_sn_j (show ¬ 2 = 3 by omega)]
  by_cases z : i' = i
  · rw [z] at this ⊢
    obtain ⟨q1, q2, q3, q4⟩ := this
    rw [s_sn_eq, jU_eq]
    exact ⟨by rw [jV_ne (by omega)]; exact q1, fun w => by rw [jV_ne (by omega)]; exact q2 w, fun w => by rw [jV_ne (by omega)]; exact q3 w, fun _ => by rw [jV_eq]; exact b1⟩
  · rw [s_sn_i z, jU_ne (by omega)]
    exact this
theorem jPM_close (hJ : jPM J tp n (o + 1) s) : jPM (jU J 205 (jV (J 205) 8 (J 205 8 - nI 1))) tp n o s ∧ jPFm J (jU J 205 (jV (J 205) 8 (J 205 8 - nI 1))) := by
  refine ⟨⟨jTM_eq hJ.1 (fun f hf => ?_) ?_, fun z => ?_⟩, fun f a1 a2 a3 a4 a5 => ?_, fun a a1 a2 => ?_⟩
  · rw [jU_eq, jV_ne (by omega)]
  · rw [jU_ne (by omega)]
  · obtain ⟨⟨b1, b2⟩, b3⟩ := hJ.2 z
    refine ⟨⟨?_, ?_⟩, fun i hi => ?_⟩
    · rw [jU_eq, jV_ne (by omega)]; exact b1
    · rw [jU_eq, jV_eq, b2, kn_sub (by omega)]; rfl
    · have := b3 i hi
      unfold jPsM at this ⊢
      rw [jU_ne (by omega)]; exact this
  · rw [jU_eq, jV_ne (by omega)]
  · rw [jU_ne a1]
end

/-! PLAIN LEAN, 64: laws; both sides read products and sums -/
section
variable {t u l m b c t' u' l' m' b' c' : Nat} {h h' : LH} {I J K : Nat → Nat → Int32} {tp : Nat → Nat} {n o q j k : Nat} {y z : JTs} {x : Int32} {s s2 s4 : JLs} {ω : JLw} {w v : Nat} {R : Nat → LH → Option LH} {Rc : Nat → Nat → Int32 → LH → Option LH}
theorem jLU_trans {s s1 s' : JLs} (h1 : jLU 1 s s1) (h2 : jLU 0 s1 s') : jLU 1 s s' := fun a => by
  obtain ⟨b1, b2, b3, b4⟩ := h2 a
  obtain ⟨d1, d2, d3, d4⟩ := h1 b1
  exact ⟨d1, by omega, by omega, by omega⟩
theorem x_productF {T : Nat} (h0 : ¬ s.1.2.1 = 0) (hy : jTy n s.1) (ht9 : T ≤ 150) : ∀ F1 F2, 0 < F1 → 0 < F2 → jSim tp n o (fun q => F_Law_readProduct_l8 Rc F1 q 65 (nI o) (nI T)) (F_Mod_product_l4 R F2 205) s s := by
  obtain ⟨y, ω⟩ := s
  have y2 : y.2.1 ≤ 3 := hy.2.1
  have h0 : ¬ y.2.1 = 0 := h0
  have etk : ∀ ch, s_tk tp n ch y = false := fun ch => s_tk_no h0
  have ets : ∀ ch, s_tks tp n ch y = y := fun ch => by unfold s_tks; rw [etk, if_neg (show ¬ false = true by decide)]; exact if_neg h0
  refine fun F1 F2 f1 f2 => ⟨fun t u l m b c h q hL hl J hJ => jE_n (fun P hP => ?_), fun t' u' l' m' b' c' h' hM J hJ => ?_⟩
  · obtain ⟨F, rfl⟩ : ∃ F, F1 = F + 1 := ⟨F1 - 1, by omega⟩
    show jW (F_Law_readProduct_c8 Rc (F_Law_readProduct_l8 Rc F) q 65 (nI o) (nI T) (jz_I h J)) P
    unfold F_Law_readProduct_c8
    by_cases t9 : T < 150
    · simp (disch := omega) only [↓dR_64_0 hL, ↓dK_65 hL, ↓dG_65 hL, ↓dP_65 hL, ↓dK_L hL hl, ↓dG_L hL hl, ↓dP_L hL hl, ↓reduceIte, ↓kq_bi, ↓kq_let, ↓kq_rz0, ↓kq_rz1, ↓kq_rzB, ↓Option.bind_some, kq_dvn, kt_lt, kf_lt, kt_eq, kf_eq, decide_true, decide_false, eq_self, Bool.false_eq_true, Bool.true_eq_false, not_true_eq_false, not_false_eq_true, jU_eq, jU_ne, jU_U, jV_eq, jV_ne, jV_V, kn_lit, kn_add, kn_mul, kn_sdm, kn_sub, kn_div, kn_nsdm, kn_lt, kn_eq, kn_pred, kn_m1, kn_m1', kn_a31, kn_shl, kn_shr, kn_bit, nB_0, nB_1, nB_t, nB_f, Nat.zero_add, Nat.add_zero, Nat.reduceAdd, Nat.reduceMul, Nat.reduceSub, Nat.reducePow]
      refine jW_bi (c_take hL hJ.2.1 (ch := 42) (by omega)) (fun K1 hK1 => ?_)
      rw [ets] at hK1
      have J1 := jLC_T1 hl hJ hK1.1 hK1.2 (fun a => a)
      rw [etk]
      simp (disch := omega) only [↓dR_64_0 hL, ↓dK_65 hL, ↓dG_65 hL, ↓dP_65 hL, ↓dK_L hL hl, ↓dG_L hL hl, ↓dP_L hL hl, ↓reduceIte, ↓kq_bi, ↓kq_let, ↓kq_rz0, ↓kq_rz1, ↓kq_rzB, ↓Option.bind_some, kq_dvn, kt_lt, kf_lt, kt_eq, kf_eq, decide_true, decide_false, eq_self, Bool.false_eq_true, Bool.true_eq_false, not_true_eq_false, not_false_eq_true, jU_eq, jU_ne, jU_U, jV_eq, jV_ne, jV_V, kn_lit, kn_add, kn_mul, kn_sdm, kn_sub, kn_div, kn_nsdm, kn_lt, kn_eq, kn_pred, kn_m1, kn_m1', kn_a31, kn_shl, kn_shr, kn_bit, nB_0, nB_1, nB_t, nB_f, Nat.zero_add, Nat.add_zero, Nat.reduceAdd, Nat.reduceMul, Nat.reduceSub, Nat.reducePow]
      refine jW_bi (c_take hL hK1.1 (ch := 47) (by omega)) (fun K2 hK2 => ?_)
      rw [ets] at hK2
      have J2 := jLC_T1 hl J1 hK2.1 hK2.2 (fun a => a)
      rw [etk]
      simp (disch := omega) only [↓dR_64_0 hL, ↓dK_65 hL, ↓dG_65 hL, ↓dP_65 hL, ↓dK_L hL hl, ↓dG_L hL hl, ↓dP_L hL hl, ↓reduceIte, ↓kq_bi, ↓kq_let, ↓kq_rz0, ↓kq_rz1, ↓kq_rzB, ↓Option.bind_some, kq_dvn, kt_lt, kf_lt, kt_eq, kf_eq, decide_true, decide_false, eq_self, Bool.false_eq_true, Bool.true_eq_false, not_true_eq_false, not_false_eq_true, jU_eq, jU_ne, jU_U, jV_eq, jV_ne, jV_V, kn_lit, kn_add, kn_mul, kn_sdm, kn_sub, kn_div, kn_nsdm, kn_lt, kn_eq, kn_pred, kn_m1, kn_m1', kn_a31, kn_shl, kn_shr, kn_bit, nB_0, nB_1, nB_t, nB_f, Nat.zero_add, Nat.add_zero, Nat.reduceAdd, Nat.reduceMul, Nat.reduceSub, Nat.reducePow]
      exact jW_s (hP K2 ⟨J2, jFC_trans (jFC_T1 hK1.2) (jFC_T1 hK2.2)⟩)
    · simp (disch := omega) only [↓dR_64_0 hL, ↓dK_65 hL, ↓dG_65 hL, ↓dP_65 hL, ↓dK_L hL hl, ↓dG_L hL hl, ↓dP_L hL hl, ↓reduceIte, ↓kq_bi, ↓kq_let, ↓kq_rz0, ↓kq_rz1, ↓kq_rzB, ↓Option.bind_some, kq_dvn, kt_lt, kf_lt, kt_eq, kf_eq, decide_true, decide_false, eq_self, Bool.false_eq_true, Bool.true_eq_false, not_true_eq_false, not_false_eq_true, jU_eq, jU_ne, jU_U, jV_eq, jV_ne, jV_V, kn_lit, kn_add, kn_mul, kn_sdm, kn_sub, kn_div, kn_nsdm, kn_lt, kn_eq, kn_pred, kn_m1, kn_m1', kn_a31, kn_shl, kn_shr, kn_bit, nB_0, nB_1, nB_t, nB_f, Nat.zero_add, Nat.add_zero, Nat.reduceAdd, Nat.reduceMul, Nat.reduceSub, Nat.reducePow]
      exact jW_s (hP J ⟨hJ, jFC_r⟩)
  · obtain ⟨F, rfl⟩ : ∃ F, F2 = F + 1 := ⟨F2 - 1, by omega⟩
    have h5 : J 205 5 = nI y.2.1 := hJ.1.2.2.1.1
    refine ⟨J, ?_, hJ, jFM_r⟩
    show F_Mod_product_c4 R (F_Mod_product_l4 R F) 205 (jz_I h' J) = some (jz_I h' J)
    unfold F_Mod_product_c4
    simp (disch := omega) only [h5, ↓dK_205 hM, ↓dG_205 hM, ↓dP_205 hM, ↓dZ_205 hM (x := nI 0) (Or.inl rfl), ↓dZ_205 hM (x := nI 1) (Or.inr rfl), ↓dZ_205 hM (Or.inl rfl), ↓dZ_205 hM (Or.inr rfl), ↓dZ_205 hM (nB_01 _), ↓reduceIte, ↓kq_bi, ↓kq_let, ↓kq_rz0, ↓kq_rz1, ↓kq_rzB, ↓Option.bind_some, kq_dvn, kt_lt, kf_lt, kt_eq, kf_eq, decide_true, decide_false, eq_self, Bool.false_eq_true, Bool.true_eq_false, not_true_eq_false, not_false_eq_true, jU_eq, jU_ne, jU_U, jV_eq, jV_ne, jV_V, kn_lit, kn_add, kn_mul, kn_sdm, kn_sub, kn_div, kn_nsdm, kn_lt, kn_eq, kn_pred, kn_m1, kn_m1', kn_a31, kn_shl, kn_shr, kn_bit, nB_0, nB_1, nB_t, nB_f, Nat.zero_add, Nat.add_zero, Nat.reduceAdd, Nat.reduceMul, Nat.reduceSub, Nat.reducePow]
theorem x_productL (hU : ∀ s, jLG n s → ∃ s', jSim tp n o (fun q => F_Law_readUnit Rc q 65 (nI o)) (F_Mod_one R 205) s s' ∧ jLG n s' ∧ jLU 1 s s') : ∀ N T s, jLG n s → (s.1.2.1 = 0 → T + 1 ≤ s.1.1 ∧ 1 ≤ s_dep s.2.2 s.2.1 ∧ n - s.1.1 < N) → T ≤ 150 → ∃ s', (∀ F1 F2, N < F1 → N < F2 → jSim tp n o (fun q => F_Law_readProduct_l8 Rc F1 q 65 (nI o) (nI T)) (F_Mod_product_l4 R F2 205) s s') ∧ jLG n s' ∧ jLU 0 s s' := by
  intro N
  induction N with
  | zero =>
    intro T s hG ht ht9
    by_cases h0 : s.1.2.1 = 0
    · have := (ht h0).2.2; omega
    · exact ⟨s, fun F1 F2 f1 f2 => x_productF h0 hG.1 ht9 F1 F2 (by omega) (by omega), hG, jLU_0 h0⟩
  | succ N ih =>
    intro T s hG ht ht9
    by_cases h00 : ¬ s.1.2.1 = 0
    · exact ⟨s, fun F1 F2 f1 f2 => x_productF h00 hG.1 ht9 F1 F2 (by omega) (by omega), hG, jLU_0 h00⟩
    obtain ⟨y, ω⟩ := s
    have h0 : y.2.1 = 0 := Decidable.not_not.mp h00
    have hy : jTy n y := hG.1
    have hn : n ≤ 150 := hG.2.1
    have y2 : y.2.1 ≤ 3 := hy.2.1
    have hw0 : ω.1 ≤ y.1 := (hG.2.2 h0).1
    have hd1 : 1 ≤ s_dep ω.2 ω.1 := (ht h0).2.1
    have ht1 : T + 1 ≤ y.1 := (ht h0).1
    have htN : n - y.1 < N + 1 := (ht h0).2.2
    have hyn := hy.1
    have hy1 := s_tks_y (tp := tp) (ch := 42) hy
    have hge1 : y.1 ≤ (s_tks tp n 42 y).1 := by
      cases g : s_tk tp n 42 y
      · unfold s_tks; rw [g, if_neg (show ¬ false = true by decide)]; exact s_nx_ge hy
      · exact Nat.le_of_succ_le (s_tks_ge hy g)
    have go : ∀ (y2 : JTs) (w : Nat), 2 ≤ w ∧ w ≤ 7 → jTy n y2 → y.1 + 1 ≤ y2.1 → y2.2 = y.2 → ∃ s2 s', jSim tp n o (fun q => F_Law_readUnit Rc q 65 (nI o)) (F_Mod_one R 205) (y2, ω) s2 ∧ (s2.1.2.1 = 0 → s2.2.1 < 150) ∧ (∀ F1 F2, N < F1 → N < F2 → jSim tp n o (fun q => F_Law_readProduct_l8 Rc F1 q 65 (nI o) (nI (T + 1))) (F_Mod_product_l4 R F2 205) (s2.1, s_nt w 0 s2.2) s') ∧ jLG n s' ∧ jLU 0 (y, ω) s' := by
      intro y2 w hw hy2 hge he2
      have hG2 : jLG n (y2, ω) := ⟨hy2, hn, fun a => ⟨by show ω.1 ≤ y2.1; omega, (hG.2.2 h0).2⟩⟩
      obtain ⟨s2, sim, g2, u2⟩ := hU _ hG2
      have key : s2.1.2.1 = 0 → s2.2.1 + 1 ≤ s2.1.1 ∧ s_dep s2.2.2 s2.2.1 = s_dep ω.2 ω.1 + 1 ∧ y.1 + 2 ≤ s2.1.1 ∧ s2.2.1 + 1 + y.1 ≤ s2.1.1 + ω.1 := fun a => by
        obtain ⟨b1, b2, b3, b4⟩ := u2 a
        have b2 : y2.1 + 1 ≤ s2.1.1 + (1 - 1) := b2
        have b3 : s_dep s2.2.2 s2.2.1 = s_dep ω.2 ω.1 + 1 := b3
        have b4 : s2.2.1 + y2.1 ≤ s2.1.1 + ω.1 := b4
        omega
      have hs2n := g2.1.1
      have hG3 : jLG n (s2.1, s_nt w 0 s2.2) := jLG_nt g2 (fun a => (key a).1) hw.2 (fun _ _ => by omega) (fun _ => by omega) (fun a _ => by have := (key a).2.1; omega)
      obtain ⟨s', simL, gL, uL⟩ := ih (T + 1) (s2.1, s_nt w 0 s2.2) hG3 (fun a => by
        obtain ⟨k1, k2, k3, k4⟩ := key a
        have e1 : s_dep (s_nt w 0 s2.2).2 (s2.2.1 + 1) = s_dep s2.2.2 s2.2.1 - 1 := by rw [s_nt_d1, if_neg (by omega)]
        refine ⟨by show T + 1 + 1 ≤ s2.1.1; omega, ?_, by show n - s2.1.1 < N; omega⟩
        show 1 ≤ s_dep (s_nt w 0 s2.2).2 (s2.2.1 + 1)
        omega) (by omega)
      refine ⟨s2, s', sim, fun a => by have := (key a).1; omega, simL, gL, fun a => ?_⟩
      obtain ⟨b1, b2, b3, b4⟩ := uL a
      obtain ⟨k1, k2, k3, k4⟩ := key b1
      have e1 : s_dep (s_nt w 0 s2.2).2 (s2.2.1 + 1) = s_dep s2.2.2 s2.2.1 - 1 := by rw [s_nt_d1, if_neg (by omega)]
      have b2 : s2.1.1 + 1 ≤ s'.1.1 + (1 - 0) := b2
      have b3 : s_dep s'.2.2 s'.2.1 = s_dep (s_nt w 0 s2.2).2 (s2.2.1 + 1) + 0 := b3
      have b4 : s'.2.1 + s2.1.1 ≤ s'.1.1 + (s2.2.1 + 1) := b4
      refine ⟨h0, ?_, ?_, ?_⟩
      · show y.1 + 1 ≤ s'.1.1 + (1 - 0); omega
      · show s_dep s'.2.2 s'.2.1 = s_dep ω.2 ω.1 + 0; omega
      · show s'.2.1 + y.1 ≤ s'.1.1 + ω.1; omega
    cases g1 : s_tk tp n 42 y
    · cases g2 : s_tk tp n 47 (s_tks tp n 42 y)
      · have e12 : (s_tks tp n 47 (s_tks tp n 42 y)).2 = y.2 := s_tks_2.trans s_tks_2
        have hge2 : (s_tks tp n 42 y).1 ≤ (s_tks tp n 47 (s_tks tp n 42 y)).1 := by
          rw [show s_tks tp n 47 (s_tks tp n 42 y) = s_nx tp n (s_tks tp n 42 y) from if_neg (by rw [g2]; decide)]
          exact s_nx_ge hy1
        refine ⟨(s_tks tp n 47 (s_tks tp n 42 y), ω), fun F1 F2 f1 f2 => ⟨fun t u l m b c h q hL hl J hJ => jE_n (fun P hP => ?_), fun t' u' l' m' b' c' h' hM J hJ => jE_n (fun P hP => ?_)⟩, ⟨s_tks_y hy1, hn, fun a => ⟨by show ω.1 ≤ _; (try dsimp only); omega, (hG.2.2 h0).2⟩⟩, fun a => ⟨h0, by show y.1 + 1 ≤ _ + (1 - 0); (try dsimp only); omega, rfl, by show ω.1 + y.1 ≤ _ + ω.1; (try dsimp only); omega⟩⟩
        · obtain ⟨F, rfl⟩ : ∃ F, F1 = F + 1 := ⟨F1 - 1, by omega⟩
          show jW (F_Law_readProduct_c8 Rc (F_Law_readProduct_l8 Rc F) q 65 (nI o) (nI T) (jz_I h J)) P
          unfold F_Law_readProduct_c8
          simp (disch := omega) only [↓dR_64_0 hL, ↓dK_65 hL, ↓dG_65 hL, ↓dP_65 hL, ↓dK_L hL hl, ↓dG_L hL hl, ↓dP_L hL hl, ↓reduceIte, ↓kq_bi, ↓kq_let, ↓kq_rz0, ↓kq_rz1, ↓kq_rzB, ↓Option.bind_some, kq_dvn, kt_lt, kf_lt, kt_eq, kf_eq, decide_true, decide_false, eq_self, Bool.false_eq_true, Bool.true_eq_false, not_true_eq_false, not_false_eq_true, jU_eq, jU_ne, jU_U, jV_eq, jV_ne, jV_V, kn_lit, kn_add, kn_mul, kn_sdm, kn_sub, kn_div, kn_nsdm, kn_lt, kn_eq, kn_pred, kn_m1, kn_m1', kn_a31, kn_shl, kn_shr, kn_bit, nB_0, nB_1, nB_t, nB_f, Nat.zero_add, Nat.add_zero, Nat.reduceAdd, Nat.reduceMul, Nat.reduceSub, Nat.reducePow]
          refine jW_bi (c_take hL hJ.2.1 (ch := 42) (by omega)) (fun K1 hK1 => ?_)
          have J1 := jLC_T1 hl hJ hK1.1 hK1.2 (fun a => by rw [s_tks_2] at a; exact a)
          rw [g1]
          simp (disch := omega) only [↓dR_64_0 hL, ↓dK_65 hL, ↓dG_65 hL, ↓dP_65 hL, ↓dK_L hL hl, ↓dG_L hL hl, ↓dP_L hL hl, ↓reduceIte, ↓kq_bi, ↓kq_let, ↓kq_rz0, ↓kq_rz1, ↓kq_rzB, ↓Option.bind_some, kq_dvn, kt_lt, kf_lt, kt_eq, kf_eq, decide_true, decide_false, eq_self, Bool.false_eq_true, Bool.true_eq_false, not_true_eq_false, not_false_eq_true, jU_eq, jU_ne, jU_U, jV_eq, jV_ne, jV_V, kn_lit, kn_add, kn_mul, kn_sdm, kn_sub, kn_div, kn_nsdm, kn_lt, kn_eq, kn_pred, kn_m1, kn_m1', kn_a31, kn_shl, kn_shr, kn_bit, nB_0, nB_1, nB_t, nB_f, Nat.zero_add, Nat.add_zero, Nat.reduceAdd, Nat.reduceMul, Nat.reduceSub, Nat.reducePow]
          refine jW_bi (c_take hL hK1.1 (ch := 47) (by omega)) (fun K2 hK2 => ?_)
          have J2 := jLC_T1 hl J1 hK2.1 hK2.2 (fun a => by rw [s_tks_2] at a; exact a)
          rw [g2]
          simp (disch := omega) only [↓dR_64_0 hL, ↓dK_65 hL, ↓dG_65 hL, ↓dP_65 hL, ↓dK_L hL hl, ↓dG_L hL hl, ↓dP_L hL hl, ↓reduceIte, ↓kq_bi, ↓kq_let, ↓kq_rz0, ↓kq_rz1, ↓kq_rzB, ↓Option.bind_some, kq_dvn, kt_lt, kf_lt, kt_eq, kf_eq, decide_true, decide_false, eq_self, Bool.false_eq_true, Bool.true_eq_false, not_true_eq_false, not_false_eq_true, jU_eq, jU_ne, jU_U, jV_eq, jV_ne, jV_V, kn_lit, kn_add, kn_mul, kn_sdm, kn_sub, kn_div, kn_nsdm, kn_lt, kn_eq, kn_pred, kn_m1, kn_m1', kn_a31, kn_shl, kn_shr, kn_bit, nB_0, nB_1, nB_t, nB_f, Nat.zero_add, Nat.add_zero, Nat.reduceAdd, Nat.reduceMul, Nat.reduceSub, Nat.reducePow]
          exact jW_s (hP K2 ⟨J2, jFC_trans (jFC_T1 hK1.2) (jFC_T1 hK2.2)⟩)
        · obtain ⟨F, rfl⟩ : ∃ F, F2 = F + 1 := ⟨F2 - 1, by omega⟩
          have h5 : J 205 5 = nI y.2.1 := hJ.1.2.2.1.1
          rw [h0] at h5
          show jW (F_Mod_product_c4 R (F_Mod_product_l4 R F) 205 (jz_I h' J)) P
          unfold F_Mod_product_c4
          simp (disch := omega) only [h5, ↓dK_205 hM, ↓dG_205 hM, ↓dP_205 hM, ↓dZ_205 hM (x := nI 0) (Or.inl rfl), ↓dZ_205 hM (x := nI 1) (Or.inr rfl), ↓dZ_205 hM (Or.inl rfl), ↓dZ_205 hM (Or.inr rfl), ↓dZ_205 hM (nB_01 _), ↓reduceIte, ↓kq_bi, ↓kq_let, ↓kq_rz0, ↓kq_rz1, ↓kq_rzB, ↓Option.bind_some, kq_dvn, kt_lt, kf_lt, kt_eq, kf_eq, decide_true, decide_false, eq_self, Bool.false_eq_true, Bool.true_eq_false, not_true_eq_false, not_false_eq_true, jU_eq, jU_ne, jU_U, jV_eq, jV_ne, jV_V, kn_lit, kn_add, kn_mul, kn_sdm, kn_sub, kn_div, kn_nsdm, kn_lt, kn_eq, kn_pred, kn_m1, kn_m1', kn_a31, kn_shl, kn_shr, kn_bit, nB_0, nB_1, nB_t, nB_f, Nat.zero_add, Nat.add_zero, Nat.reduceAdd, Nat.reduceMul, Nat.reduceSub, Nat.reducePow]
          refine jW_bi (m_takesSign hM hJ.1 (ch := 42) (by omega)) (fun K1 hK1 => ?_)
          have J1 := jLM_M1 hJ hK1.1 hK1.2 (fun a => by rw [s_tks_2] at a; exact a)
          rw [g1]
          simp (disch := omega) only [↓dK_205 hM, ↓dG_205 hM, ↓dP_205 hM, ↓dZ_205 hM (x := nI 0) (Or.inl rfl), ↓dZ_205 hM (x := nI 1) (Or.inr rfl), ↓dZ_205 hM (Or.inl rfl), ↓dZ_205 hM (Or.inr rfl), ↓dZ_205 hM (nB_01 _), ↓reduceIte, ↓kq_bi, ↓kq_let, ↓kq_rz0, ↓kq_rz1, ↓kq_rzB, ↓Option.bind_some, kq_dvn, kt_lt, kf_lt, kt_eq, kf_eq, decide_true, decide_false, eq_self, Bool.false_eq_true, Bool.true_eq_false, not_true_eq_false, not_false_eq_true, jU_eq, jU_ne, jU_U, jV_eq, jV_ne, jV_V, kn_lit, kn_add, kn_mul, kn_sdm, kn_sub, kn_div, kn_nsdm, kn_lt, kn_eq, kn_pred, kn_m1, kn_m1', kn_a31, kn_shl, kn_shr, kn_bit, nB_0, nB_1, nB_t, nB_f, Nat.zero_add, Nat.add_zero, Nat.reduceAdd, Nat.reduceMul, Nat.reduceSub, Nat.reducePow]
          refine jW_bi (m_takesSign hM hK1.1 (ch := 47) (by omega)) (fun K2 hK2 => ?_)
          have J2 := jLM_M1 J1 hK2.1 hK2.2 (fun a => by rw [s_tks_2] at a; exact a)
          rw [g2]
          simp (disch := omega) only [↓dK_205 hM, ↓dG_205 hM, ↓dP_205 hM, ↓dZ_205 hM (x := nI 0) (Or.inl rfl), ↓dZ_205 hM (x := nI 1) (Or.inr rfl), ↓dZ_205 hM (Or.inl rfl), ↓dZ_205 hM (Or.inr rfl), ↓dZ_205 hM (nB_01 _), ↓reduceIte, ↓kq_bi, ↓kq_let, ↓kq_rz0, ↓kq_rz1, ↓kq_rzB, ↓Option.bind_some, kq_dvn, kt_lt, kf_lt, kt_eq, kf_eq, decide_true, decide_false, eq_self, Bool.false_eq_true, Bool.true_eq_false, not_true_eq_false, not_false_eq_true, jU_eq, jU_ne, jU_U, jV_eq, jV_ne, jV_V, kn_lit, kn_add, kn_mul, kn_sdm, kn_sub, kn_div, kn_nsdm, kn_lt, kn_eq, kn_pred, kn_m1, kn_m1', kn_a31, kn_shl, kn_shr, kn_bit, nB_0, nB_1, nB_t, nB_f, Nat.zero_add, Nat.add_zero, Nat.reduceAdd, Nat.reduceMul, Nat.reduceSub, Nat.reducePow]
          unfold F_Mod_product_b38
          simp (disch := omega) only [↓dK_205 hM, ↓dG_205 hM, ↓dP_205 hM, ↓dZ_205 hM (x := nI 0) (Or.inl rfl), ↓dZ_205 hM (x := nI 1) (Or.inr rfl), ↓dZ_205 hM (Or.inl rfl), ↓dZ_205 hM (Or.inr rfl), ↓dZ_205 hM (nB_01 _), ↓reduceIte, ↓kq_bi, ↓kq_let, ↓kq_rz0, ↓kq_rz1, ↓kq_rzB, ↓Option.bind_some, kq_dvn, kt_lt, kf_lt, kt_eq, kf_eq, decide_true, decide_false, eq_self, Bool.false_eq_true, Bool.true_eq_false, not_true_eq_false, not_false_eq_true, jU_eq, jU_ne, jU_U, jV_eq, jV_ne, jV_V, kn_lit, kn_add, kn_mul, kn_sdm, kn_sub, kn_div, kn_nsdm, kn_lt, kn_eq, kn_pred, kn_m1, kn_m1', kn_a31, kn_shl, kn_shr, kn_bit, nB_0, nB_1, nB_t, nB_f, Nat.zero_add, Nat.add_zero, Nat.reduceAdd, Nat.reduceMul, Nat.reduceSub, Nat.reducePow]
          exact jW_s (hP K2 ⟨J2, jFM_trans (jFM_M1 hK1.2) (jFM_M1 hK2.2)⟩)
      · obtain ⟨s2, s', simU, hroom, simL, hG', hU'⟩ := go (s_tks tp n 47 (s_tks tp n 42 y)) 5 (by omega) (s_tks_y hy1) (Nat.le_trans (Nat.succ_le_succ hge1) (s_tks_ge hy1 g2)) (s_tks_2.trans s_tks_2)
        refine ⟨s', fun F1 F2 f1 f2 => ⟨fun t u l m b c h q hL hl J hJ => jE_n (fun P hP => ?_), fun t' u' l' m' b' c' h' hM J hJ => jE_n (fun P hP => ?_)⟩, hG', hU'⟩
        · obtain ⟨F, rfl⟩ : ∃ F, F1 = F + 1 := ⟨F1 - 1, by omega⟩
          show jW (F_Law_readProduct_c8 Rc (F_Law_readProduct_l8 Rc F) q 65 (nI o) (nI T) (jz_I h J)) P
          unfold F_Law_readProduct_c8
          simp (disch := omega) only [↓dR_64_0 hL, ↓dK_65 hL, ↓dG_65 hL, ↓dP_65 hL, ↓dK_L hL hl, ↓dG_L hL hl, ↓dP_L hL hl, ↓reduceIte, ↓kq_bi, ↓kq_let, ↓kq_rz0, ↓kq_rz1, ↓kq_rzB, ↓Option.bind_some, kq_dvn, kt_lt, kf_lt, kt_eq, kf_eq, decide_true, decide_false, eq_self, Bool.false_eq_true, Bool.true_eq_false, not_true_eq_false, not_false_eq_true, jU_eq, jU_ne, jU_U, jV_eq, jV_ne, jV_V, kn_lit, kn_add, kn_mul, kn_sdm, kn_sub, kn_div, kn_nsdm, kn_lt, kn_eq, kn_pred, kn_m1, kn_m1', kn_a31, kn_shl, kn_shr, kn_bit, nB_0, nB_1, nB_t, nB_f, Nat.zero_add, Nat.add_zero, Nat.reduceAdd, Nat.reduceMul, Nat.reduceSub, Nat.reducePow]
          refine jW_bi (c_take hL hJ.2.1 (ch := 42) (by omega)) (fun K1 hK1 => ?_)
          have J1 := jLC_T1 hl hJ hK1.1 hK1.2 (fun a => by rw [s_tks_2] at a; exact a)
          rw [g1]
          simp (disch := omega) only [↓dR_64_0 hL, ↓dK_65 hL, ↓dG_65 hL, ↓dP_65 hL, ↓dK_L hL hl, ↓dG_L hL hl, ↓dP_L hL hl, ↓reduceIte, ↓kq_bi, ↓kq_let, ↓kq_rz0, ↓kq_rz1, ↓kq_rzB, ↓Option.bind_some, kq_dvn, kt_lt, kf_lt, kt_eq, kf_eq, decide_true, decide_false, eq_self, Bool.false_eq_true, Bool.true_eq_false, not_true_eq_false, not_false_eq_true, jU_eq, jU_ne, jU_U, jV_eq, jV_ne, jV_V, kn_lit, kn_add, kn_mul, kn_sdm, kn_sub, kn_div, kn_nsdm, kn_lt, kn_eq, kn_pred, kn_m1, kn_m1', kn_a31, kn_shl, kn_shr, kn_bit, nB_0, nB_1, nB_t, nB_f, Nat.zero_add, Nat.add_zero, Nat.reduceAdd, Nat.reduceMul, Nat.reduceSub, Nat.reducePow]
          refine jW_bi (c_take hL hK1.1 (ch := 47) (by omega)) (fun K2 hK2 => ?_)
          have J2 := jLC_T1 hl J1 hK2.1 hK2.2 (fun a => by rw [s_tks_2] at a; exact a)
          rw [g2]
          simp (disch := omega) only [↓dR_64_0 hL, ↓dK_65 hL, ↓dG_65 hL, ↓dP_65 hL, ↓dK_L hL hl, ↓dG_L hL hl, ↓dP_L hL hl, ↓reduceIte, ↓kq_bi, ↓kq_let, ↓kq_rz0, ↓kq_rz1, ↓kq_rzB, ↓Option.bind_some, kq_dvn, kt_lt, kf_lt, kt_eq, kf_eq, decide_true, decide_false, eq_self, Bool.false_eq_true, Bool.true_eq_false, not_true_eq_false, not_false_eq_true, jU_eq, jU_ne, jU_U, jV_eq, jV_ne, jV_V, kn_lit, kn_add, kn_mul, kn_sdm, kn_sub, kn_div, kn_nsdm, kn_lt, kn_eq, kn_pred, kn_m1, kn_m1', kn_a31, kn_shl, kn_shr, kn_bit, nB_0, nB_1, nB_t, nB_f, Nat.zero_add, Nat.add_zero, Nat.reduceAdd, Nat.reduceMul, Nat.reduceSub, Nat.reducePow]
          refine jW_bn (simU.1 t u l m b c h q hL hl _ J2) (fun K3 hK3 => ?_)
          simp (disch := omega) only [↓dR_64_0 hL, ↓dK_65 hL, ↓dG_65 hL, ↓dP_65 hL, ↓dK_L hL hl, ↓dG_L hL hl, ↓dP_L hL hl, ↓reduceIte, ↓kq_bi, ↓kq_let, ↓kq_rz0, ↓kq_rz1, ↓kq_rzB, ↓Option.bind_some, kq_dvn, kt_lt, kf_lt, kt_eq, kf_eq, decide_true, decide_false, eq_self, Bool.false_eq_true, Bool.true_eq_false, not_true_eq_false, not_false_eq_true, jU_eq, jU_ne, jU_U, jV_eq, jV_ne, jV_V, kn_lit, kn_add, kn_mul, kn_sdm, kn_sub, kn_div, kn_nsdm, kn_lt, kn_eq, kn_pred, kn_m1, kn_m1', kn_a31, kn_shl, kn_shr, kn_bit, nB_0, nB_1, nB_t, nB_f, Nat.zero_add, Nat.add_zero, Nat.reduceAdd, Nat.reduceMul, Nat.reduceSub, Nat.reducePow]
          refine jW_bn (c_putS hL hl hK3.1 (w := 5) (v := 0) (fun a => ⟨by decide, hroom a⟩)) (fun K4 hK4 => ?_)
          unfold F_Law_readProduct_b64
          simp (disch := omega) only [↓reduceIte, ↓kq_bi, ↓kq_let, ↓kq_rz0, ↓kq_rz1, ↓kq_rzB, ↓Option.bind_some, kq_dvn, kt_lt, kf_lt, kt_eq, kf_eq, decide_true, decide_false, eq_self, Bool.false_eq_true, Bool.true_eq_false, not_true_eq_false, not_false_eq_true, jU_eq, jU_ne, jU_U, jV_eq, jV_ne, jV_V, kn_lit, kn_add, kn_mul, kn_sdm, kn_sub, kn_div, kn_nsdm, kn_lt, kn_eq, kn_pred, kn_m1, kn_m1', kn_a31, kn_shl, kn_shr, kn_bit, nB_0, nB_1, nB_t, nB_f, Nat.zero_add, Nat.add_zero, Nat.reduceAdd, Nat.reduceMul, Nat.reduceSub, Nat.reducePow]
          obtain ⟨K5, e5, k5, kF5⟩ := (simL F F (by omega) (by omega)).1 t u l m b c h q hL hl K4 hK4.1
          exact jW_e e5 (hP K5 ⟨k5, jFC_trans (jFC_T1 hK1.2) (jFC_trans (jFC_T1 hK2.2) (jFC_trans hK3.2 (jFC_trans hK4.2 kF5)))⟩)
        · obtain ⟨F, rfl⟩ : ∃ F, F2 = F + 1 := ⟨F2 - 1, by omega⟩
          have h5 : J 205 5 = nI y.2.1 := hJ.1.2.2.1.1
          rw [h0] at h5
          show jW (F_Mod_product_c4 R (F_Mod_product_l4 R F) 205 (jz_I h' J)) P
          unfold F_Mod_product_c4
          simp (disch := omega) only [h5, ↓dK_205 hM, ↓dG_205 hM, ↓dP_205 hM, ↓dZ_205 hM (x := nI 0) (Or.inl rfl), ↓dZ_205 hM (x := nI 1) (Or.inr rfl), ↓dZ_205 hM (Or.inl rfl), ↓dZ_205 hM (Or.inr rfl), ↓dZ_205 hM (nB_01 _), ↓reduceIte, ↓kq_bi, ↓kq_let, ↓kq_rz0, ↓kq_rz1, ↓kq_rzB, ↓Option.bind_some, kq_dvn, kt_lt, kf_lt, kt_eq, kf_eq, decide_true, decide_false, eq_self, Bool.false_eq_true, Bool.true_eq_false, not_true_eq_false, not_false_eq_true, jU_eq, jU_ne, jU_U, jV_eq, jV_ne, jV_V, kn_lit, kn_add, kn_mul, kn_sdm, kn_sub, kn_div, kn_nsdm, kn_lt, kn_eq, kn_pred, kn_m1, kn_m1', kn_a31, kn_shl, kn_shr, kn_bit, nB_0, nB_1, nB_t, nB_f, Nat.zero_add, Nat.add_zero, Nat.reduceAdd, Nat.reduceMul, Nat.reduceSub, Nat.reducePow]
          refine jW_bi (m_takesSign hM hJ.1 (ch := 42) (by omega)) (fun K1 hK1 => ?_)
          have J1 := jLM_M1 hJ hK1.1 hK1.2 (fun a => by rw [s_tks_2] at a; exact a)
          rw [g1]
          simp (disch := omega) only [↓dK_205 hM, ↓dG_205 hM, ↓dP_205 hM, ↓dZ_205 hM (x := nI 0) (Or.inl rfl), ↓dZ_205 hM (x := nI 1) (Or.inr rfl), ↓dZ_205 hM (Or.inl rfl), ↓dZ_205 hM (Or.inr rfl), ↓dZ_205 hM (nB_01 _), ↓reduceIte, ↓kq_bi, ↓kq_let, ↓kq_rz0, ↓kq_rz1, ↓kq_rzB, ↓Option.bind_some, kq_dvn, kt_lt, kf_lt, kt_eq, kf_eq, decide_true, decide_false, eq_self, Bool.false_eq_true, Bool.true_eq_false, not_true_eq_false, not_false_eq_true, jU_eq, jU_ne, jU_U, jV_eq, jV_ne, jV_V, kn_lit, kn_add, kn_mul, kn_sdm, kn_sub, kn_div, kn_nsdm, kn_lt, kn_eq, kn_pred, kn_m1, kn_m1', kn_a31, kn_shl, kn_shr, kn_bit, nB_0, nB_1, nB_t, nB_f, Nat.zero_add, Nat.add_zero, Nat.reduceAdd, Nat.reduceMul, Nat.reduceSub, Nat.reducePow]
          refine jW_bi (m_takesSign hM hK1.1 (ch := 47) (by omega)) (fun K2 hK2 => ?_)
          have J2 := jLM_M1 J1 hK2.1 hK2.2 (fun a => by rw [s_tks_2] at a; exact a)
          rw [g2]
          simp (disch := omega) only [↓dK_205 hM, ↓dG_205 hM, ↓dP_205 hM, ↓dZ_205 hM (x := nI 0) (Or.inl rfl), ↓dZ_205 hM (x := nI 1) (Or.inr rfl), ↓dZ_205 hM (Or.inl rfl), ↓dZ_205 hM (Or.inr rfl), ↓dZ_205 hM (nB_01 _), ↓reduceIte, ↓kq_bi, ↓kq_let, ↓kq_rz0, ↓kq_rz1, ↓kq_rzB, ↓Option.bind_some, kq_dvn, kt_lt, kf_lt, kt_eq, kf_eq, decide_true, decide_false, eq_self, Bool.false_eq_true, Bool.true_eq_false, not_true_eq_false, not_false_eq_true, jU_eq, jU_ne, jU_U, jV_eq, jV_ne, jV_V, kn_lit, kn_add, kn_mul, kn_sdm, kn_sub, kn_div, kn_nsdm, kn_lt, kn_eq, kn_pred, kn_m1, kn_m1', kn_a31, kn_shl, kn_shr, kn_bit, nB_0, nB_1, nB_t, nB_f, Nat.zero_add, Nat.add_zero, Nat.reduceAdd, Nat.reduceMul, Nat.reduceSub, Nat.reducePow]
          unfold F_Mod_product_b38
          simp (disch := omega) only [↓dK_205 hM, ↓dG_205 hM, ↓dP_205 hM, ↓dZ_205 hM (x := nI 0) (Or.inl rfl), ↓dZ_205 hM (x := nI 1) (Or.inr rfl), ↓dZ_205 hM (Or.inl rfl), ↓dZ_205 hM (Or.inr rfl), ↓dZ_205 hM (nB_01 _), ↓reduceIte, ↓kq_bi, ↓kq_let, ↓kq_rz0, ↓kq_rz1, ↓kq_rzB, ↓Option.bind_some, kq_dvn, kt_lt, kf_lt, kt_eq, kf_eq, decide_true, decide_false, eq_self, Bool.false_eq_true, Bool.true_eq_false, not_true_eq_false, not_false_eq_true, jU_eq, jU_ne, jU_U, jV_eq, jV_ne, jV_V, kn_lit, kn_add, kn_mul, kn_sdm, kn_sub, kn_div, kn_nsdm, kn_lt, kn_eq, kn_pred, kn_m1, kn_m1', kn_a31, kn_shl, kn_shr, kn_bit, nB_0, nB_1, nB_t, nB_f, Nat.zero_add, Nat.add_zero, Nat.reduceAdd, Nat.reduceMul, Nat.reduceSub, Nat.reducePow]
          refine jW_bn (simU.2 t' u' l' m' b' c' h' hM _ J2) (fun K3 hK3 => ?_)
          simp (disch := omega) only [↓dK_205 hM, ↓dG_205 hM, ↓dP_205 hM, ↓dZ_205 hM (x := nI 0) (Or.inl rfl), ↓dZ_205 hM (x := nI 1) (Or.inr rfl), ↓dZ_205 hM (Or.inl rfl), ↓dZ_205 hM (Or.inr rfl), ↓dZ_205 hM (nB_01 _), ↓reduceIte, ↓kq_bi, ↓kq_let, ↓kq_rz0, ↓kq_rz1, ↓kq_rzB, ↓Option.bind_some, kq_dvn, kt_lt, kf_lt, kt_eq, kf_eq, decide_true, decide_false, eq_self, Bool.false_eq_true, Bool.true_eq_false, not_true_eq_false, not_false_eq_true, jU_eq, jU_ne, jU_U, jV_eq, jV_ne, jV_V, kn_lit, kn_add, kn_mul, kn_sdm, kn_sub, kn_div, kn_nsdm, kn_lt, kn_eq, kn_pred, kn_m1, kn_m1', kn_a31, kn_shl, kn_shr, kn_bit, nB_0, nB_1, nB_t, nB_f, Nat.zero_add, Nat.add_zero, Nat.reduceAdd, Nat.reduceMul, Nat.reduceSub, Nat.reducePow]
          refine jW_bn (m_notesS hM hK3.1 (w := 5) (v := 0) (fun a => ⟨rfl, rfl, hroom a⟩)) (fun K4 hK4 => ?_)
          obtain ⟨K5, e5, k5, kF5⟩ := (simL F F (by omega) (by omega)).2 t' u' l' m' b' c' h' hM K4 hK4.1
          exact jW_e e5 (hP K5 ⟨k5, jFM_trans (jFM_M1 hK1.2) (jFM_trans (jFM_M1 hK2.2) (jFM_trans hK3.2 (jFM_trans hK4.2 kF5)))⟩)
    · obtain ⟨s2, s', simU, hroom, simL, hG', hU'⟩ := go (s_tks tp n 42 y) 4 (by omega) (s_tks_y hy) (s_tks_ge hy g1) s_tks_2
      refine ⟨s', fun F1 F2 f1 f2 => ⟨fun t u l m b c h q hL hl J hJ => jE_n (fun P hP => ?_), fun t' u' l' m' b' c' h' hM J hJ => jE_n (fun P hP => ?_)⟩, hG', hU'⟩
      · obtain ⟨F, rfl⟩ : ∃ F, F1 = F + 1 := ⟨F1 - 1, by omega⟩
        show jW (F_Law_readProduct_c8 Rc (F_Law_readProduct_l8 Rc F) q 65 (nI o) (nI T) (jz_I h J)) P
        unfold F_Law_readProduct_c8
        simp (disch := omega) only [↓dR_64_0 hL, ↓dK_65 hL, ↓dG_65 hL, ↓dP_65 hL, ↓dK_L hL hl, ↓dG_L hL hl, ↓dP_L hL hl, ↓reduceIte, ↓kq_bi, ↓kq_let, ↓kq_rz0, ↓kq_rz1, ↓kq_rzB, ↓Option.bind_some, kq_dvn, kt_lt, kf_lt, kt_eq, kf_eq, decide_true, decide_false, eq_self, Bool.false_eq_true, Bool.true_eq_false, not_true_eq_false, not_false_eq_true, jU_eq, jU_ne, jU_U, jV_eq, jV_ne, jV_V, kn_lit, kn_add, kn_mul, kn_sdm, kn_sub, kn_div, kn_nsdm, kn_lt, kn_eq, kn_pred, kn_m1, kn_m1', kn_a31, kn_shl, kn_shr, kn_bit, nB_0, nB_1, nB_t, nB_f, Nat.zero_add, Nat.add_zero, Nat.reduceAdd, Nat.reduceMul, Nat.reduceSub, Nat.reducePow]
        refine jW_bi (c_take hL hJ.2.1 (ch := 42) (by omega)) (fun K1 hK1 => ?_)
        have J1 := jLC_T1 hl hJ hK1.1 hK1.2 (fun a => by rw [s_tks_2] at a; exact a)
        rw [g1]
        simp (disch := omega) only [↓dR_64_0 hL, ↓dK_65 hL, ↓dG_65 hL, ↓dP_65 hL, ↓dK_L hL hl, ↓dG_L hL hl, ↓dP_L hL hl, ↓reduceIte, ↓kq_bi, ↓kq_let, ↓kq_rz0, ↓kq_rz1, ↓kq_rzB, ↓Option.bind_some, kq_dvn, kt_lt, kf_lt, kt_eq, kf_eq, decide_true, decide_false, eq_self, Bool.false_eq_true, Bool.true_eq_false, not_true_eq_false, not_false_eq_true, jU_eq, jU_ne, jU_U, jV_eq, jV_ne, jV_V, kn_lit, kn_add, kn_mul, kn_sdm, kn_sub, kn_div, kn_nsdm, kn_lt, kn_eq, kn_pred, kn_m1, kn_m1', kn_a31, kn_shl, kn_shr, kn_bit, nB_0, nB_1, nB_t, nB_f, Nat.zero_add, Nat.add_zero, Nat.reduceAdd, Nat.reduceMul, Nat.reduceSub, Nat.reducePow]
        refine jW_bn (simU.1 t u l m b c h q hL hl _ J1) (fun K3 hK3 => ?_)
        simp (disch := omega) only [↓dR_64_0 hL, ↓dK_65 hL, ↓dG_65 hL, ↓dP_65 hL, ↓dK_L hL hl, ↓dG_L hL hl, ↓dP_L hL hl, ↓reduceIte, ↓kq_bi, ↓kq_let, ↓kq_rz0, ↓kq_rz1, ↓kq_rzB, ↓Option.bind_some, kq_dvn, kt_lt, kf_lt, kt_eq, kf_eq, decide_true, decide_false, eq_self, Bool.false_eq_true, Bool.true_eq_false, not_true_eq_false, not_false_eq_true, jU_eq, jU_ne, jU_U, jV_eq, jV_ne, jV_V, kn_lit, kn_add, kn_mul, kn_sdm, kn_sub, kn_div, kn_nsdm, kn_lt, kn_eq, kn_pred, kn_m1, kn_m1', kn_a31, kn_shl, kn_shr, kn_bit, nB_0, nB_1, nB_t, nB_f, Nat.zero_add, Nat.add_zero, Nat.reduceAdd, Nat.reduceMul, Nat.reduceSub, Nat.reducePow]
        refine jW_bn (c_putS hL hl hK3.1 (w := 4) (v := 0) (fun a => ⟨by decide, hroom a⟩)) (fun K4 hK4 => ?_)
        unfold F_Law_readProduct_b64
        simp (disch := omega) only [↓reduceIte, ↓kq_bi, ↓kq_let, ↓kq_rz0, ↓kq_rz1, ↓kq_rzB, ↓Option.bind_some, kq_dvn, kt_lt, kf_lt, kt_eq, kf_eq, decide_true, decide_false, eq_self, Bool.false_eq_true, Bool.true_eq_false, not_true_eq_false, not_false_eq_true, jU_eq, jU_ne, jU_U, jV_eq, jV_ne, jV_V, kn_lit, kn_add, kn_mul, kn_sdm, kn_sub, kn_div, kn_nsdm, kn_lt, kn_eq, kn_pred, kn_m1, kn_m1', kn_a31, kn_shl, kn_shr, kn_bit, nB_0, nB_1, nB_t, nB_f, Nat.zero_add, Nat.add_zero, Nat.reduceAdd, Nat.reduceMul, Nat.reduceSub, Nat.reducePow]
        obtain ⟨K5, e5, k5, kF5⟩ := (simL F F (by omega) (by omega)).1 t u l m b c h q hL hl K4 hK4.1
        exact jW_e e5 (hP K5 ⟨k5, jFC_trans (jFC_T1 hK1.2) (jFC_trans hK3.2 (jFC_trans hK4.2 kF5))⟩)
      · obtain ⟨F, rfl⟩ : ∃ F, F2 = F + 1 := ⟨F2 - 1, by omega⟩
        have h5 : J 205 5 = nI y.2.1 := hJ.1.2.2.1.1
        rw [h0] at h5
        show jW (F_Mod_product_c4 R (F_Mod_product_l4 R F) 205 (jz_I h' J)) P
        unfold F_Mod_product_c4
        simp (disch := omega) only [h5, ↓dK_205 hM, ↓dG_205 hM, ↓dP_205 hM, ↓dZ_205 hM (x := nI 0) (Or.inl rfl), ↓dZ_205 hM (x := nI 1) (Or.inr rfl), ↓dZ_205 hM (Or.inl rfl), ↓dZ_205 hM (Or.inr rfl), ↓dZ_205 hM (nB_01 _), ↓reduceIte, ↓kq_bi, ↓kq_let, ↓kq_rz0, ↓kq_rz1, ↓kq_rzB, ↓Option.bind_some, kq_dvn, kt_lt, kf_lt, kt_eq, kf_eq, decide_true, decide_false, eq_self, Bool.false_eq_true, Bool.true_eq_false, not_true_eq_false, not_false_eq_true, jU_eq, jU_ne, jU_U, jV_eq, jV_ne, jV_V, kn_lit, kn_add, kn_mul, kn_sdm, kn_sub, kn_div, kn_nsdm, kn_lt, kn_eq, kn_pred, kn_m1, kn_m1', kn_a31, kn_shl, kn_shr, kn_bit, nB_0, nB_1, nB_t, nB_f, Nat.zero_add, Nat.add_zero, Nat.reduceAdd, Nat.reduceMul, Nat.reduceSub, Nat.reducePow]
        refine jW_bi (m_takesSign hM hJ.1 (ch := 42) (by omega)) (fun K1 hK1 => ?_)
        have J1 := jLM_M1 hJ hK1.1 hK1.2 (fun a => by rw [s_tks_2] at a; exact a)
        rw [g1]
        simp (disch := omega) only [↓dK_205 hM, ↓dG_205 hM, ↓dP_205 hM, ↓dZ_205 hM (x := nI 0) (Or.inl rfl), ↓dZ_205 hM (x := nI 1) (Or.inr rfl), ↓dZ_205 hM (Or.inl rfl), ↓dZ_205 hM (Or.inr rfl), ↓dZ_205 hM (nB_01 _), ↓reduceIte, ↓kq_bi, ↓kq_let, ↓kq_rz0, ↓kq_rz1, ↓kq_rzB, ↓Option.bind_some, kq_dvn, kt_lt, kf_lt, kt_eq, kf_eq, decide_true, decide_false, eq_self, Bool.false_eq_true, Bool.true_eq_false, not_true_eq_false, not_false_eq_true, jU_eq, jU_ne, jU_U, jV_eq, jV_ne, jV_V, kn_lit, kn_add, kn_mul, kn_sdm, kn_sub, kn_div, kn_nsdm, kn_lt, kn_eq, kn_pred, kn_m1, kn_m1', kn_a31, kn_shl, kn_shr, kn_bit, nB_0, nB_1, nB_t, nB_f, Nat.zero_add, Nat.add_zero, Nat.reduceAdd, Nat.reduceMul, Nat.reduceSub, Nat.reducePow]
        unfold F_Mod_product_b38
        simp (disch := omega) only [↓dK_205 hM, ↓dG_205 hM, ↓dP_205 hM, ↓dZ_205 hM (x := nI 0) (Or.inl rfl), ↓dZ_205 hM (x := nI 1) (Or.inr rfl), ↓dZ_205 hM (Or.inl rfl), ↓dZ_205 hM (Or.inr rfl), ↓dZ_205 hM (nB_01 _), ↓reduceIte, ↓kq_bi, ↓kq_let, ↓kq_rz0, ↓kq_rz1, ↓kq_rzB, ↓Option.bind_some, kq_dvn, kt_lt, kf_lt, kt_eq, kf_eq, decide_true, decide_false, eq_self, Bool.false_eq_true, Bool.true_eq_false, not_true_eq_false, not_false_eq_true, jU_eq, jU_ne, jU_U, jV_eq, jV_ne, jV_V, kn_lit, kn_add, kn_mul, kn_sdm, kn_sub, kn_div, kn_nsdm, kn_lt, kn_eq, kn_pred, kn_m1, kn_m1', kn_a31, kn_shl, kn_shr, kn_bit, nB_0, nB_1, nB_t, nB_f, Nat.zero_add, Nat.add_zero, Nat.reduceAdd, Nat.reduceMul, Nat.reduceSub, Nat.reducePow]
        refine jW_bn (simU.2 t' u' l' m' b' c' h' hM _ J1) (fun K3 hK3 => ?_)
        simp (disch := omega) only [↓dK_205 hM, ↓dG_205 hM, ↓dP_205 hM, ↓dZ_205 hM (x := nI 0) (Or.inl rfl), ↓dZ_205 hM (x := nI 1) (Or.inr rfl), ↓dZ_205 hM (Or.inl rfl), ↓dZ_205 hM (Or.inr rfl), ↓dZ_205 hM (nB_01 _), ↓reduceIte, ↓kq_bi, ↓kq_let, ↓kq_rz0, ↓kq_rz1, ↓kq_rzB, ↓Option.bind_some, kq_dvn, kt_lt, kf_lt, kt_eq, kf_eq, decide_true, decide_false, eq_self, Bool.false_eq_true, Bool.true_eq_false, not_true_eq_false, not_false_eq_true, jU_eq, jU_ne, jU_U, jV_eq, jV_ne, jV_V, kn_lit, kn_add, kn_mul, kn_sdm, kn_sub, kn_div, kn_nsdm, kn_lt, kn_eq, kn_pred, kn_m1, kn_m1', kn_a31, kn_shl, kn_shr, kn_bit, nB_0, nB_1, nB_t, nB_f, Nat.zero_add, Nat.add_zero, Nat.reduceAdd, Nat.reduceMul, Nat.reduceSub, Nat.reducePow]
        refine jW_bn (m_notesS hM hK3.1 (w := 4) (v := 0) (fun a => ⟨rfl, rfl, hroom a⟩)) (fun K4 hK4 => ?_)
        obtain ⟨K5, e5, k5, kF5⟩ := (simL F F (by omega) (by omega)).2 t' u' l' m' b' c' h' hM K4 hK4.1
        exact jW_e e5 (hP K5 ⟨k5, jFM_trans (jFM_M1 hK1.2) (jFM_trans hK3.2 (jFM_trans hK4.2 kF5))⟩)
theorem x_product (hU : ∀ s, jLG n s → ∃ s', jSim tp n o (fun q => F_Law_readUnit Rc q 65 (nI o)) (F_Mod_one R 205) s s' ∧ jLG n s' ∧ jLU 1 s s') (hG : jLG n s) : ∃ s', jSim tp n o (fun q => F_Law_readProduct Rc q 65 (nI o)) (F_Mod_product R 205) s s' ∧ jLG n s' ∧ jLU 1 s s' := by
  obtain ⟨s1, sim, g1, u1⟩ := hU s hG
  have hn : n ≤ 150 := hG.2.1
  obtain ⟨s', simL, gL, uL⟩ := x_productL (Rc := Rc) (R := R) hU (n + 1) 0 s1 g1 (fun a => by
    obtain ⟨b1, b2, b3, b4⟩ := u1 a
    omega) (by omega)
  have simL := simL jF jF (by show n + 1 < 1000; omega) (by show n + 1 < 1000; omega)
  refine ⟨s', ⟨fun t u l m b c h q hL hl J hJ => jE_n (fun P hP => ?_), fun t' u' l' m' b' c' h' hM J hJ => jE_n (fun P hP => ?_)⟩, gL, jLU_trans u1 uL⟩
  · unfold F_Law_readProduct
    simp (disch := omega) only [↓dR_64_0 hL, ↓dK_65 hL, ↓dG_65 hL, ↓dP_65 hL, ↓dK_L hL hl, ↓dG_L hL hl, ↓dP_L hL hl, ↓reduceIte, ↓kq_bi, ↓kq_let, ↓kq_rz0, ↓kq_rz1, ↓kq_rzB, ↓Option.bind_some, kq_dvn, kt_lt, kf_lt, kt_eq, kf_eq, decide_true, decide_false, eq_self, Bool.false_eq_true, Bool.true_eq_false, not_true_eq_false, not_false_eq_true, jU_eq, jU_ne, jU_U, jV_eq, jV_ne, jV_V, kn_lit, kn_add, kn_mul, kn_sdm, kn_sub, kn_div, kn_nsdm, kn_lt, kn_eq, kn_pred, kn_m1, kn_m1', kn_a31, kn_shl, kn_shr, kn_bit, nB_0, nB_1, nB_t, nB_f, Nat.zero_add, Nat.add_zero, Nat.reduceAdd, Nat.reduceMul, Nat.reduceSub, Nat.reducePow]
    refine jW_bn (sim.1 t u l m b c h q hL hl J hJ) (fun K hK => ?_)
    obtain ⟨K2, e2, k2, kF2⟩ := simL.1 t u l m b c h q hL hl K hK.1
    exact jW_e e2 (hP K2 ⟨k2, jFC_trans hK.2 kF2⟩)
  · unfold F_Mod_product
    simp (disch := omega) only [↓dK_205 hM, ↓dG_205 hM, ↓dP_205 hM, ↓dZ_205 hM (x := nI 0) (Or.inl rfl), ↓dZ_205 hM (x := nI 1) (Or.inr rfl), ↓dZ_205 hM (Or.inl rfl), ↓dZ_205 hM (Or.inr rfl), ↓dZ_205 hM (nB_01 _), ↓reduceIte, ↓kq_bi, ↓kq_let, ↓kq_rz0, ↓kq_rz1, ↓kq_rzB, ↓Option.bind_some, kq_dvn, kt_lt, kf_lt, kt_eq, kf_eq, decide_true, decide_false, eq_self, Bool.false_eq_true, Bool.true_eq_false, not_true_eq_false, not_false_eq_true, jU_eq, jU_ne, jU_U, jV_eq, jV_ne, jV_V, kn_lit, kn_add, kn_mul, kn_sdm, kn_sub, kn_div, kn_nsdm, kn_lt, kn_eq, kn_pred, kn_m1, kn_m1', kn_a31, kn_shl, kn_shr, kn_bit, nB_0, nB_1, nB_t, nB_f, Nat.zero_add, Nat.add_zero, Nat.reduceAdd, Nat.reduceMul, Nat.reduceSub, Nat.reducePow]
    refine jW_bn (sim.2 t' u' l' m' b' c' h' hM J hJ) (fun K hK => ?_)
    obtain ⟨K2, e2, k2, kF2⟩ := simL.2 t' u' l' m' b' c' h' hM K hK.1
    exact jW_e e2 (hP K2 ⟨k2, jFM_trans hK.2 kF2⟩)
theorem x_sumF {T : Nat} (h0 : ¬ s.1.2.1 = 0) (hy : jTy n s.1) (ht9 : T ≤ 150) : ∀ F1 F2, 0 < F1 → 0 < F2 → jSim tp n o (fun q => F_Law_readSum_l8 Rc F1 q 65 (nI o) (nI T)) (F_Mod_sum_l4 R F2 205) s s := by
  obtain ⟨y, ω⟩ := s
  have y2 : y.2.1 ≤ 3 := hy.2.1
  have h0 : ¬ y.2.1 = 0 := h0
  have etk : ∀ ch, s_tk tp n ch y = false := fun ch => s_tk_no h0
  have ets : ∀ ch, s_tks tp n ch y = y := fun ch => by unfold s_tks; rw [etk, if_neg (show ¬ false = true by decide)]; exact if_neg h0
  refine fun F1 F2 f1 f2 => ⟨fun t u l m b c h q hL hl J hJ => jE_n (fun P hP => ?_), fun t' u' l' m' b' c' h' hM J hJ => ?_⟩
  · obtain ⟨F, rfl⟩ : ∃ F, F1 = F + 1 := ⟨F1 - 1, by omega⟩
    show jW (F_Law_readSum_c8 Rc (F_Law_readSum_l8 Rc F) q 65 (nI o) (nI T) (jz_I h J)) P
    unfold F_Law_readSum_c8
    by_cases t9 : T < 150
    · simp (disch := omega) only [↓dR_64_0 hL, ↓dK_65 hL, ↓dG_65 hL, ↓dP_65 hL, ↓dK_L hL hl, ↓dG_L hL hl, ↓dP_L hL hl, ↓reduceIte, ↓kq_bi, ↓kq_let, ↓kq_rz0, ↓kq_rz1, ↓kq_rzB, ↓Option.bind_some, kq_dvn, kt_lt, kf_lt, kt_eq, kf_eq, decide_true, decide_false, eq_self, Bool.false_eq_true, Bool.true_eq_false, not_true_eq_false, not_false_eq_true, jU_eq, jU_ne, jU_U, jV_eq, jV_ne, jV_V, kn_lit, kn_add, kn_mul, kn_sdm, kn_sub, kn_div, kn_nsdm, kn_lt, kn_eq, kn_pred, kn_m1, kn_m1', kn_a31, kn_shl, kn_shr, kn_bit, nB_0, nB_1, nB_t, nB_f, Nat.zero_add, Nat.add_zero, Nat.reduceAdd, Nat.reduceMul, Nat.reduceSub, Nat.reducePow]
      refine jW_bi (c_take hL hJ.2.1 (ch := 43) (by omega)) (fun K1 hK1 => ?_)
      rw [ets] at hK1
      have J1 := jLC_T1 hl hJ hK1.1 hK1.2 (fun a => a)
      rw [etk]
      simp (disch := omega) only [↓dR_64_0 hL, ↓dK_65 hL, ↓dG_65 hL, ↓dP_65 hL, ↓dK_L hL hl, ↓dG_L hL hl, ↓dP_L hL hl, ↓reduceIte, ↓kq_bi, ↓kq_let, ↓kq_rz0, ↓kq_rz1, ↓kq_rzB, ↓Option.bind_some, kq_dvn, kt_lt, kf_lt, kt_eq, kf_eq, decide_true, decide_false, eq_self, Bool.false_eq_true, Bool.true_eq_false, not_true_eq_false, not_false_eq_true, jU_eq, jU_ne, jU_U, jV_eq, jV_ne, jV_V, kn_lit, kn_add, kn_mul, kn_sdm, kn_sub, kn_div, kn_nsdm, kn_lt, kn_eq, kn_pred, kn_m1, kn_m1', kn_a31, kn_shl, kn_shr, kn_bit, nB_0, nB_1, nB_t, nB_f, Nat.zero_add, Nat.add_zero, Nat.reduceAdd, Nat.reduceMul, Nat.reduceSub, Nat.reducePow]
      refine jW_bi (c_take hL hK1.1 (ch := 45) (by omega)) (fun K2 hK2 => ?_)
      rw [ets] at hK2
      have J2 := jLC_T1 hl J1 hK2.1 hK2.2 (fun a => a)
      rw [etk]
      simp (disch := omega) only [↓dR_64_0 hL, ↓dK_65 hL, ↓dG_65 hL, ↓dP_65 hL, ↓dK_L hL hl, ↓dG_L hL hl, ↓dP_L hL hl, ↓reduceIte, ↓kq_bi, ↓kq_let, ↓kq_rz0, ↓kq_rz1, ↓kq_rzB, ↓Option.bind_some, kq_dvn, kt_lt, kf_lt, kt_eq, kf_eq, decide_true, decide_false, eq_self, Bool.false_eq_true, Bool.true_eq_false, not_true_eq_false, not_false_eq_true, jU_eq, jU_ne, jU_U, jV_eq, jV_ne, jV_V, kn_lit, kn_add, kn_mul, kn_sdm, kn_sub, kn_div, kn_nsdm, kn_lt, kn_eq, kn_pred, kn_m1, kn_m1', kn_a31, kn_shl, kn_shr, kn_bit, nB_0, nB_1, nB_t, nB_f, Nat.zero_add, Nat.add_zero, Nat.reduceAdd, Nat.reduceMul, Nat.reduceSub, Nat.reducePow]
      exact jW_s (hP K2 ⟨J2, jFC_trans (jFC_T1 hK1.2) (jFC_T1 hK2.2)⟩)
    · simp (disch := omega) only [↓dR_64_0 hL, ↓dK_65 hL, ↓dG_65 hL, ↓dP_65 hL, ↓dK_L hL hl, ↓dG_L hL hl, ↓dP_L hL hl, ↓reduceIte, ↓kq_bi, ↓kq_let, ↓kq_rz0, ↓kq_rz1, ↓kq_rzB, ↓Option.bind_some, kq_dvn, kt_lt, kf_lt, kt_eq, kf_eq, decide_true, decide_false, eq_self, Bool.false_eq_true, Bool.true_eq_false, not_true_eq_false, not_false_eq_true, jU_eq, jU_ne, jU_U, jV_eq, jV_ne, jV_V, kn_lit, kn_add, kn_mul, kn_sdm, kn_sub, kn_div, kn_nsdm, kn_lt, kn_eq, kn_pred, kn_m1, kn_m1', kn_a31, kn_shl, kn_shr, kn_bit, nB_0, nB_1, nB_t, nB_f, Nat.zero_add, Nat.add_zero, Nat.reduceAdd, Nat.reduceMul, Nat.reduceSub, Nat.reducePow]
      exact jW_s (hP J ⟨hJ, jFC_r⟩)
  · obtain ⟨F, rfl⟩ : ∃ F, F2 = F + 1 := ⟨F2 - 1, by omega⟩
    have h5 : J 205 5 = nI y.2.1 := hJ.1.2.2.1.1
    refine ⟨J, ?_, hJ, jFM_r⟩
    show F_Mod_sum_c4 R (F_Mod_sum_l4 R F) 205 (jz_I h' J) = some (jz_I h' J)
    unfold F_Mod_sum_c4
    simp (disch := omega) only [h5, ↓dK_205 hM, ↓dG_205 hM, ↓dP_205 hM, ↓dZ_205 hM (x := nI 0) (Or.inl rfl), ↓dZ_205 hM (x := nI 1) (Or.inr rfl), ↓dZ_205 hM (Or.inl rfl), ↓dZ_205 hM (Or.inr rfl), ↓dZ_205 hM (nB_01 _), ↓reduceIte, ↓kq_bi, ↓kq_let, ↓kq_rz0, ↓kq_rz1, ↓kq_rzB, ↓Option.bind_some, kq_dvn, kt_lt, kf_lt, kt_eq, kf_eq, decide_true, decide_false, eq_self, Bool.false_eq_true, Bool.true_eq_false, not_true_eq_false, not_false_eq_true, jU_eq, jU_ne, jU_U, jV_eq, jV_ne, jV_V, kn_lit, kn_add, kn_mul, kn_sdm, kn_sub, kn_div, kn_nsdm, kn_lt, kn_eq, kn_pred, kn_m1, kn_m1', kn_a31, kn_shl, kn_shr, kn_bit, nB_0, nB_1, nB_t, nB_f, Nat.zero_add, Nat.add_zero, Nat.reduceAdd, Nat.reduceMul, Nat.reduceSub, Nat.reducePow]
theorem x_sumL (hU : ∀ s, jLG n s → ∃ s', jSim tp n o (fun q => F_Law_readProduct Rc q 65 (nI o)) (F_Mod_product R 205) s s' ∧ jLG n s' ∧ jLU 1 s s') : ∀ N T s, jLG n s → (s.1.2.1 = 0 → T + 1 ≤ s.1.1 ∧ 1 ≤ s_dep s.2.2 s.2.1 ∧ n - s.1.1 < N) → T ≤ 150 → ∃ s', (∀ F1 F2, N < F1 → N < F2 → jSim tp n o (fun q => F_Law_readSum_l8 Rc F1 q 65 (nI o) (nI T)) (F_Mod_sum_l4 R F2 205) s s') ∧ jLG n s' ∧ jLU 0 s s' := by
  intro N
  induction N with
  | zero =>
    intro T s hG ht ht9
    by_cases h0 : s.1.2.1 = 0
    · have := (ht h0).2.2; omega
    · exact ⟨s, fun F1 F2 f1 f2 => x_sumF h0 hG.1 ht9 F1 F2 (by omega) (by omega), hG, jLU_0 h0⟩
  | succ N ih =>
    intro T s hG ht ht9
    by_cases h00 : ¬ s.1.2.1 = 0
    · exact ⟨s, fun F1 F2 f1 f2 => x_sumF h00 hG.1 ht9 F1 F2 (by omega) (by omega), hG, jLU_0 h00⟩
    obtain ⟨y, ω⟩ := s
    have h0 : y.2.1 = 0 := Decidable.not_not.mp h00
    have hy : jTy n y := hG.1
    have hn : n ≤ 150 := hG.2.1
    have y2 : y.2.1 ≤ 3 := hy.2.1
    have hw0 : ω.1 ≤ y.1 := (hG.2.2 h0).1
    have hd1 : 1 ≤ s_dep ω.2 ω.1 := (ht h0).2.1
    have ht1 : T + 1 ≤ y.1 := (ht h0).1
    have htN : n - y.1 < N + 1 := (ht h0).2.2
    have hyn := hy.1
    have hy1 := s_tks_y (tp := tp) (ch := 43) hy
    have hge1 : y.1 ≤ (s_tks tp n 43 y).1 := by
      cases g : s_tk tp n 43 y
      · unfold s_tks; rw [g, if_neg (show ¬ false = true by decide)]; exact s_nx_ge hy
      · exact Nat.le_of_succ_le (s_tks_ge hy g)
    have go : ∀ (y2 : JTs) (w : Nat), 2 ≤ w ∧ w ≤ 7 → jTy n y2 → y.1 + 1 ≤ y2.1 → y2.2 = y.2 → ∃ s2 s', jSim tp n o (fun q => F_Law_readProduct Rc q 65 (nI o)) (F_Mod_product R 205) (y2, ω) s2 ∧ (s2.1.2.1 = 0 → s2.2.1 < 150) ∧ (∀ F1 F2, N < F1 → N < F2 → jSim tp n o (fun q => F_Law_readSum_l8 Rc F1 q 65 (nI o) (nI (T + 1))) (F_Mod_sum_l4 R F2 205) (s2.1, s_nt w 0 s2.2) s') ∧ jLG n s' ∧ jLU 0 (y, ω) s' := by
      intro y2 w hw hy2 hge he2
      have hG2 : jLG n (y2, ω) := ⟨hy2, hn, fun a => ⟨by show ω.1 ≤ y2.1; omega, (hG.2.2 h0).2⟩⟩
      obtain ⟨s2, sim, g2, u2⟩ := hU _ hG2
      have key : s2.1.2.1 = 0 → s2.2.1 + 1 ≤ s2.1.1 ∧ s_dep s2.2.2 s2.2.1 = s_dep ω.2 ω.1 + 1 ∧ y.1 + 2 ≤ s2.1.1 ∧ s2.2.1 + 1 + y.1 ≤ s2.1.1 + ω.1 := fun a => by
        obtain ⟨b1, b2, b3, b4⟩ := u2 a
        have b2 : y2.1 + 1 ≤ s2.1.1 + (1 - 1) := b2
        have b3 : s_dep s2.2.2 s2.2.1 = s_dep ω.2 ω.1 + 1 := b3
        have b4 : s2.2.1 + y2.1 ≤ s2.1.1 + ω.1 := b4
        omega
      have hs2n := g2.1.1
      have hG3 : jLG n (s2.1, s_nt w 0 s2.2) := jLG_nt g2 (fun a => (key a).1) hw.2 (fun _ _ => by omega) (fun _ => by omega) (fun a _ => by have := (key a).2.1; omega)
      obtain ⟨s', simL, gL, uL⟩ := ih (T + 1) (s2.1, s_nt w 0 s2.2) hG3 (fun a => by
        obtain ⟨k1, k2, k3, k4⟩ := key a
        have e1 : s_dep (s_nt w 0 s2.2).2 (s2.2.1 + 1) = s_dep s2.2.2 s2.2.1 - 1 := by rw [s_nt_d1, if_neg (by omega)]
        refine ⟨by show T + 1 + 1 ≤ s2.1.1; omega, ?_, by show n - s2.1.1 < N; omega⟩
        show 1 ≤ s_dep (s_nt w 0 s2.2).2 (s2.2.1 + 1)
        omega) (by omega)
      refine ⟨s2, s', sim, fun a => by have := (key a).1; omega, simL, gL, fun a => ?_⟩
      obtain ⟨b1, b2, b3, b4⟩ := uL a
      obtain ⟨k1, k2, k3, k4⟩ := key b1
      have e1 : s_dep (s_nt w 0 s2.2).2 (s2.2.1 + 1) = s_dep s2.2.2 s2.2.1 - 1 := by rw [s_nt_d1, if_neg (by omega)]
      have b2 : s2.1.1 + 1 ≤ s'.1.1 + (1 - 0) := b2
      have b3 : s_dep s'.2.2 s'.2.1 = s_dep (s_nt w 0 s2.2).2 (s2.2.1 + 1) + 0 := b3
      have b4 : s'.2.1 + s2.1.1 ≤ s'.1.1 + (s2.2.1 + 1) := b4
      refine ⟨h0, ?_, ?_, ?_⟩
      · show y.1 + 1 ≤ s'.1.1 + (1 - 0); omega
      · show s_dep s'.2.2 s'.2.1 = s_dep ω.2 ω.1 + 0; omega
      · show s'.2.1 + y.1 ≤ s'.1.1 + ω.1; omega
    cases g1 : s_tk tp n 43 y
    · cases g2 : s_tk tp n 45 (s_tks tp n 43 y)
      · have e12 : (s_tks tp n 45 (s_tks tp n 43 y)).2 = y.2 := s_tks_2.trans s_tks_2
        have hge2 : (s_tks tp n 43 y).1 ≤ (s_tks tp n 45 (s_tks tp n 43 y)).1 := by
          rw [show s_tks tp n 45 (s_tks tp n 43 y) = s_nx tp n (s_tks tp n 43 y) from if_neg (by rw [g2]; decide)]
          exact s_nx_ge hy1
        refine ⟨(s_tks tp n 45 (s_tks tp n 43 y), ω), fun F1 F2 f1 f2 => ⟨fun t u l m b c h q hL hl J hJ => jE_n (fun P hP => ?_), fun t' u' l' m' b' c' h' hM J hJ => jE_n (fun P hP => ?_)⟩, ⟨s_tks_y hy1, hn, fun a => ⟨by show ω.1 ≤ _; (try dsimp only); omega, (hG.2.2 h0).2⟩⟩, fun a => ⟨h0, by show y.1 + 1 ≤ _ + (1 - 0); (try dsimp only); omega, rfl, by show ω.1 + y.1 ≤ _ + ω.1; (try dsimp only); omega⟩⟩
        · obtain ⟨F, rfl⟩ : ∃ F, F1 = F + 1 := ⟨F1 - 1, by omega⟩
          show jW (F_Law_readSum_c8 Rc (F_Law_readSum_l8 Rc F) q 65 (nI o) (nI T) (jz_I h J)) P
          unfold F_Law_readSum_c8
          simp (disch := omega) only [↓dR_64_0 hL, ↓dK_65 hL, ↓dG_65 hL, ↓dP_65 hL, ↓dK_L hL hl, ↓dG_L hL hl, ↓dP_L hL hl, ↓reduceIte, ↓kq_bi, ↓kq_let, ↓kq_rz0, ↓kq_rz1, ↓kq_rzB, ↓Option.bind_some, kq_dvn, kt_lt, kf_lt, kt_eq, kf_eq, decide_true, decide_false, eq_self, Bool.false_eq_true, Bool.true_eq_false, not_true_eq_false, not_false_eq_true, jU_eq, jU_ne, jU_U, jV_eq, jV_ne, jV_V, kn_lit, kn_add, kn_mul, kn_sdm, kn_sub, kn_div, kn_nsdm, kn_lt, kn_eq, kn_pred, kn_m1, kn_m1', kn_a31, kn_shl, kn_shr, kn_bit, nB_0, nB_1, nB_t, nB_f, Nat.zero_add, Nat.add_zero, Nat.reduceAdd, Nat.reduceMul, Nat.reduceSub, Nat.reducePow]
          refine jW_bi (c_take hL hJ.2.1 (ch := 43) (by omega)) (fun K1 hK1 => ?_)
          have J1 := jLC_T1 hl hJ hK1.1 hK1.2 (fun a => by rw [s_tks_2] at a; exact a)
          rw [g1]
          simp (disch := omega) only [↓dR_64_0 hL, ↓dK_65 hL, ↓dG_65 hL, ↓dP_65 hL, ↓dK_L hL hl, ↓dG_L hL hl, ↓dP_L hL hl, ↓reduceIte, ↓kq_bi, ↓kq_let, ↓kq_rz0, ↓kq_rz1, ↓kq_rzB, ↓Option.bind_some, kq_dvn, kt_lt, kf_lt, kt_eq, kf_eq, decide_true, decide_false, eq_self, Bool.false_eq_true, Bool.true_eq_false, not_true_eq_false, not_false_eq_true, jU_eq, jU_ne, jU_U, jV_eq, jV_ne, jV_V, kn_lit, kn_add, kn_mul, kn_sdm, kn_sub, kn_div, kn_nsdm, kn_lt, kn_eq, kn_pred, kn_m1, kn_m1', kn_a31, kn_shl, kn_shr, kn_bit, nB_0, nB_1, nB_t, nB_f, Nat.zero_add, Nat.add_zero, Nat.reduceAdd, Nat.reduceMul, Nat.reduceSub, Nat.reducePow]
          refine jW_bi (c_take hL hK1.1 (ch := 45) (by omega)) (fun K2 hK2 => ?_)
          have J2 := jLC_T1 hl J1 hK2.1 hK2.2 (fun a => by rw [s_tks_2] at a; exact a)
          rw [g2]
          simp (disch := omega) only [↓dR_64_0 hL, ↓dK_65 hL, ↓dG_65 hL, ↓dP_65 hL, ↓dK_L hL hl, ↓dG_L hL hl, ↓dP_L hL hl, ↓reduceIte, ↓kq_bi, ↓kq_let, ↓kq_rz0, ↓kq_rz1, ↓kq_rzB, ↓Option.bind_some, kq_dvn, kt_lt, kf_lt, kt_eq, kf_eq, decide_true, decide_false, eq_self, Bool.false_eq_true, Bool.true_eq_false, not_true_eq_false, not_false_eq_true, jU_eq, jU_ne, jU_U, jV_eq, jV_ne, jV_V, kn_lit, kn_add, kn_mul, kn_sdm, kn_sub, kn_div, kn_nsdm, kn_lt, kn_eq, kn_pred, kn_m1, kn_m1', kn_a31, kn_shl, kn_shr, kn_bit, nB_0, nB_1, nB_t, nB_f, Nat.zero_add, Nat.add_zero, Nat.reduceAdd, Nat.reduceMul, Nat.reduceSub, Nat.reducePow]
          exact jW_s (hP K2 ⟨J2, jFC_trans (jFC_T1 hK1.2) (jFC_T1 hK2.2)⟩)
        · obtain ⟨F, rfl⟩ : ∃ F, F2 = F + 1 := ⟨F2 - 1, by omega⟩
          have h5 : J 205 5 = nI y.2.1 := hJ.1.2.2.1.1
          rw [h0] at h5
          show jW (F_Mod_sum_c4 R (F_Mod_sum_l4 R F) 205 (jz_I h' J)) P
          unfold F_Mod_sum_c4
          simp (disch := omega) only [h5, ↓dK_205 hM, ↓dG_205 hM, ↓dP_205 hM, ↓dZ_205 hM (x := nI 0) (Or.inl rfl), ↓dZ_205 hM (x := nI 1) (Or.inr rfl), ↓dZ_205 hM (Or.inl rfl), ↓dZ_205 hM (Or.inr rfl), ↓dZ_205 hM (nB_01 _), ↓reduceIte, ↓kq_bi, ↓kq_let, ↓kq_rz0, ↓kq_rz1, ↓kq_rzB, ↓Option.bind_some, kq_dvn, kt_lt, kf_lt, kt_eq, kf_eq, decide_true, decide_false, eq_self, Bool.false_eq_true, Bool.true_eq_false, not_true_eq_false, not_false_eq_true, jU_eq, jU_ne, jU_U, jV_eq, jV_ne, jV_V, kn_lit, kn_add, kn_mul, kn_sdm, kn_sub, kn_div, kn_nsdm, kn_lt, kn_eq, kn_pred, kn_m1, kn_m1', kn_a31, kn_shl, kn_shr, kn_bit, nB_0, nB_1, nB_t, nB_f, Nat.zero_add, Nat.add_zero, Nat.reduceAdd, Nat.reduceMul, Nat.reduceSub, Nat.reducePow]
          refine jW_bi (m_takesSign hM hJ.1 (ch := 43) (by omega)) (fun K1 hK1 => ?_)
          have J1 := jLM_M1 hJ hK1.1 hK1.2 (fun a => by rw [s_tks_2] at a; exact a)
          rw [g1]
          simp (disch := omega) only [↓dK_205 hM, ↓dG_205 hM, ↓dP_205 hM, ↓dZ_205 hM (x := nI 0) (Or.inl rfl), ↓dZ_205 hM (x := nI 1) (Or.inr rfl), ↓dZ_205 hM (Or.inl rfl), ↓dZ_205 hM (Or.inr rfl), ↓dZ_205 hM (nB_01 _), ↓reduceIte, ↓kq_bi, ↓kq_let, ↓kq_rz0, ↓kq_rz1, ↓kq_rzB, ↓Option.bind_some, kq_dvn, kt_lt, kf_lt, kt_eq, kf_eq, decide_true, decide_false, eq_self, Bool.false_eq_true, Bool.true_eq_false, not_true_eq_false, not_false_eq_true, jU_eq, jU_ne, jU_U, jV_eq, jV_ne, jV_V, kn_lit, kn_add, kn_mul, kn_sdm, kn_sub, kn_div, kn_nsdm, kn_lt, kn_eq, kn_pred, kn_m1, kn_m1', kn_a31, kn_shl, kn_shr, kn_bit, nB_0, nB_1, nB_t, nB_f, Nat.zero_add, Nat.add_zero, Nat.reduceAdd, Nat.reduceMul, Nat.reduceSub, Nat.reducePow]
          refine jW_bi (m_takesSign hM hK1.1 (ch := 45) (by omega)) (fun K2 hK2 => ?_)
          have J2 := jLM_M1 J1 hK2.1 hK2.2 (fun a => by rw [s_tks_2] at a; exact a)
          rw [g2]
          simp (disch := omega) only [↓dK_205 hM, ↓dG_205 hM, ↓dP_205 hM, ↓dZ_205 hM (x := nI 0) (Or.inl rfl), ↓dZ_205 hM (x := nI 1) (Or.inr rfl), ↓dZ_205 hM (Or.inl rfl), ↓dZ_205 hM (Or.inr rfl), ↓dZ_205 hM (nB_01 _), ↓reduceIte, ↓kq_bi, ↓kq_let, ↓kq_rz0, ↓kq_rz1, ↓kq_rzB, ↓Option.bind_some, kq_dvn, kt_lt, kf_lt, kt_eq, kf_eq, decide_true, decide_false, eq_self, Bool.false_eq_true, Bool.true_eq_false, not_true_eq_false, not_false_eq_true, jU_eq, jU_ne, jU_U, jV_eq, jV_ne, jV_V, kn_lit, kn_add, kn_mul, kn_sdm, kn_sub, kn_div, kn_nsdm, kn_lt, kn_eq, kn_pred, kn_m1, kn_m1', kn_a31, kn_shl, kn_shr, kn_bit, nB_0, nB_1, nB_t, nB_f, Nat.zero_add, Nat.add_zero, Nat.reduceAdd, Nat.reduceMul, Nat.reduceSub, Nat.reducePow]
          unfold F_Mod_sum_b38
          simp (disch := omega) only [↓dK_205 hM, ↓dG_205 hM, ↓dP_205 hM, ↓dZ_205 hM (x := nI 0) (Or.inl rfl), ↓dZ_205 hM (x := nI 1) (Or.inr rfl), ↓dZ_205 hM (Or.inl rfl), ↓dZ_205 hM (Or.inr rfl), ↓dZ_205 hM (nB_01 _), ↓reduceIte, ↓kq_bi, ↓kq_let, ↓kq_rz0, ↓kq_rz1, ↓kq_rzB, ↓Option.bind_some, kq_dvn, kt_lt, kf_lt, kt_eq, kf_eq, decide_true, decide_false, eq_self, Bool.false_eq_true, Bool.true_eq_false, not_true_eq_false, not_false_eq_true, jU_eq, jU_ne, jU_U, jV_eq, jV_ne, jV_V, kn_lit, kn_add, kn_mul, kn_sdm, kn_sub, kn_div, kn_nsdm, kn_lt, kn_eq, kn_pred, kn_m1, kn_m1', kn_a31, kn_shl, kn_shr, kn_bit, nB_0, nB_1, nB_t, nB_f, Nat.zero_add, Nat.add_zero, Nat.reduceAdd, Nat.reduceMul, Nat.reduceSub, Nat.reducePow]
          exact jW_s (hP K2 ⟨J2, jFM_trans (jFM_M1 hK1.2) (jFM_M1 hK2.2)⟩)
      · obtain ⟨s2, s', simU, hroom, simL, hG', hU'⟩ := go (s_tks tp n 45 (s_tks tp n 43 y)) 3 (by omega) (s_tks_y hy1) (Nat.le_trans (Nat.succ_le_succ hge1) (s_tks_ge hy1 g2)) (s_tks_2.trans s_tks_2)
        refine ⟨s', fun F1 F2 f1 f2 => ⟨fun t u l m b c h q hL hl J hJ => jE_n (fun P hP => ?_), fun t' u' l' m' b' c' h' hM J hJ => jE_n (fun P hP => ?_)⟩, hG', hU'⟩
        · obtain ⟨F, rfl⟩ : ∃ F, F1 = F + 1 := ⟨F1 - 1, by omega⟩
          show jW (F_Law_readSum_c8 Rc (F_Law_readSum_l8 Rc F) q 65 (nI o) (nI T) (jz_I h J)) P
          unfold F_Law_readSum_c8
          simp (disch := omega) only [↓dR_64_0 hL, ↓dK_65 hL, ↓dG_65 hL, ↓dP_65 hL, ↓dK_L hL hl, ↓dG_L hL hl, ↓dP_L hL hl, ↓reduceIte, ↓kq_bi, ↓kq_let, ↓kq_rz0, ↓kq_rz1, ↓kq_rzB, ↓Option.bind_some, kq_dvn, kt_lt, kf_lt, kt_eq, kf_eq, decide_true, decide_false, eq_self, Bool.false_eq_true, Bool.true_eq_false, not_true_eq_false, not_false_eq_true, jU_eq, jU_ne, jU_U, jV_eq, jV_ne, jV_V, kn_lit, kn_add, kn_mul, kn_sdm, kn_sub, kn_div, kn_nsdm, kn_lt, kn_eq, kn_pred, kn_m1, kn_m1', kn_a31, kn_shl, kn_shr, kn_bit, nB_0, nB_1, nB_t, nB_f, Nat.zero_add, Nat.add_zero, Nat.reduceAdd, Nat.reduceMul, Nat.reduceSub, Nat.reducePow]
          refine jW_bi (c_take hL hJ.2.1 (ch := 43) (by omega)) (fun K1 hK1 => ?_)
          have J1 := jLC_T1 hl hJ hK1.1 hK1.2 (fun a => by rw [s_tks_2] at a; exact a)
          rw [g1]
          simp (disch := omega) only [↓dR_64_0 hL, ↓dK_65 hL, ↓dG_65 hL, ↓dP_65 hL, ↓dK_L hL hl, ↓dG_L hL hl, ↓dP_L hL hl, ↓reduceIte, ↓kq_bi, ↓kq_let, ↓kq_rz0, ↓kq_rz1, ↓kq_rzB, ↓Option.bind_some, kq_dvn, kt_lt, kf_lt, kt_eq, kf_eq, decide_true, decide_false, eq_self, Bool.false_eq_true, Bool.true_eq_false, not_true_eq_false, not_false_eq_true, jU_eq, jU_ne, jU_U, jV_eq, jV_ne, jV_V, kn_lit, kn_add, kn_mul, kn_sdm, kn_sub, kn_div, kn_nsdm, kn_lt, kn_eq, kn_pred, kn_m1, kn_m1', kn_a31, kn_shl, kn_shr, kn_bit, nB_0, nB_1, nB_t, nB_f, Nat.zero_add, Nat.add_zero, Nat.reduceAdd, Nat.reduceMul, Nat.reduceSub, Nat.reducePow]
          refine jW_bi (c_take hL hK1.1 (ch := 45) (by omega)) (fun K2 hK2 => ?_)
          have J2 := jLC_T1 hl J1 hK2.1 hK2.2 (fun a => by rw [s_tks_2] at a; exact a)
          rw [g2]
          simp (disch := omega) only [↓dR_64_0 hL, ↓dK_65 hL, ↓dG_65 hL, ↓dP_65 hL, ↓dK_L hL hl, ↓dG_L hL hl, ↓dP_L hL hl, ↓reduceIte, ↓kq_bi, ↓kq_let, ↓kq_rz0, ↓kq_rz1, ↓kq_rzB, ↓Option.bind_some, kq_dvn, kt_lt, kf_lt, kt_eq, kf_eq, decide_true, decide_false, eq_self, Bool.false_eq_true, Bool.true_eq_false, not_true_eq_false, not_false_eq_true, jU_eq, jU_ne, jU_U, jV_eq, jV_ne, jV_V, kn_lit, kn_add, kn_mul, kn_sdm, kn_sub, kn_div, kn_nsdm, kn_lt, kn_eq, kn_pred, kn_m1, kn_m1', kn_a31, kn_shl, kn_shr, kn_bit, nB_0, nB_1, nB_t, nB_f, Nat.zero_add, Nat.add_zero, Nat.reduceAdd, Nat.reduceMul, Nat.reduceSub, Nat.reducePow]
          refine jW_bn (simU.1 t u l m b c h q hL hl _ J2) (fun K3 hK3 => ?_)
          simp (disch := omega) only [↓dR_64_0 hL, ↓dK_65 hL, ↓dG_65 hL, ↓dP_65 hL, ↓dK_L hL hl, ↓dG_L hL hl, ↓dP_L hL hl, ↓reduceIte, ↓kq_bi, ↓kq_let, ↓kq_rz0, ↓kq_rz1, ↓kq_rzB, ↓Option.bind_some, kq_dvn, kt_lt, kf_lt, kt_eq, kf_eq, decide_true, decide_false, eq_self, Bool.false_eq_true, Bool.true_eq_false, not_true_eq_false, not_false_eq_true, jU_eq, jU_ne, jU_U, jV_eq, jV_ne, jV_V, kn_lit, kn_add, kn_mul, kn_sdm, kn_sub, kn_div, kn_nsdm, kn_lt, kn_eq, kn_pred, kn_m1, kn_m1', kn_a31, kn_shl, kn_shr, kn_bit, nB_0, nB_1, nB_t, nB_f, Nat.zero_add, Nat.add_zero, Nat.reduceAdd, Nat.reduceMul, Nat.reduceSub, Nat.reducePow]
          refine jW_bn (c_putS hL hl hK3.1 (w := 3) (v := 0) (fun a => ⟨by decide, hroom a⟩)) (fun K4 hK4 => ?_)
          unfold F_Law_readSum_b64
          simp (disch := omega) only [↓reduceIte, ↓kq_bi, ↓kq_let, ↓kq_rz0, ↓kq_rz1, ↓kq_rzB, ↓Option.bind_some, kq_dvn, kt_lt, kf_lt, kt_eq, kf_eq, decide_true, decide_false, eq_self, Bool.false_eq_true, Bool.true_eq_false, not_true_eq_false, not_false_eq_true, jU_eq, jU_ne, jU_U, jV_eq, jV_ne, jV_V, kn_lit, kn_add, kn_mul, kn_sdm, kn_sub, kn_div, kn_nsdm, kn_lt, kn_eq, kn_pred, kn_m1, kn_m1', kn_a31, kn_shl, kn_shr, kn_bit, nB_0, nB_1, nB_t, nB_f, Nat.zero_add, Nat.add_zero, Nat.reduceAdd, Nat.reduceMul, Nat.reduceSub, Nat.reducePow]
          obtain ⟨K5, e5, k5, kF5⟩ := (simL F F (by omega) (by omega)).1 t u l m b c h q hL hl K4 hK4.1
          exact jW_e e5 (hP K5 ⟨k5, jFC_trans (jFC_T1 hK1.2) (jFC_trans (jFC_T1 hK2.2) (jFC_trans hK3.2 (jFC_trans hK4.2 kF5)))⟩)
        · obtain ⟨F, rfl⟩ : ∃ F, F2 = F + 1 := ⟨F2 - 1, by omega⟩
          have h5 : J 205 5 = nI y.2.1 := hJ.1.2.2.1.1
          rw [h0] at h5
          show jW (F_Mod_sum_c4 R (F_Mod_sum_l4 R F) 205 (jz_I h' J)) P
          unfold F_Mod_sum_c4
          simp (disch := omega) only [h5, ↓dK_205 hM, ↓dG_205 hM, ↓dP_205 hM, ↓dZ_205 hM (x := nI 0) (Or.inl rfl), ↓dZ_205 hM (x := nI 1) (Or.inr rfl), ↓dZ_205 hM (Or.inl rfl), ↓dZ_205 hM (Or.inr rfl), ↓dZ_205 hM (nB_01 _), ↓reduceIte, ↓kq_bi, ↓kq_let, ↓kq_rz0, ↓kq_rz1, ↓kq_rzB, ↓Option.bind_some, kq_dvn, kt_lt, kf_lt, kt_eq, kf_eq, decide_true, decide_false, eq_self, Bool.false_eq_true, Bool.true_eq_false, not_true_eq_false, not_false_eq_true, jU_eq, jU_ne, jU_U, jV_eq, jV_ne, jV_V, kn_lit, kn_add, kn_mul, kn_sdm, kn_sub, kn_div, kn_nsdm, kn_lt, kn_eq, kn_pred, kn_m1, kn_m1', kn_a31, kn_shl, kn_shr, kn_bit, nB_0, nB_1, nB_t, nB_f, Nat.zero_add, Nat.add_zero, Nat.reduceAdd, Nat.reduceMul, Nat.reduceSub, Nat.reducePow]
          refine jW_bi (m_takesSign hM hJ.1 (ch := 43) (by omega)) (fun K1 hK1 => ?_)
          have J1 := jLM_M1 hJ hK1.1 hK1.2 (fun a => by rw [s_tks_2] at a; exact a)
          rw [g1]
          simp (disch := omega) only [↓dK_205 hM, ↓dG_205 hM, ↓dP_205 hM, ↓dZ_205 hM (x := nI 0) (Or.inl rfl), ↓dZ_205 hM (x := nI 1) (Or.inr rfl), ↓dZ_205 hM (Or.inl rfl), ↓dZ_205 hM (Or.inr rfl), ↓dZ_205 hM (nB_01 _), ↓reduceIte, ↓kq_bi, ↓kq_let, ↓kq_rz0, ↓kq_rz1, ↓kq_rzB, ↓Option.bind_some, kq_dvn, kt_lt, kf_lt, kt_eq, kf_eq, decide_true, decide_false, eq_self, Bool.false_eq_true, Bool.true_eq_false, not_true_eq_false, not_false_eq_true, jU_eq, jU_ne, jU_U, jV_eq, jV_ne, jV_V, kn_lit, kn_add, kn_mul, kn_sdm, kn_sub, kn_div, kn_nsdm, kn_lt, kn_eq, kn_pred, kn_m1, kn_m1', kn_a31, kn_shl, kn_shr, kn_bit, nB_0, nB_1, nB_t, nB_f, Nat.zero_add, Nat.add_zero, Nat.reduceAdd, Nat.reduceMul, Nat.reduceSub, Nat.reducePow]
          refine jW_bi (m_takesSign hM hK1.1 (ch := 45) (by omega)) (fun K2 hK2 => ?_)
          have J2 := jLM_M1 J1 hK2.1 hK2.2 (fun a => by rw [s_tks_2] at a; exact a)
          rw [g2]
          simp (disch := omega) only [↓dK_205 hM, ↓dG_205 hM, ↓dP_205 hM, ↓dZ_205 hM (x := nI 0) (Or.inl rfl), ↓dZ_205 hM (x := nI 1) (Or.inr rfl), ↓dZ_205 hM (Or.inl rfl), ↓dZ_205 hM (Or.inr rfl), ↓dZ_205 hM (nB_01 _), ↓reduceIte, ↓kq_bi, ↓kq_let, ↓kq_rz0, ↓kq_rz1, ↓kq_rzB, ↓Option.bind_some, kq_dvn, kt_lt, kf_lt, kt_eq, kf_eq, decide_true, decide_false, eq_self, Bool.false_eq_true, Bool.true_eq_false, not_true_eq_false, not_false_eq_true, jU_eq, jU_ne, jU_U, jV_eq, jV_ne, jV_V, kn_lit, kn_add, kn_mul, kn_sdm, kn_sub, kn_div, kn_nsdm, kn_lt, kn_eq, kn_pred, kn_m1, kn_m1', kn_a31, kn_shl, kn_shr, kn_bit, nB_0, nB_1, nB_t, nB_f, Nat.zero_add, Nat.add_zero, Nat.reduceAdd, Nat.reduceMul, Nat.reduceSub, Nat.reducePow]
          unfold F_Mod_sum_b38
          simp (disch := omega) only [↓dK_205 hM, ↓dG_205 hM, ↓dP_205 hM, ↓dZ_205 hM (x := nI 0) (Or.inl rfl), ↓dZ_205 hM (x := nI 1) (Or.inr rfl), ↓dZ_205 hM (Or.inl rfl), ↓dZ_205 hM (Or.inr rfl), ↓dZ_205 hM (nB_01 _), ↓reduceIte, ↓kq_bi, ↓kq_let, ↓kq_rz0, ↓kq_rz1, ↓kq_rzB, ↓Option.bind_some, kq_dvn, kt_lt, kf_lt, kt_eq, kf_eq, decide_true, decide_false, eq_self, Bool.false_eq_true, Bool.true_eq_false, not_true_eq_false, not_false_eq_true, jU_eq, jU_ne, jU_U, jV_eq, jV_ne, jV_V, kn_lit, kn_add, kn_mul, kn_sdm, kn_sub, kn_div, kn_nsdm, kn_lt, kn_eq, kn_pred, kn_m1, kn_m1', kn_a31, kn_shl, kn_shr, kn_bit, nB_0, nB_1, nB_t, nB_f, Nat.zero_add, Nat.add_zero, Nat.reduceAdd, Nat.reduceMul, Nat.reduceSub, Nat.reducePow]
          refine jW_bn (simU.2 t' u' l' m' b' c' h' hM _ J2) (fun K3 hK3 => ?_)
          simp (disch := omega) only [↓dK_205 hM, ↓dG_205 hM, ↓dP_205 hM, ↓dZ_205 hM (x := nI 0) (Or.inl rfl), ↓dZ_205 hM (x := nI 1) (Or.inr rfl), ↓dZ_205 hM (Or.inl rfl), ↓dZ_205 hM (Or.inr rfl), ↓dZ_205 hM (nB_01 _), ↓reduceIte, ↓kq_bi, ↓kq_let, ↓kq_rz0, ↓kq_rz1, ↓kq_rzB, ↓Option.bind_some, kq_dvn, kt_lt, kf_lt, kt_eq, kf_eq, decide_true, decide_false, eq_self, Bool.false_eq_true, Bool.true_eq_false, not_true_eq_false, not_false_eq_true, jU_eq, jU_ne, jU_U, jV_eq, jV_ne, jV_V, kn_lit, kn_add, kn_mul, kn_sdm, kn_sub, kn_div, kn_nsdm, kn_lt, kn_eq, kn_pred, kn_m1, kn_m1', kn_a31, kn_shl, kn_shr, kn_bit, nB_0, nB_1, nB_t, nB_f, Nat.zero_add, Nat.add_zero, Nat.reduceAdd, Nat.reduceMul, Nat.reduceSub, Nat.reducePow]
          refine jW_bn (m_notesS hM hK3.1 (w := 3) (v := 0) (fun a => ⟨rfl, rfl, hroom a⟩)) (fun K4 hK4 => ?_)
          obtain ⟨K5, e5, k5, kF5⟩ := (simL F F (by omega) (by omega)).2 t' u' l' m' b' c' h' hM K4 hK4.1
          exact jW_e e5 (hP K5 ⟨k5, jFM_trans (jFM_M1 hK1.2) (jFM_trans (jFM_M1 hK2.2) (jFM_trans hK3.2 (jFM_trans hK4.2 kF5)))⟩)
    · obtain ⟨s2, s', simU, hroom, simL, hG', hU'⟩ := go (s_tks tp n 43 y) 2 (by omega) (s_tks_y hy) (s_tks_ge hy g1) s_tks_2
      refine ⟨s', fun F1 F2 f1 f2 => ⟨fun t u l m b c h q hL hl J hJ => jE_n (fun P hP => ?_), fun t' u' l' m' b' c' h' hM J hJ => jE_n (fun P hP => ?_)⟩, hG', hU'⟩
      · obtain ⟨F, rfl⟩ : ∃ F, F1 = F + 1 := ⟨F1 - 1, by omega⟩
        show jW (F_Law_readSum_c8 Rc (F_Law_readSum_l8 Rc F) q 65 (nI o) (nI T) (jz_I h J)) P
        unfold F_Law_readSum_c8
        simp (disch := omega) only [↓dR_64_0 hL, ↓dK_65 hL, ↓dG_65 hL, ↓dP_65 hL, ↓dK_L hL hl, ↓dG_L hL hl, ↓dP_L hL hl, ↓reduceIte, ↓kq_bi, ↓kq_let, ↓kq_rz0, ↓kq_rz1, ↓kq_rzB, ↓Option.bind_some, kq_dvn, kt_lt, kf_lt, kt_eq, kf_eq, decide_true, decide_false, eq_self, Bool.false_eq_true, Bool.true_eq_false, not_true_eq_false, not_false_eq_true, jU_eq, jU_ne, jU_U, jV_eq, jV_ne, jV_V, kn_lit, kn_add, kn_mul, kn_sdm, kn_sub, kn_div, kn_nsdm, kn_lt, kn_eq, kn_pred, kn_m1, kn_m1', kn_a31, kn_shl, kn_shr, kn_bit, nB_0, nB_1, nB_t, nB_f, Nat.zero_add, Nat.add_zero, Nat.reduceAdd, Nat.reduceMul, Nat.reduceSub, Nat.reducePow]
        refine jW_bi (c_take hL hJ.2.1 (ch := 43) (by omega)) (fun K1 hK1 => ?_)
        have J1 := jLC_T1 hl hJ hK1.1 hK1.2 (fun a => by rw [s_tks_2] at a; exact a)
        rw [g1]
        simp (disch := omega) only [↓dR_64_0 hL, ↓dK_65 hL, ↓dG_65 hL, ↓dP_65 hL, ↓dK_L hL hl, ↓dG_L hL hl, ↓dP_L hL hl, ↓reduceIte, ↓kq_bi, ↓kq_let, ↓kq_rz0, ↓kq_rz1, ↓kq_rzB, ↓Option.bind_some, kq_dvn, kt_lt, kf_lt, kt_eq, kf_eq, decide_true, decide_false, eq_self, Bool.false_eq_true, Bool.true_eq_false, not_true_eq_false, not_false_eq_true, jU_eq, jU_ne, jU_U, jV_eq, jV_ne, jV_V, kn_lit, kn_add, kn_mul, kn_sdm, kn_sub, kn_div, kn_nsdm, kn_lt, kn_eq, kn_pred, kn_m1, kn_m1', kn_a31, kn_shl, kn_shr, kn_bit, nB_0, nB_1, nB_t, nB_f, Nat.zero_add, Nat.add_zero, Nat.reduceAdd, Nat.reduceMul, Nat.reduceSub, Nat.reducePow]
        refine jW_bn (simU.1 t u l m b c h q hL hl _ J1) (fun K3 hK3 => ?_)
        simp (disch := omega) only [↓dR_64_0 hL, ↓dK_65 hL, ↓dG_65 hL, ↓dP_65 hL, ↓dK_L hL hl, ↓dG_L hL hl, ↓dP_L hL hl, ↓reduceIte, ↓kq_bi, ↓kq_let, ↓kq_rz0, ↓kq_rz1, ↓kq_rzB, ↓Option.bind_some, kq_dvn, kt_lt, kf_lt, kt_eq, kf_eq, decide_true, decide_false, eq_self, Bool.false_eq_true, Bool.true_eq_false, not_true_eq_false, not_false_eq_true, jU_eq, jU_ne, jU_U, jV_eq, jV_ne, jV_V, kn_lit, kn_add, kn_mul, kn_sdm, kn_sub, kn_div, kn_nsdm, kn_lt, kn_eq, kn_pred, kn_m1, kn_m1', kn_a31, kn_shl, kn_shr, kn_bit, nB_0, nB_1, nB_t, nB_f, Nat.zero_add, Nat.add_zero, Nat.reduceAdd, Nat.reduceMul, Nat.reduceSub, Nat.reducePow]
        refine jW_bn (c_putS hL hl hK3.1 (w := 2) (v := 0) (fun a => ⟨by decide, hroom a⟩)) (fun K4 hK4 => ?_)
        unfold F_Law_readSum_b64
        simp (disch := omega) only [↓reduceIte, ↓kq_bi, ↓kq_let, ↓kq_rz0, ↓kq_rz1, ↓kq_rzB, ↓Option.bind_some, kq_dvn, kt_lt, kf_lt, kt_eq, kf_eq, decide_true, decide_false, eq_self, Bool.false_eq_true, Bool.true_eq_false, not_true_eq_false, not_false_eq_true, jU_eq, jU_ne, jU_U, jV_eq, jV_ne, jV_V, kn_lit, kn_add, kn_mul, kn_sdm, kn_sub, kn_div, kn_nsdm, kn_lt, kn_eq, kn_pred, kn_m1, kn_m1', kn_a31, kn_shl, kn_shr, kn_bit, nB_0, nB_1, nB_t, nB_f, Nat.zero_add, Nat.add_zero, Nat.reduceAdd, Nat.reduceMul, Nat.reduceSub, Nat.reducePow]
        obtain ⟨K5, e5, k5, kF5⟩ := (simL F F (by omega) (by omega)).1 t u l m b c h q hL hl K4 hK4.1
        exact jW_e e5 (hP K5 ⟨k5, jFC_trans (jFC_T1 hK1.2) (jFC_trans hK3.2 (jFC_trans hK4.2 kF5))⟩)
      · obtain ⟨F, rfl⟩ : ∃ F, F2 = F + 1 := ⟨F2 - 1, by omega⟩
        have h5 : J 205 5 = nI y.2.1 := hJ.1.2.2.1.1
        rw [h0] at h5
        show jW (F_Mod_sum_c4 R (F_Mod_sum_l4 R F) 205 (jz_I h' J)) P
        unfold F_Mod_sum_c4
        simp (disch := omega) only [h5, ↓dK_205 hM, ↓dG_205 hM, ↓dP_205 hM, ↓dZ_205 hM (x := nI 0) (Or.inl rfl), ↓dZ_205 hM (x := nI 1) (Or.inr rfl), ↓dZ_205 hM (Or.inl rfl), ↓dZ_205 hM (Or.inr rfl), ↓dZ_205 hM (nB_01 _), ↓reduceIte, ↓kq_bi, ↓kq_let, ↓kq_rz0, ↓kq_rz1, ↓kq_rzB, ↓Option.bind_some, kq_dvn, kt_lt, kf_lt, kt_eq, kf_eq, decide_true, decide_false, eq_self, Bool.false_eq_true, Bool.true_eq_false, not_true_eq_false, not_false_eq_true, jU_eq, jU_ne, jU_U, jV_eq, jV_ne, jV_V, kn_lit, kn_add, kn_mul, kn_sdm, kn_sub, kn_div, kn_nsdm, kn_lt, kn_eq, kn_pred, kn_m1, kn_m1', kn_a31, kn_shl, kn_shr, kn_bit, nB_0, nB_1, nB_t, nB_f, Nat.zero_add, Nat.add_zero, Nat.reduceAdd, Nat.reduceMul, Nat.reduceSub, Nat.reducePow]
        refine jW_bi (m_takesSign hM hJ.1 (ch := 43) (by omega)) (fun K1 hK1 => ?_)
        have J1 := jLM_M1 hJ hK1.1 hK1.2 (fun a => by rw [s_tks_2] at a; exact a)
        rw [g1]
        simp (disch := omega) only [↓dK_205 hM, ↓dG_205 hM, ↓dP_205 hM, ↓dZ_205 hM (x := nI 0) (Or.inl rfl), ↓dZ_205 hM (x := nI 1) (Or.inr rfl), ↓dZ_205 hM (Or.inl rfl), ↓dZ_205 hM (Or.inr rfl), ↓dZ_205 hM (nB_01 _), ↓reduceIte, ↓kq_bi, ↓kq_let, ↓kq_rz0, ↓kq_rz1, ↓kq_rzB, ↓Option.bind_some, kq_dvn, kt_lt, kf_lt, kt_eq, kf_eq, decide_true, decide_false, eq_self, Bool.false_eq_true, Bool.true_eq_false, not_true_eq_false, not_false_eq_true, jU_eq, jU_ne, jU_U, jV_eq, jV_ne, jV_V, kn_lit, kn_add, kn_mul, kn_sdm, kn_sub, kn_div, kn_nsdm, kn_lt, kn_eq, kn_pred, kn_m1, kn_m1', kn_a31, kn_shl, kn_shr, kn_bit, nB_0, nB_1, nB_t, nB_f, Nat.zero_add, Nat.add_zero, Nat.reduceAdd, Nat.reduceMul, Nat.reduceSub, Nat.reducePow]
        unfold F_Mod_sum_b38
        simp (disch := omega) only [↓dK_205 hM, ↓dG_205 hM, ↓dP_205 hM, ↓dZ_205 hM (x := nI 0) (Or.inl rfl), ↓dZ_205 hM (x := nI 1) (Or.inr rfl), ↓dZ_205 hM (Or.inl rfl), ↓dZ_205 hM (Or.inr rfl), ↓dZ_205 hM (nB_01 _), ↓reduceIte, ↓kq_bi, ↓kq_let, ↓kq_rz0, ↓kq_rz1, ↓kq_rzB, ↓Option.bind_some, kq_dvn, kt_lt, kf_lt, kt_eq, kf_eq, decide_true, decide_false, eq_self, Bool.false_eq_true, Bool.true_eq_false, not_true_eq_false, not_false_eq_true, jU_eq, jU_ne, jU_U, jV_eq, jV_ne, jV_V, kn_lit, kn_add, kn_mul, kn_sdm, kn_sub, kn_div, kn_nsdm, kn_lt, kn_eq, kn_pred, kn_m1, kn_m1', kn_a31, kn_shl, kn_shr, kn_bit, nB_0, nB_1, nB_t, nB_f, Nat.zero_add, Nat.add_zero, Nat.reduceAdd, Nat.reduceMul, Nat.reduceSub, Nat.reducePow]
        refine jW_bn (simU.2 t' u' l' m' b' c' h' hM _ J1) (fun K3 hK3 => ?_)
        simp (disch := omega) only [↓dK_205 hM, ↓dG_205 hM, ↓dP_205 hM, ↓dZ_205 hM (x := nI 0) (Or.inl rfl), ↓dZ_205 hM (x := nI 1) (Or.inr rfl), ↓dZ_205 hM (Or.inl rfl), ↓dZ_205 hM (Or.inr rfl), ↓dZ_205 hM (nB_01 _), ↓reduceIte, ↓kq_bi, ↓kq_let, ↓kq_rz0, ↓kq_rz1, ↓kq_rzB, ↓Option.bind_some, kq_dvn, kt_lt, kf_lt, kt_eq, kf_eq, decide_true, decide_false, eq_self, Bool.false_eq_true, Bool.true_eq_false, not_true_eq_false, not_false_eq_true, jU_eq, jU_ne, jU_U, jV_eq, jV_ne, jV_V, kn_lit, kn_add, kn_mul, kn_sdm, kn_sub, kn_div, kn_nsdm, kn_lt, kn_eq, kn_pred, kn_m1, kn_m1', kn_a31, kn_shl, kn_shr, kn_bit, nB_0, nB_1, nB_t, nB_f, Nat.zero_add, Nat.add_zero, Nat.reduceAdd, Nat.reduceMul, Nat.reduceSub, Nat.reducePow]
        refine jW_bn (m_notesS hM hK3.1 (w := 2) (v := 0) (fun a => ⟨rfl, rfl, hroom a⟩)) (fun K4 hK4 => ?_)
        obtain ⟨K5, e5, k5, kF5⟩ := (simL F F (by omega) (by omega)).2 t' u' l' m' b' c' h' hM K4 hK4.1
        exact jW_e e5 (hP K5 ⟨k5, jFM_trans (jFM_M1 hK1.2) (jFM_trans hK3.2 (jFM_trans hK4.2 kF5))⟩)
theorem x_sum (hU : ∀ s, jLG n s → ∃ s', jSim tp n o (fun q => F_Law_readProduct Rc q 65 (nI o)) (F_Mod_product R 205) s s' ∧ jLG n s' ∧ jLU 1 s s') (hG : jLG n s) : ∃ s', jSim tp n o (fun q => E_Law_readSum Rc q 65 (nI o)) (E_Mod_sum R 205) s s' ∧ jLG n s' ∧ jLU 1 s s' := by
  obtain ⟨s1, sim, g1, u1⟩ := hU s hG
  have hn : n ≤ 150 := hG.2.1
  obtain ⟨s', simL, gL, uL⟩ := x_sumL (Rc := Rc) (R := R) hU (n + 1) 0 s1 g1 (fun a => by
    obtain ⟨b1, b2, b3, b4⟩ := u1 a
    omega) (by omega)
  have simL := simL jF jF (by show n + 1 < 1000; omega) (by show n + 1 < 1000; omega)
  refine ⟨s', ⟨fun t u l m b c h q hL hl J hJ => jE_n (fun P hP => ?_), fun t' u' l' m' b' c' h' hM J hJ => jE_n (fun P hP => ?_)⟩, gL, jLU_trans u1 uL⟩
  · unfold E_Law_readSum
    simp (disch := omega) only [↓dR_64_0 hL, ↓dK_65 hL, ↓dG_65 hL, ↓dP_65 hL, ↓dK_L hL hl, ↓dG_L hL hl, ↓dP_L hL hl, ↓reduceIte, ↓kq_bi, ↓kq_let, ↓kq_rz0, ↓kq_rz1, ↓kq_rzB, ↓Option.bind_some, kq_dvn, kt_lt, kf_lt, kt_eq, kf_eq, decide_true, decide_false, eq_self, Bool.false_eq_true, Bool.true_eq_false, not_true_eq_false, not_false_eq_true, jU_eq, jU_ne, jU_U, jV_eq, jV_ne, jV_V, kn_lit, kn_add, kn_mul, kn_sdm, kn_sub, kn_div, kn_nsdm, kn_lt, kn_eq, kn_pred, kn_m1, kn_m1', kn_a31, kn_shl, kn_shr, kn_bit, nB_0, nB_1, nB_t, nB_f, Nat.zero_add, Nat.add_zero, Nat.reduceAdd, Nat.reduceMul, Nat.reduceSub, Nat.reducePow]
    refine jW_bn (sim.1 t u l m b c h q hL hl J hJ) (fun K hK => ?_)
    obtain ⟨K2, e2, k2, kF2⟩ := simL.1 t u l m b c h q hL hl K hK.1
    exact jW_e e2 (hP K2 ⟨k2, jFC_trans hK.2 kF2⟩)
  · unfold E_Mod_sum
    simp (disch := omega) only [↓dK_205 hM, ↓dG_205 hM, ↓dP_205 hM, ↓dZ_205 hM (x := nI 0) (Or.inl rfl), ↓dZ_205 hM (x := nI 1) (Or.inr rfl), ↓dZ_205 hM (Or.inl rfl), ↓dZ_205 hM (Or.inr rfl), ↓dZ_205 hM (nB_01 _), ↓reduceIte, ↓kq_bi, ↓kq_let, ↓kq_rz0, ↓kq_rz1, ↓kq_rzB, ↓Option.bind_some, kq_dvn, kt_lt, kf_lt, kt_eq, kf_eq, decide_true, decide_false, eq_self, Bool.false_eq_true, Bool.true_eq_false, not_true_eq_false, not_false_eq_true, jU_eq, jU_ne, jU_U, jV_eq, jV_ne, jV_V, kn_lit, kn_add, kn_mul, kn_sdm, kn_sub, kn_div, kn_nsdm, kn_lt, kn_eq, kn_pred, kn_m1, kn_m1', kn_a31, kn_shl, kn_shr, kn_bit, nB_0, nB_1, nB_t, nB_f, Nat.zero_add, Nat.add_zero, Nat.reduceAdd, Nat.reduceMul, Nat.reduceSub, Nat.reducePow]
    refine jW_bn (sim.2 t' u' l' m' b' c' h' hM J hJ) (fun K hK => ?_)
    obtain ⟨K2, e2, k2, kF2⟩ := simL.2 t' u' l' m' b' c' h' hM K hK.1
    exact jW_e e2 (hP K2 ⟨k2, jFM_trans hK.2 kF2⟩)
theorem x_sums : ∀ d o, o ≤ 6 → 7 ≤ o + d → ∀ s, jLG n s → ∃ s', jSim tp n o (fun q => F_Law_readSum d q 65 (nI o)) (F_Mod_sum d 205) s s' ∧ jLG n s' ∧ jLU 1 s s'
  | 0, o, h1, h2 => by omega
  | d + 1, o, h1, h2 => fun s hG => x_sum (fun s hG => x_product (fun s hG => x_unit hG h1 (fun h6 s hG => x_sums d (o + 1) (by omega) (by omega) s hG)) hG) hG
end

/-! PLAIN LEAN: book, as a call -/
theorem s_bb_0 : s_bb (0, fun _ _ => 0) = 0 := by decide
section
variable {t u l m b c : Nat} {h : LH} {I J K : Nat → Nat → Int32} {A : JA} {N : Nat} {τ : JTn} {ω : JLw} {r : JRw} {β : JBk} {H : JHs} {E : JIm} {Tp : Nat × (Nat → Nat)} {p : Int32} {rf c0 c1 : Nat} {v : Int32} {tp : Nat → Nat} {n q : Nat} {y : JTs} {x : Int32}
theorem m_lays_598 (hL : jLay t u l m b c h) (hq : q ≤ 9) : ∃ K, F_Mod_lays 598 588 (nI q) (jz_I h J) = some (jz_I h K) ∧ (∀ w i, w < q → i < 2 → K (589 + w) i = J (599 + w) i) ∧ ∀ a, ¬ (589 ≤ a ∧ a < 598) → K a = J a := by
  refine jE_n (fun P hP => ?_)
  unfold F_Mod_lays
  refine jW_for0 (A := Nat → Nat → Int32) (f := fun fuel w s => F_Mod_lays_l2 fuel 598 588 (nI q) (nI w) (jz_I h s)) q (fun w s => (∀ w' i, w' < w → i < 2 → s (589 + w') i = J (599 + w') i) ∧ ∀ a, ¬ (589 ≤ a ∧ a < 598) → s a = J a) J ⟨fun w' _ hw _ => absurd hw (Nat.not_lt_zero w'), fun _ _ => rfl⟩ (by omega) (fun F w s hw hV ih => ?_) (fun F s hV => ?_)
  · show jW (F_Mod_lays_c2 (F_Mod_lays_l2 F) 598 588 (nI q) (nI w) (jz_I h s)) P
    unfold F_Mod_lays_c2
    simp (disch := omega) only [↓reduceIte, ↓kq_bi, ↓kq_let, ↓kq_rz0, ↓kq_rz1, ↓kq_rzB, ↓Option.bind_some, kq_dvn, kt_lt, kf_lt, kt_eq, kf_eq, decide_true, decide_false, eq_self, Bool.false_eq_true, Bool.true_eq_false, not_true_eq_false, not_false_eq_true, jU_eq, jU_ne, jU_U, jV_eq, jV_ne, jV_V, kn_lit, kn_add, kn_mul, kn_sdm, kn_sub, kn_div, kn_nsdm, kn_lt, kn_eq, kn_pred, kn_m1, kn_m1', kn_a31, kn_shl, kn_shr, kn_bit, nB_0, nB_1, nB_t, nB_f, Nat.zero_add, Nat.add_zero, Nat.reduceAdd, Nat.reduceMul, Nat.reduceSub, Nat.reducePow]
    refine jW_for0 (A := Nat → Nat → Int32) (f := fun fuel i s' => F_Mod_lays_l10 (F_Mod_lays_l2 F) fuel 598 588 (nI q) (nI w) (nI i) (jz_I h s')) 2 (fun i s' => (∀ i', i' < i → s' (589 + w) i' = J (599 + w) i') ∧ ∀ a, ¬ a = 589 + w → s' a = s a) s ⟨fun i' hi => absurd hi (Nat.not_lt_zero i'), fun _ _ => rfl⟩ (by omega) (fun G i s' hi hW ih2 => ?_) (fun G s' hW => ?_)
    · show jW (F_Mod_lays_c10 (F_Mod_lays_l2 F) (F_Mod_lays_l10 (F_Mod_lays_l2 F) G) 598 588 (nI q) (nI w) (nI i) (jz_I h s')) P
      unfold F_Mod_lays_c10
      simp (disch := omega) only [dL_589 hL, ↓dR_205_30 hL, dA_598 hL, dI_599 hL, dS_599 hL, ↓dR_205_29 hL, dA_588 hL, dI_589 hL, dS_589 hL, ↓reduceIte, ↓kq_bi, ↓kq_let, ↓kq_rz0, ↓kq_rz1, ↓kq_rzB, ↓Option.bind_some, kq_dvn, kt_lt, kf_lt, kt_eq, kf_eq, decide_true, decide_false, eq_self, Bool.false_eq_true, Bool.true_eq_false, not_true_eq_false, not_false_eq_true, jU_eq, jU_ne, jU_U, jV_eq, jV_ne, jV_V, kn_lit, kn_add, kn_mul, kn_sdm, kn_sub, kn_div, kn_nsdm, kn_lt, kn_eq, kn_pred, kn_m1, kn_m1', kn_a31, kn_shl, kn_shr, kn_bit, nB_0, nB_1, nB_t, nB_f, Nat.zero_add, Nat.add_zero, Nat.reduceAdd, Nat.reduceMul, Nat.reduceSub, Nat.reducePow]
      refine ih2 _ ⟨fun i' hi' => ?_, fun a ha => by rw [jU_ne ha]; exact hW.2 a ha⟩
      rw [jU_eq]
      by_cases z : i' = i
      · rw [z, jV_eq, hW.2 (599 + w) (by omega), hV.2 (599 + w) (by omega)]
      · rw [jV_ne z]; exact hW.1 i' (by omega)
    · show jW (F_Mod_lays_c10 (F_Mod_lays_l2 F) (F_Mod_lays_l10 (F_Mod_lays_l2 F) G) 598 588 (nI q) (nI w) (nI 2) (jz_I h s')) P
      unfold F_Mod_lays_c10
      simp (disch := omega) only [dL_589 hL, ↓dR_205_30 hL, dA_598 hL, dI_599 hL, dS_599 hL, ↓dR_205_29 hL, dA_588 hL, dI_589 hL, dS_589 hL, ↓reduceIte, ↓kq_bi, ↓kq_let, ↓kq_rz0, ↓kq_rz1, ↓kq_rzB, ↓Option.bind_some, kq_dvn, kt_lt, kf_lt, kt_eq, kf_eq, decide_true, decide_false, eq_self, Bool.false_eq_true, Bool.true_eq_false, not_true_eq_false, not_false_eq_true, jU_eq, jU_ne, jU_U, jV_eq, jV_ne, jV_V, kn_lit, kn_add, kn_mul, kn_sdm, kn_sub, kn_div, kn_nsdm, kn_lt, kn_eq, kn_pred, kn_m1, kn_m1', kn_a31, kn_shl, kn_shr, kn_bit, nB_0, nB_1, nB_t, nB_f, Nat.zero_add, Nat.add_zero, Nat.reduceAdd, Nat.reduceMul, Nat.reduceSub, Nat.reducePow]
      refine ih s' ⟨fun w' i h1 h2 => ?_, fun a ha => by rw [hW.2 a (by omega)]; exact hV.2 a ha⟩
      by_cases z : w' = w
      · rw [z]; exact hW.1 i h2
      · rw [hW.2 (589 + w') (by omega)]; exact hV.1 w' i (by omega) h2
  · show jW (F_Mod_lays_c2 (F_Mod_lays_l2 F) 598 588 (nI q) (nI q) (jz_I h s)) P
    unfold F_Mod_lays_c2
    simp (disch := omega) only [↓reduceIte, ↓kq_bi, ↓kq_let, ↓kq_rz0, ↓kq_rz1, ↓kq_rzB, ↓Option.bind_some, kq_dvn, kt_lt, kf_lt, kt_eq, kf_eq, decide_true, decide_false, eq_self, Bool.false_eq_true, Bool.true_eq_false, not_true_eq_false, not_false_eq_true, jU_eq, jU_ne, jU_U, jV_eq, jV_ne, jV_V, kn_lit, kn_add, kn_mul, kn_sdm, kn_sub, kn_div, kn_nsdm, kn_lt, kn_eq, kn_pred, kn_m1, kn_m1', kn_a31, kn_shl, kn_shr, kn_bit, nB_0, nB_1, nB_t, nB_f, Nat.zero_add, Nat.add_zero, Nat.reduceAdd, Nat.reduceMul, Nat.reduceSub, Nat.reducePow]
    exact jW_s (hP s hV)
theorem m_book189F (hL : jLay t u l m b c h) (hT : jTM J tp n y) (h0 : ¬ y.2.1 = 0) : F_Mod_book_b189 205 x (jz_I h J) = some (nI y.2.1 - nI 10, jz_I h (jU J 205 (jV (J 205) 3 (nF y)))) := by
  have h5 := hT.2.2.1.1
  have y2 := hT.2.1.2.1
  unfold F_Mod_book_b189
  simp (disch := omega) only [h5, ↓m_ends hL hT, ↓dK_205 hL, ↓dG_205 hL, ↓dP_205 hL, ↓dZ_205 hL (x := nI 0) (Or.inl rfl), ↓dZ_205 hL (x := nI 1) (Or.inr rfl), ↓dZ_205 hL (Or.inl rfl), ↓dZ_205 hL (Or.inr rfl), ↓dZ_205 hL (nB_01 _), ↓reduceIte, ↓kq_bi, ↓kq_let, ↓kq_rz0, ↓kq_rz1, ↓kq_rzB, ↓Option.bind_some, kq_dvn, kt_lt, kf_lt, kt_eq, kf_eq, decide_true, decide_false, eq_self, Bool.false_eq_true, Bool.true_eq_false, not_true_eq_false, not_false_eq_true, jU_eq, jU_ne, jU_U, jV_eq, jV_ne, jV_V, kn_lit, kn_add, kn_mul, kn_sdm, kn_sub, kn_div, kn_nsdm, kn_lt, kn_eq, kn_pred, kn_m1, kn_m1', kn_a31, kn_shl, kn_shr, kn_bit, nB_0, nB_1, nB_t, nB_f, Nat.zero_add, Nat.add_zero, Nat.reduceAdd, Nat.reduceMul, Nat.reduceSub, Nat.reducePow]
theorem m_book189 (hL : jLay t u l m b c h) (h5 : J 205 5 = nI 0) (h9 : β.1 ≤ 9) (hr : ∀ i j, i < β.1 → j < 2 → J (599 + i) j = nI (β.2 i j)) : ∃ K, F_Mod_book_b189 205 (nI β.1) (jz_I h J) = some (nI β.1, jz_I h K) ∧ K 205 3 = -nI 1 ∧ jMB K β ∧ (∀ f, ¬ f = 3 → ¬ f = 39 → K 205 f = J 205 f) ∧ ∀ a, ¬ a = 205 → ¬ (589 ≤ a ∧ a < 598) → K a = J a := by
  refine jE_i (fun P hP => ?_)
  unfold F_Mod_book_b189
  simp (disch := omega) only [h5, ↓dK_205 hL, ↓dG_205 hL, ↓dP_205 hL, ↓dZ_205 hL (x := nI 0) (Or.inl rfl), ↓dZ_205 hL (x := nI 1) (Or.inr rfl), ↓dZ_205 hL (Or.inl rfl), ↓dZ_205 hL (Or.inr rfl), ↓dZ_205 hL (nB_01 _), ↓dR_205_30 hL, dA_598 hL, dI_599 hL, dS_599 hL, ↓dR_205_29 hL, dA_588 hL, dI_589 hL, dS_589 hL, ↓reduceIte, ↓kq_bi, ↓kq_let, ↓kq_rz0, ↓kq_rz1, ↓kq_rzB, ↓Option.bind_some, kq_dvn, kt_lt, kf_lt, kt_eq, kf_eq, decide_true, decide_false, eq_self, Bool.false_eq_true, Bool.true_eq_false, not_true_eq_false, not_false_eq_true, jU_eq, jU_ne, jU_U, jV_eq, jV_ne, jV_V, kn_lit, kn_add, kn_mul, kn_sdm, kn_sub, kn_div, kn_nsdm, kn_lt, kn_eq, kn_pred, kn_m1, kn_m1', kn_a31, kn_shl, kn_shr, kn_bit, nB_0, nB_1, nB_t, nB_f, Nat.zero_add, Nat.add_zero, Nat.reduceAdd, Nat.reduceMul, Nat.reduceSub, Nat.reducePow]
  refine jW_bn (m_lays_598 hL (q := β.1) (by omega)) (fun K hK => ?_)
  obtain ⟨k1, k2⟩ := hK
  have e5 := k2 205 (by omega)
  refine jW_s (hP K ⟨?_, ⟨?_, fun i j hi hj => ?_⟩, fun f f1 f2 => ?_, fun a a1 a2 => ?_⟩)
  · rw [e5]; simp (disch := omega) only [jU_eq, jV_ne, jV_eq]
  · rw [e5]; simp (disch := omega) only [jU_eq, jV_ne, jV_eq]
  · rw [k1 i j hi hj]; simp (disch := omega) only [jU_ne]; exact hr i j hi hj
  · rw [e5]; simp (disch := omega) only [jU_eq, jV_ne]
  · rw [k2 a a2]; simp (disch := omega) only [jU_ne]
theorem m_bookL (hL : jLay t u l m b c h) (hT : jMT J τ) (ho : jTOK τ) (hX : jTM J tp n (0, 0, 0)) (h4 : J 205 4 = nI (s_skp c_bl tp n 0)) {P : Int32 × LH → Prop} (hP : ∀ K x1, jBkM K tp n (s_book tp n (τ 0 0)) → ((s_book tp n (τ 0 0)).1.2.1 = 0 → x1 = nI (s_book tp n (τ 0 0)).2.1) → jBF J K → jW (F_Mod_book_b189 205 x1 (jz_I h K)) P) : jW (F_Mod_book_l48 jF 205 (nI 0) (nI 0) (jz_I h J)) P := by
  have o0 : τ 0 0 ≤ 9 := ho.1
  refine jW_for0 (A := (Nat → Nat → Int32) × Int32 × Int32 × JTs × JBk) (f := fun fuel k s => F_Mod_book_l48 fuel 205 s.2.1 s.2.2.1 (jz_I h s.1)) 10 (fun k s => jBkM s.1 tp n s.2.2.2 ∧ (s.2.2.2.1.2.1 = 0 → s.1 205 4 = nI (s_skp c_bl tp n s.2.2.2.1.1) ∧ s.2.1 = nI s.2.2.2.2.1 ∧ s.2.2.1 = nI (s_bb s.2.2.2.2) ∧ s.2.2.2.2.1 = k ∧ jBOK τ s.2.2.2.2) ∧ jBF J s.1 ∧ s_bk tp n (τ 0 0) (10 - k) s.2.2.2 = s_book tp n (τ 0 0)) (J, nI 0, nI 0, (0, 0, 0), (0, fun _ _ => 0)) ⟨⟨hX, fun _ i j hi => absurd hi (Nat.not_lt_zero i)⟩, fun _ => ⟨h4, rfl, congrArg nI s_bb_0.symm, rfl, Nat.zero_le _, fun k hk => absurd hk (Nat.not_lt_zero k)⟩, jBF_r, rfl⟩ (by omega) (fun F k s hk hV ih => ?_) (fun F s hV => ?_)
  · obtain ⟨v1, v2, v3, v4⟩ := hV
    obtain ⟨J2, x1, x2, y, β⟩ := s
    show jW (F_Mod_book_c48 (F_Mod_book_l48 F) 205 x1 x2 (jz_I h J2)) P
    have v1 : jBkM J2 tp n (y, β) := v1
    have v2 : y.2.1 = 0 → J2 205 4 = nI (s_skp c_bl tp n y.1) ∧ x1 = nI β.1 ∧ x2 = nI (s_bb β) ∧ β.1 = k ∧ jBOK τ β := v2
    have v3 : jBF J J2 := v3
    rw [show 10 - k = (9 - k) + 1 by omega] at v4
    have v4 : (if s_nc tp n y = none then (s_nx tp n y, β) else s_bk tp n (τ 0 0) (9 - k) (s_ln tp n (τ 0 0) β (s_nx tp n y))) = s_book tp n (τ 0 0) := v4
    have hy : jTy n y := v1.1.2.1
    have y2 := hy.2.1
    have hn := hy.2.2.2
    have h5 : J2 205 5 = nI y.2.1 := v1.1.2.2.1.1
    have hs : J2 205 2 = nI n := v1.1.1.1
    have hp := (s_skp_ge (c := c_bl) (tp := tp) hy.1).2
    by_cases h0 : y.2.1 = 0
    · obtain ⟨q1, q2, q3, q4, q5⟩ := v2 h0
      have enx : s_nx tp n y = (s_skp c_bl tp n y.1, y.2) := if_pos h0
      by_cases z : s_skp c_bl tp n y.1 < n
      · rw [if_neg (show ¬ s_nc tp n y = none by rw [s_nc0 h0, show s_byt tp n (s_skp c_bl tp n y.1) = some _ from if_pos z]; intro a; cases a)] at v4
        have J2T : jMT J2 τ := jMT_congr (fun a a1 a2 => v3.2 a (by omega) (by omega)) ho hT
        rw [q2, q3]
        refine m_line hL J2T ho (s_nx_id hy) (by rw [s_nx_2]; exact h0) (by rw [enx]; exact z) (by rw [enx]; exact q1) q5 ⟨jTM_nx v1.1, fun _ => v1.2 h0⟩ (fun K z1 z2 a1 a2 a3 => ?_)
        refine ih (K, z1, z2, s_ln tp n (τ 0 0) β (s_nx tp n y)) ⟨a1, fun e => ?_, jBF_trans v3 a3, by rw [show 10 - (k + 1) = 9 - k by omega]; exact v4⟩
        obtain ⟨w1, w2, w3⟩ := a2 e
        exact ⟨w1, w2, w3, by show β.1 + 1 = k + 1; omega, s_ln_ok q5 (s_nd_0 e)⟩
      · rw [if_pos (show s_nc tp n y = none by rw [s_nc0 h0]; exact if_neg z)] at v4
        rw [← v4] at hP
        rw [h0] at h5
        unfold F_Mod_book_c48
        simp (disch := omega) only [h5, q1, hs, ↓dK_205 hL, ↓dG_205 hL, ↓dP_205 hL, ↓dZ_205 hL (x := nI 0) (Or.inl rfl), ↓dZ_205 hL (x := nI 1) (Or.inr rfl), ↓dZ_205 hL (Or.inl rfl), ↓dZ_205 hL (Or.inr rfl), ↓dZ_205 hL (nB_01 _), ↓reduceIte, ↓kq_bi, ↓kq_let, ↓kq_rz0, ↓kq_rz1, ↓kq_rzB, ↓Option.bind_some, kq_dvn, kt_lt, kf_lt, kt_eq, kf_eq, decide_true, decide_false, eq_self, Bool.false_eq_true, Bool.true_eq_false, not_true_eq_false, not_false_eq_true, jU_eq, jU_ne, jU_U, jV_eq, jV_ne, jV_V, kn_lit, kn_add, kn_mul, kn_sdm, kn_sub, kn_div, kn_nsdm, kn_lt, kn_eq, kn_pred, kn_m1, kn_m1', kn_a31, kn_shl, kn_shr, kn_bit, nB_0, nB_1, nB_t, nB_f, Nat.zero_add, Nat.add_zero, Nat.reduceAdd, Nat.reduceMul, Nat.reduceSub, Nat.reducePow]
        exact hP J2 x1 ⟨jTM_nx v1.1, fun _ => v1.2 h0⟩ (fun _ => q2) v3
    · rw [if_pos (show s_nc tp n y = none from if_neg (fun a => h0 a.1))] at v4
      rw [← v4] at hP
      unfold F_Mod_book_c48
      simp (disch := omega) only [h5, ↓dK_205 hL, ↓dG_205 hL, ↓dP_205 hL, ↓dZ_205 hL (x := nI 0) (Or.inl rfl), ↓dZ_205 hL (x := nI 1) (Or.inr rfl), ↓dZ_205 hL (Or.inl rfl), ↓dZ_205 hL (Or.inr rfl), ↓dZ_205 hL (nB_01 _), ↓reduceIte, ↓kq_bi, ↓kq_let, ↓kq_rz0, ↓kq_rz1, ↓kq_rzB, ↓Option.bind_some, kq_dvn, kt_lt, kf_lt, kt_eq, kf_eq, decide_true, decide_false, eq_self, Bool.false_eq_true, Bool.true_eq_false, not_true_eq_false, not_false_eq_true, jU_eq, jU_ne, jU_U, jV_eq, jV_ne, jV_V, kn_lit, kn_add, kn_mul, kn_sdm, kn_sub, kn_div, kn_nsdm, kn_lt, kn_eq, kn_pred, kn_m1, kn_m1', kn_a31, kn_shl, kn_shr, kn_bit, nB_0, nB_1, nB_t, nB_f, Nat.zero_add, Nat.add_zero, Nat.reduceAdd, Nat.reduceMul, Nat.reduceSub, Nat.reducePow]
      exact hP J2 x1 ⟨jTM_nx v1.1, fun e => absurd (by rw [← s_nx_2 (tp := tp) (n := n)]; exact e) h0⟩ (fun e => absurd (by rw [← s_nx_2 (tp := tp) (n := n)]; exact e) h0) v3
  · obtain ⟨v1, v2, v3, v4⟩ := hV
    have v4 : s.2.2.2 = s_book tp n (τ 0 0) := v4
    have v6 : ¬ s.2.2.2.1.2.1 = 0 := fun e => by
      obtain ⟨-, -, -, q4, q5⟩ := v2 e
      have := q5.1
      omega
    have h5 : s.1 205 5 = nI s.2.2.2.1.2.1 := v1.1.2.2.1.1
    have y2 : s.2.2.2.1.2.1 ≤ 3 := v1.1.2.1.2.1
    rw [← v4] at hP
    show jW (F_Mod_book_c48 (F_Mod_book_l48 F) 205 s.2.1 s.2.2.1 (jz_I h s.1)) P
    unfold F_Mod_book_c48
    simp (disch := omega) only [h5, ↓dK_205 hL, ↓dG_205 hL, ↓dP_205 hL, ↓dZ_205 hL (x := nI 0) (Or.inl rfl), ↓dZ_205 hL (x := nI 1) (Or.inr rfl), ↓dZ_205 hL (Or.inl rfl), ↓dZ_205 hL (Or.inr rfl), ↓dZ_205 hL (nB_01 _), ↓reduceIte, ↓kq_bi, ↓kq_let, ↓kq_rz0, ↓kq_rz1, ↓kq_rzB, ↓Option.bind_some, kq_dvn, kt_lt, kf_lt, kt_eq, kf_eq, decide_true, decide_false, eq_self, Bool.false_eq_true, Bool.true_eq_false, not_true_eq_false, not_false_eq_true, jU_eq, jU_ne, jU_U, jV_eq, jV_ne, jV_V, kn_lit, kn_add, kn_mul, kn_sdm, kn_sub, kn_div, kn_nsdm, kn_lt, kn_eq, kn_pred, kn_m1, kn_m1', kn_a31, kn_shl, kn_shr, kn_bit, nB_0, nB_1, nB_t, nB_f, Nat.zero_add, Nat.add_zero, Nat.reduceAdd, Nat.reduceMul, Nat.reduceSub, Nat.reducePow]
    exact hP s.1 s.2.1 v1 (fun e => absurd e v6) v3
theorem x_bookC (hA : jAG N A) (x : Int32) : jDo cdI (fun g => F_SG_book 64 x g) (fun g => F_Mod_book 205 x g) N A := by
  obtain ⟨τ, ω, r, β, H, E, ⟨q, tp⟩, p, rf, c0, c1⟩ := A
  obtain ⟨hq, h256⟩ : q ≤ 600 ∧ ∀ k, tp k < 256 := hA.2.2.2.2.2.2.1
  have ho : jTOK τ := hA.1
  have o0 : τ 0 0 ≤ 9 := ho.1
  by_cases gx : jTn x 100 q
  · obtain ⟨n, hn5, hn, rfl⟩ := gx
    have hok : (s_book tp n (τ 0 0)).1.2.1 = 0 → jBOK τ (s_book tp n (τ 0 0)).2 := s_bk_ok 10 _ (fun _ => ⟨Nat.zero_le _, fun k hk => absurd hk (Nat.not_lt_zero k)⟩)
    have hA2 : jAG (N + 1) (τ, ω, r, (if (s_book tp n (τ 0 0)).1.2.1 = 0 then (s_book tp n (τ 0 0)).2 else β), H, E, (0, tp), nF (s_book tp n (τ 0 0)).1, rf, c0, c1) := by
      obtain ⟨a1, a2, a3, a4, a5⟩ := jAG_flt (p' := nF (s_book tp n (τ 0 0)).1) hA
      refine ⟨a1, a2, a3, ?_, a5⟩
      split
      · rename_i h0; exact hok h0
      · exact a4
    refine ⟨.inl (if (s_book tp n (τ 0 0)).1.2.1 = 0 then nI (s_book tp n (τ 0 0)).2.1 else nI (s_book tp n (τ 0 0)).1.2.1 - nI 10), (τ, ω, r, (if (s_book tp n (τ 0 0)).1.2.1 = 0 then (s_book tp n (τ 0 0)).2 else β), H, E, (0, tp), nF (s_book tp n (τ 0 0)).1, rf, c0, c1), ⟨fun t u l m b c h I hL hC => ?_, fun t u l m b c h I hL hC => ?_⟩, hA2, fun k e => by cases e⟩
    · have hl := jLay_l hL
      have ht := jLay_t hL
      have hb := jLay_b hL
      have hc := jLay_c hL
      have hbc : ¬ b = c := by have := hL.2.2.2.2.2.2.1; omega
      obtain ⟨e1, e3, etp⟩ : I 65 1 = nI q ∧ I 65 3 = p ∧ ∀ k, k < q → I 66 k = nS (tp k) := hC.2.2.2.2.2.1
      have hS := hC.2.2.2.2.2.2.2
      suffices hW : ∀ P : JOut → Prop, (∀ t' u' l' m' b' c' h' J, jLay t' u' l' m' b' c' h' → jCC h' J t' l' b' (τ, ω, r, (if (s_book tp n (τ 0 0)).1.2.1 = 0 then (s_book tp n (τ 0 0)).2 else β), H, E, (0, tp), nF (s_book tp n (τ 0 0)).1, rf, c0, c1) → (∀ a, a < 64 ∨ 205 ≤ a → J a = I a) → jHp h h' → P (jo_i (if (s_book tp n (τ 0 0)).1.2.1 = 0 then nI (s_book tp n (τ 0 0)).2.1 else nI (s_book tp n (τ 0 0)).1.2.1 - nI 10, jz_I h' J))) → jW (F_SG_book 64 (nI n) (jz_I h I)) P by
        obtain ⟨o, e, t', u', l', m', b', c', h', J, rfl, z⟩ := hW (fun o => ∃ t' u' l' m' b' c' h' J, o = jo_i (if (s_book tp n (τ 0 0)).1.2.1 = 0 then nI (s_book tp n (τ 0 0)).2.1 else nI (s_book tp n (τ 0 0)).1.2.1 - nI 10, jz_I h' J) ∧ jLay t' u' l' m' b' c' h' ∧ jCC h' J t' l' b' (τ, ω, r, (if (s_book tp n (τ 0 0)).1.2.1 = 0 then (s_book tp n (τ 0 0)).2 else β), H, E, (0, tp), nF (s_book tp n (τ 0 0)).1, rf, c0, c1) ∧ (∀ a, a < 64 ∨ 205 ≤ a → J a = I a) ∧ jHp h h') (fun t' u' l' m' b' c' h' J a1 a2 a3 a4 => ⟨t', u', l', m', b', c', h', J, rfl, a1, a2, a3, a4⟩)
        exact ⟨t', u', l', m', b', c', h', J, e, z⟩
      intro P hP
      unfold F_SG_book
      rw [dK_64 hL]
      refine jW_th (c_openG hL (most := 100) (by omega) hq e1 hn5 hn etp h256) (fun K hK => ?_)
      obtain ⟨k1, kT⟩ := hK
      simp (disch := omega) only [↓dR_64_13 hL, ↓dR_85_1 hL, ↓dK_B hL hc, ↓dK_64 hL, ↓dG_64 hL, ↓dP_64 hL, ↓dR_64_0 hL, ↓dK_65 hL, ↓dG_65 hL, ↓dP_65 hL, ↓dR_64_2 hL, ↓dK_85 hL, ↓dG_85 hL, ↓dP_85 hL, ↓dZ_85 hL (x := nI 0) (Or.inl rfl), ↓dZ_85 hL (x := nI 1) (Or.inr rfl), ↓dZ_85 hL (Or.inl rfl), ↓dZ_85 hL (Or.inr rfl), ↓dZ_85 hL (nB_01 _), ↓reduceIte, ↓kq_bi, ↓kq_let, ↓kq_rz0, ↓kq_rz1, ↓kq_rzB, ↓Option.bind_some, kq_dvn, kt_lt, kf_lt, kt_eq, kf_eq, decide_true, decide_false, eq_self, Bool.false_eq_true, Bool.true_eq_false, not_true_eq_false, not_false_eq_true, jU_eq, jU_ne, jU_U, jV_eq, jV_ne, jV_V, kn_lit, kn_add, kn_mul, kn_sdm, kn_sub, kn_div, kn_nsdm, kn_lt, kn_eq, kn_pred, kn_m1, kn_m1', kn_a31, kn_shl, kn_shr, kn_bit, nB_0, nB_1, nB_t, nB_f, Nat.zero_add, Nat.add_zero, Nat.reduceAdd, Nat.reduceMul, Nat.reduceSub, Nat.reducePow]
      refine jW_bn (c_bookR hL hc (jCT_congr (fun i hi => kT.2 _ (by omega)) hC.1.1) ho k1) (fun L hL' => ?_)
      obtain ⟨l1, l2, l3⟩ := hL'
      have l65 : L 65 2 = nI (s_book tp n (τ 0 0)).1.2.1 := l1.1.1
      have hy2 : (s_book tp n (τ 0 0)).1.2.1 ≤ 3 := l1.2.1.2.1
      have lF : ∀ a, ¬ a = 65 → ¬ a = c → ¬ a = c + 1 → L a = I a := fun a x1 x2 x3 => (l3.2 a x1 x2 x3).trans (kT.2 a x1)
      have hCf := jCC_flt hL hC hA l1 (fun a x1 x2 => lF a x1 (by omega) (by omega))
      simp (disch := omega) only [c_close hL, ↓dK_64 hL, ↓dG_64 hL, ↓dP_64 hL, ↓dR_64_0 hL, ↓dK_65 hL, ↓dG_65 hL, ↓dP_65 hL, ↓reduceIte, ↓kq_bi, ↓kq_let, ↓kq_rz0, ↓kq_rz1, ↓kq_rzB, ↓Option.bind_some, kq_dvn, kt_lt, kf_lt, kt_eq, kf_eq, decide_true, decide_false, eq_self, Bool.false_eq_true, Bool.true_eq_false, not_true_eq_false, not_false_eq_true, jU_eq, jU_ne, jU_U, jV_eq, jV_ne, jV_V, kn_lit, kn_add, kn_mul, kn_sdm, kn_sub, kn_div, kn_nsdm, kn_lt, kn_eq, kn_pred, kn_m1, kn_m1', kn_a31, kn_shl, kn_shr, kn_bit, nB_0, nB_1, nB_t, nB_f, Nat.zero_add, Nat.add_zero, Nat.reduceAdd, Nat.reduceMul, Nat.reduceSub, Nat.reducePow]
      by_cases h0 : (s_book tp n (τ 0 0)).1.2.1 = 0
      · rw [if_pos h0, if_pos h0] at hP
        rw [h0] at l65
        have hk9 := (hok h0).1
        simp (disch := omega) only [↓dK_64 hL, ↓dG_64 hL, ↓dP_64 hL, ↓dR_64_0 hL, ↓dK_65 hL, ↓dG_65 hL, ↓dP_65 hL, kn_lit, l65, jU_eq, jV_ne, ↓reduceIte, ↓dR_64_12 hL, ↓dR_64_13 hL]
        rw [c_swB hL]
        have hL2 := jLay_sb hL
        have l20 : (jU L 65 (jV (L 65) 1 (nI 0))) c 2 = nI (s_book tp n (τ 0 0)).2.1 := by rw [jU_ne (by omega)]; exact (l2 h0).1
        simp (disch := omega) only [↓dR_64_12 hL2, ↓dG_B hL2 hc, l20]
        refine jW_s (hP t u l m c b (jSwB h b c) (jU L 65 (jV (L 65) 1 (nI 0))) hL2 ?_ (fun a ha => by rw [jU_ne (by omega)]; exact lF a (by omega) (by omega) (by omega)) ⟨Or.inl rfl, rfl⟩)
        obtain ⟨f1, f2, -, f4⟩ := hCf
        exact ⟨f1, f2, jCB_cg (fun a ha => jU_ne (by omega)) (l2 h0), f4⟩
      · rw [if_neg h0, if_neg h0] at hP
        simp (disch := omega) only [l65, ↓dK_64 hL, ↓dG_64 hL, ↓dP_64 hL, ↓dR_64_0 hL, ↓dK_65 hL, ↓dG_65 hL, ↓dP_65 hL, ↓reduceIte, ↓kq_bi, ↓kq_let, ↓kq_rz0, ↓kq_rz1, ↓kq_rzB, ↓Option.bind_some, kq_dvn, kt_lt, kf_lt, kt_eq, kf_eq, decide_true, decide_false, eq_self, Bool.false_eq_true, Bool.true_eq_false, not_true_eq_false, not_false_eq_true, jU_eq, jU_ne, jU_U, jV_eq, jV_ne, jV_V, kn_lit, kn_add, kn_mul, kn_sdm, kn_sub, kn_div, kn_nsdm, kn_lt, kn_eq, kn_pred, kn_m1, kn_m1', kn_a31, kn_shl, kn_shr, kn_bit, nB_0, nB_1, nB_t, nB_f, Nat.zero_add, Nat.add_zero, Nat.reduceAdd, Nat.reduceMul, Nat.reduceSub, Nat.reducePow]
        exact jW_s (hP t u l m b c h (jU L 65 (jV (L 65) 1 (nI 0))) hL hCf (fun a ha => by rw [jU_ne (by omega)]; exact lF a (by omega) (by omega) (by omega)) ⟨Or.inl rfl, rfl⟩)
    · obtain ⟨e1, e3, etp⟩ : I 205 1 = nI q ∧ I 205 3 = p ∧ ∀ k, k < q → I 206 k = nI (tp k) := hC.2.2.2.2.2.1
      suffices hW : ∀ P : Int32 × LH → Prop, (∀ K, K 205 0 = nI 0 → jMM K (τ, ω, r, (if (s_book tp n (τ 0 0)).1.2.1 = 0 then (s_book tp n (τ 0 0)).2 else β), H, E, (0, tp), nF (s_book tp n (τ 0 0)).1, rf, c0, c1) → (∀ a, a < 205 → K a = I a) → P (if (s_book tp n (τ 0 0)).1.2.1 = 0 then nI (s_book tp n (τ 0 0)).2.1 else nI (s_book tp n (τ 0 0)).1.2.1 - nI 10, jz_I h K)) → jW (F_Mod_book 205 (nI n) (jz_I h I)) P by
        obtain ⟨o, e, K, rfl, z1, z2, z3⟩ := hW (fun o => ∃ K, o = (if (s_book tp n (τ 0 0)).1.2.1 = 0 then nI (s_book tp n (τ 0 0)).2.1 else nI (s_book tp n (τ 0 0)).1.2.1 - nI 10, jz_I h K) ∧ K 205 0 = nI 0 ∧ jMM K (τ, ω, r, (if (s_book tp n (τ 0 0)).1.2.1 = 0 then (s_book tp n (τ 0 0)).2 else β), H, E, (0, tp), nF (s_book tp n (τ 0 0)).1, rf, c0, c1) ∧ ∀ a, a < 205 → K a = I a) (fun K a1 a2 a3 => ⟨K, rfl, a1, a2, a3⟩)
        exact ⟨_, K, e, z1, fun w hw => by cases hw; rfl, z2, z3⟩
      intro P hP
      unfold F_Mod_book
      simp (disch := omega) only [e1, m_in1, ↓dK_205 hL, ↓dG_205 hL, ↓dP_205 hL, ↓dZ_205 hL (x := nI 0) (Or.inl rfl), ↓dZ_205 hL (x := nI 1) (Or.inr rfl), ↓dZ_205 hL (Or.inl rfl), ↓dZ_205 hL (Or.inr rfl), ↓dZ_205 hL (nB_01 _), ↓reduceIte, ↓kq_bi, ↓kq_let, ↓kq_rz0, ↓kq_rz1, ↓kq_rzB, ↓Option.bind_some, kq_dvn, kt_lt, kf_lt, kt_eq, kf_eq, decide_true, decide_false, eq_self, Bool.false_eq_true, Bool.true_eq_false, not_true_eq_false, not_false_eq_true, jU_eq, jU_ne, jU_U, jV_eq, jV_ne, jV_V, kn_lit, kn_add, kn_mul, kn_sdm, kn_sub, kn_div, kn_nsdm, kn_lt, kn_eq, kn_pred, kn_m1, kn_m1', kn_a31, kn_shl, kn_shr, kn_bit, nB_0, nB_1, nB_t, nB_f, Nat.zero_add, Nat.add_zero, Nat.reduceAdd, Nat.reduceMul, Nat.reduceSub, Nat.reducePow]
      unfold F_Mod_book_b29
      have z0 : (jU I 205 (jV (I 205) 0 (nI 0))) 205 0 = nI 0 := by rw [jU_eq, jV_eq]
      simp (disch := omega) only [m_bad0 hL z0, ↓dK_205 hL, ↓dG_205 hL, ↓dP_205 hL, ↓dZ_205 hL (x := nI 0) (Or.inl rfl), ↓dZ_205 hL (x := nI 1) (Or.inr rfl), ↓dZ_205 hL (Or.inl rfl), ↓dZ_205 hL (Or.inr rfl), ↓dZ_205 hL (nB_01 _), ↓reduceIte, ↓kq_bi, ↓kq_let, ↓kq_rz0, ↓kq_rz1, ↓kq_rzB, ↓Option.bind_some, kq_dvn, kt_lt, kf_lt, kt_eq, kf_eq, decide_true, decide_false, eq_self, Bool.false_eq_true, Bool.true_eq_false, not_true_eq_false, not_false_eq_true, jU_eq, jU_ne, jU_U, jV_eq, jV_ne, jV_V, kn_lit, kn_add, kn_mul, kn_sdm, kn_sub, kn_div, kn_nsdm, kn_lt, kn_eq, kn_pred, kn_m1, kn_m1', kn_a31, kn_shl, kn_shr, kn_bit, nB_0, nB_1, nB_t, nB_f, Nat.zero_add, Nat.add_zero, Nat.reduceAdd, Nat.reduceMul, Nat.reduceSub, Nat.reducePow]
      refine jW_bn (m_startsX hL (n := n) (tp := tp) (by omega) (fun k hk => by rw [jU_ne (by omega)]; exact etp k (by omega)) h256) (fun S hS => ?_)
      obtain ⟨s1, ⟨s2, s3, s4, s5⟩, s6, s7⟩ := hS
      have F1 : ∀ f, ¬ f = 0 → (f = 3 ∨ 9 ≤ f) → S 205 f = I 205 f := fun f f0 hf => by rw [s6 f (by omega), jU_eq, jV_ne f0]
      have F0 : S 205 0 = nI 0 := by rw [s6 0 (by omega)]; exact z0
      have FA : ∀ a, ¬ a = 205 → S a = I a := fun a ha => by rw [s7 a ha, jU_ne ha]
      refine m_bookL hL (jMT_congr (fun a x1 x2 => FA a (by omega)) ho hC.1.1) ho s1 s5 (fun D x1 d1 d2 d3 => ?_)
      have dF : ∀ f, ¬ f = 4 → ¬ f = 5 → ¬ f = 6 → D 205 f = S 205 f := d3.1
      have d5 : D 205 5 = nI (s_book tp n (τ 0 0)).1.2.1 := d1.1.2.2.1.1
      have dA : ∀ a, ¬ a = 205 → ¬ (599 ≤ a ∧ a < 608) → D a = I a := fun a x1 x2 => (d3.2 a x1 x2).trans (FA a x1)
      by_cases h0 : (s_book tp n (τ 0 0)).1.2.1 = 0
      · rw [if_pos h0, if_pos h0] at hP
        rw [h0] at d5
        obtain ⟨K, e, k1, k2, k3, k4⟩ := m_book189 hL (β := (s_book tp n (τ 0 0)).2) d5 (hok h0).1 (d1.2 h0)
        rw [d2 h0]
        refine jW_e e (hP K ?_ ?_ (fun a ha => ?_))
        · rw [k3 0 (by omega) (by omega), dF 0 (by omega) (by omega) (by omega)]; exact F0
        · have kf : ∀ f, 9 ≤ f → ¬ f = 39 → K 205 f = I 205 f := fun f x1 x2 => by rw [k3 f (by omega) x2, dF f (by omega) (by omega) (by omega), F1 f (by omega) (by omega)]
          have kA : ∀ a, ¬ a = 205 → ¬ (589 ≤ a ∧ a < 608) → K a = I a := fun a x1 x2 => by rw [k4 a x1 (by omega)]; exact dA a x1 (by omega)
          obtain ⟨⟨a1, a2, a3⟩, a4, a5, a6, a8, -, a13, a14, a15⟩ := hC
          obtain ⟨o1, o2, -, ⟨o3, -⟩, ⟨b1, -⟩, ⟨b2, -⟩, -⟩ := hA
          refine ⟨⟨jMT_congr (fun a x1 x2 => kA a (by omega) (by omega)) o1 a1, jML_congr (fun a x1 x2 => kA a (by omega) (by omega)) (kf 25 (by omega) (by omega)) o2 a2, (kf 44 (by omega) (by omega)).trans a3⟩, fun k hk => by rw [kA 691 (by omega) (by omega)]; exact a4 k hk, k2, jmH_cg b1 (kf 40 (by omega) (by omega)) (fun a x1 x2 => kA a (by omega) (by omega)) a6, jmE_cg b2 (kf 42 (by omega) (by omega)) (fun a x1 x2 => kA a (by omega) (by omega)) a8, ⟨?_, ?_, fun k hk => absurd hk (Nat.not_lt_zero k)⟩, (kf 41 (by omega) (by omega)).trans a13, by rw [kA 207 (by omega) (by omega)]; exact a14, by rw [kA 207 (by omega) (by omega)]; exact a15⟩
          · rw [k3 1 (by omega) (by omega), dF 1 (by omega) (by omega) (by omega)]; exact s2
          · rw [k1]; unfold nF; rw [if_pos h0]
        · rw [k4 a (by omega) (by omega)]; exact dA a (by omega) (by omega)
      · rw [if_neg h0, if_neg h0] at hP
        refine jW_e (m_book189F hL d1.1 h0) (hP _ ?_ (jMM_flt hC hA (fun a x1 x2 x3 x4 => ?_) (fun f x1 x2 x3 => ?_) ?_ ?_) (fun a ha => ?_))
        · rw [jU_eq, jV_ne (by omega), dF 0 (by omega) (by omega) (by omega)]; exact F0
        · rw [jU_ne x1]; exact dA a x1 (by omega)
        · rw [jU_eq, jV_ne (by omega), dF f (by omega) (by omega) (by omega), F1 f (by omega) (by omega)]
        · rw [jU_eq, jV_ne (by omega), dF 1 (by omega) (by omega) (by omega)]; exact s2
        · rw [jU_eq, jV_eq]
        · rw [jU_ne (by omega)]; exact dA a (by omega) (by omega)
  · refine jDo_b (k := 1) (by omega) (by decide) hA (fun t u l m b c h I hL hC => ?_) (fun t u l m b c h I hL hC => ?_)
    · have e1 : I 65 1 = nI q := hC.2.2.2.2.2.1.1
      show F_SG_book 64 x (jz_I h I) = _
      unfold F_SG_book
      exact c_openX hL (by omega) hq e1 gx
    · have e1 : I 205 1 = nI q := hC.2.2.2.2.2.1.1
      show ∃ J, F_Mod_book 205 x (jz_I h I) = _ ∧ _
      unfold F_Mod_book
      by_cases gx' : jRg x 0 q
      · obtain ⟨k, -, k2, rfl⟩ := gx'
        have k5 : 100 < k := by
          by_cases z : 100 < k
          · exact z
          · exact absurd ⟨k, by omega, k2, rfl⟩ gx
        simp (disch := omega) only [e1, m_in1, F_Mod_book_b24, ↓dK_205 hL, ↓dG_205 hL, ↓dP_205 hL, ↓dZ_205 hL (x := nI 0) (Or.inl rfl), ↓dZ_205 hL (x := nI 1) (Or.inr rfl), ↓dZ_205 hL (Or.inl rfl), ↓dZ_205 hL (Or.inr rfl), ↓dZ_205 hL (nB_01 _), ↓reduceIte, ↓kq_bi, ↓kq_let, ↓kq_rz0, ↓kq_rz1, ↓kq_rzB, ↓Option.bind_some, kq_dvn, kt_lt, kf_lt, kt_eq, kf_eq, decide_true, decide_false, eq_self, Bool.false_eq_true, Bool.true_eq_false, not_true_eq_false, not_false_eq_true, jU_eq, jU_ne, jU_U, jV_eq, jV_ne, jV_V, kn_lit, kn_add, kn_mul, kn_sdm, kn_sub, kn_div, kn_nsdm, kn_lt, kn_eq, kn_pred, kn_m1, kn_m1', kn_a31, kn_shl, kn_shr, kn_bit, nB_0, nB_1, nB_t, nB_f, Nat.zero_add, Nat.add_zero, Nat.reduceAdd, Nat.reduceMul, Nat.reduceSub, Nat.reducePow]
        unfold F_Mod_book_b29
        exact m_bdF hL (f := 1) (i := 1) (by omega) (by omega) (by omega) (fun g => (if_neg (by decide)).trans rfl)
      · simp (disch := omega) only [e1, m_inX (lo := 0) (hi := q) (by omega) (by omega) gx', F_Mod_book_b24, ↓dK_205 hL, ↓dG_205 hL, ↓dP_205 hL, ↓dZ_205 hL (x := nI 0) (Or.inl rfl), ↓dZ_205 hL (x := nI 1) (Or.inr rfl), ↓dZ_205 hL (Or.inl rfl), ↓dZ_205 hL (Or.inr rfl), ↓dZ_205 hL (nB_01 _), ↓reduceIte, ↓kq_bi, ↓kq_let, ↓kq_rz0, ↓kq_rz1, ↓kq_rzB, ↓Option.bind_some, kq_dvn, kt_lt, kf_lt, kt_eq, kf_eq, decide_true, decide_false, eq_self, Bool.false_eq_true, Bool.true_eq_false, not_true_eq_false, not_false_eq_true, jU_eq, jU_ne, jU_U, jV_eq, jV_ne, jV_V, kn_lit, kn_add, kn_mul, kn_sdm, kn_sub, kn_div, kn_nsdm, kn_lt, kn_eq, kn_pred, kn_m1, kn_m1', kn_a31, kn_shl, kn_shr, kn_bit, nB_0, nB_1, nB_t, nB_f, Nat.zero_add, Nat.add_zero, Nat.reduceAdd, Nat.reduceMul, Nat.reduceSub, Nat.reducePow]
        unfold F_Mod_book_b29
        exact m_bdF hL (f := 1) (i := 1) (by omega) (by omega) (by omega) (fun g => (if_neg (by decide)).trans rfl)
end

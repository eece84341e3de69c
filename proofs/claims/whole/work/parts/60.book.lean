/-! PLAIN LEAN, 26: nose of the reference; guard of the class -/
section
variable {t u l m b c : Nat} {h : LH} {I J K : Nat → Nat → Int32} {τ : JTn} {r q : JRw} {σ ρ i : Nat} {Q : Type} {x : Int32} {d : Bool} {ω : JLw} {f : Nat → Int32} {β : JBk}
theorem s_sm_any {F : Nat → Nat → Nat} {g : Nat} : ∀ n, (s_sm F g n).isSome = s_any (fun k => decide (F k 0 = g)) n
  | 0 => rfl
  | n + 1 => by
    show (if F n 0 = g then some (F n 1) else s_sm F g n).isSome = (s_any (fun k => decide (F k 0 = g)) n || decide (F n 0 = g))
    rw [← s_sm_any n]
    by_cases hc : F n 0 = g
    · rw [if_pos hc, decide_eq_true hc, Bool.or_true]; rfl
    · rw [if_neg hc, decide_eq_false hc, Bool.or_false]
theorem m_isInBook (hL : jLay t u l m b c h) (hM : jMB I β) (hB : jBOK τ β) (ho : jTOK τ) {g : Nat} (hg : g < 9) : F_Mod_isInBook 205 (nI g) (jz_I h I) = some (nB (s_sm β.2 g β.1).isSome, jz_I h I) := by
  have hb9 := hB.1
  have o0 : τ 0 0 ≤ 9 := ho.1
  rw [s_sm_any]
  unfold F_Mod_isInBook
  refine (jz_any (fun fuel k => F_Mod_isInBook_l2 fuel 205 (nI g) (nI k) (jz_I h I)) β.1 (fun k => decide (β.2 k 0 = g)) (some (nI 1, jz_I h I)) (some (nI 0, jz_I h I)) (fun n k hk hp => ?_) (fun n k hk hp => ?_) (fun n => ?_) jF (by show _ < 1000; omega)).trans (by cases s_any (fun k => decide (β.2 k 0 = g)) β.1 <;> rfl)
  · have eB : ∀ j, j < 2 → I (588 + 1 + k) j = nI (β.2 k j) := fun j hj => hM.2 k j hk hj
    obtain ⟨b1, b2, -⟩ := hB.2 k hk
    have hp := of_decide_eq_false hp
    show F_Mod_isInBook_c2 (F_Mod_isInBook_l2 n) 205 (nI g) (nI k) (jz_I h I) = F_Mod_isInBook_l2 n 205 (nI g) (nI (k + 1)) (jz_I h I)
    unfold F_Mod_isInBook_c2
    simp (disch := omega) only [hM.1, eB, ↓dK_205 hL, ↓dG_205 hL, ↓dP_205 hL, ↓dZ_205 hL (x := nI 0) (Or.inl rfl), ↓dZ_205 hL (x := nI 1) (Or.inr rfl), ↓dZ_205 hL (Or.inl rfl), ↓dZ_205 hL (Or.inr rfl), ↓dZ_205 hL (nB_01 _), ↓dR_205_29 hL, dA_588 hL, dI_589 hL, dS_589 hL, ↓reduceIte, ↓kq_bi, ↓kq_let, ↓kq_rz0, ↓kq_rz1, ↓kq_rzB, ↓Option.bind_some, kq_dvn, kt_lt, kf_lt, kt_eq, kf_eq, decide_true, decide_false, eq_self, Bool.false_eq_true, Bool.true_eq_false, not_true_eq_false, not_false_eq_true, jU_eq, jU_ne, jU_U, jV_eq, jV_ne, jV_V, kn_lit, kn_add, kn_mul, kn_sdm, kn_sub, kn_div, kn_nsdm, kn_lt, kn_eq, kn_pred, kn_m1, kn_m1', kn_a31, kn_shl, kn_shr, kn_bit, nB_0, nB_1, nB_t, nB_f, Nat.zero_add, Nat.add_zero, Nat.reduceAdd, Nat.reduceMul, Nat.reduceSub, Nat.reducePow]
  · have eB : ∀ j, j < 2 → I (588 + 1 + k) j = nI (β.2 k j) := fun j hj => hM.2 k j hk hj
    obtain ⟨b1, b2, -⟩ := hB.2 k hk
    have hp := of_decide_eq_true hp
    show F_Mod_isInBook_c2 (F_Mod_isInBook_l2 n) 205 (nI g) (nI k) (jz_I h I) = some (nI 1, jz_I h I)
    unfold F_Mod_isInBook_c2
    simp (disch := omega) only [hM.1, eB, hp, ↓dK_205 hL, ↓dG_205 hL, ↓dP_205 hL, ↓dZ_205 hL (x := nI 0) (Or.inl rfl), ↓dZ_205 hL (x := nI 1) (Or.inr rfl), ↓dZ_205 hL (Or.inl rfl), ↓dZ_205 hL (Or.inr rfl), ↓dZ_205 hL (nB_01 _), ↓dR_205_29 hL, dA_588 hL, dI_589 hL, dS_589 hL, ↓reduceIte, ↓kq_bi, ↓kq_let, ↓kq_rz0, ↓kq_rz1, ↓kq_rzB, ↓Option.bind_some, kq_dvn, kt_lt, kf_lt, kt_eq, kf_eq, decide_true, decide_false, eq_self, Bool.false_eq_true, Bool.true_eq_false, not_true_eq_false, not_false_eq_true, jU_eq, jU_ne, jU_U, jV_eq, jV_ne, jV_V, kn_lit, kn_add, kn_mul, kn_sdm, kn_sub, kn_div, kn_nsdm, kn_lt, kn_eq, kn_pred, kn_m1, kn_m1', kn_a31, kn_shl, kn_shr, kn_bit, nB_0, nB_1, nB_t, nB_f, Nat.zero_add, Nat.add_zero, Nat.reduceAdd, Nat.reduceMul, Nat.reduceSub, Nat.reducePow]
  · show F_Mod_isInBook_c2 (F_Mod_isInBook_l2 n) 205 (nI g) (nI β.1) (jz_I h I) = some (nI 0, jz_I h I)
    unfold F_Mod_isInBook_c2
    simp (disch := omega) only [hM.1, ↓dK_205 hL, ↓dG_205 hL, ↓dP_205 hL, ↓dZ_205 hL (x := nI 0) (Or.inl rfl), ↓dZ_205 hL (x := nI 1) (Or.inr rfl), ↓dZ_205 hL (Or.inl rfl), ↓dZ_205 hL (Or.inr rfl), ↓dZ_205 hL (nB_01 _), ↓reduceIte, ↓kq_bi, ↓kq_let, ↓kq_rz0, ↓kq_rz1, ↓kq_rzB, ↓Option.bind_some, kq_dvn, kt_lt, kf_lt, kt_eq, kf_eq, decide_true, decide_false, eq_self, Bool.false_eq_true, Bool.true_eq_false, not_true_eq_false, not_false_eq_true, jU_eq, jU_ne, jU_U, jV_eq, jV_ne, jV_V, kn_lit, kn_add, kn_mul, kn_sdm, kn_sub, kn_div, kn_nsdm, kn_lt, kn_eq, kn_pred, kn_m1, kn_m1', kn_a31, kn_shl, kn_shr, kn_bit, nB_0, nB_1, nB_t, nB_f, Nat.zero_add, Nat.add_zero, Nat.reduceAdd, Nat.reduceMul, Nat.reduceSub, Nat.reducePow]
theorem m_worstAt (hL : jLay t u l m b c h) (hQ : jQM I τ ω r) (hM : jMB I β) (hB : jBOK τ β) {g : Nat} (hg : g < τ 0 0) : ∃ J, F_Mod_worstAt 205 (nI g) (jz_I h I) = some (nI (s_wst τ r β g), jz_I h J) ∧ ∀ a, ¬ a = 716 → J a = I a := by
  have ho := hQ.1.2.1
  have o0 : τ 0 0 ≤ 9 := ho.1
  have o1 : τ 0 1 ≤ 6 := ho.2.1
  obtain ⟨p1, p2⟩ := s_2w ho
  have hb9 := hB.1
  have tr : ∀ f : Nat → Int32, jQM (jU I 716 f) τ ω r ∧ jMB (jU I 716 f) β := fun f => by
    obtain ⟨⟨hT, ho, hML, hω, hd⟩, hR, hr⟩ := hQ
    exact ⟨⟨⟨jMT_congr (fun a h1 h2 => jU_ne (by omega)) ho hT, ho, jML_congr (fun a h1 h2 => jU_ne (by omega)) (by rw [jU_ne (by omega)]) hω hML, hω, by rw [jU_ne (by omega)]; exact hd⟩, fun k hk => by rw [jU_ne (by omega)]; exact hR k hk, hr⟩, by rw [jMB, jU_ne (by omega)]; exact ⟨hM.1, fun k j hk hj => by rw [jU_ne (by omega)]; exact hM.2 k j hk hj⟩⟩
  refine jE_i (fun P hP => ?_)
  unfold F_Mod_worstAt
  refine (jU_id (I := I) (a := 716)) ▸ jW_for0 (f := fun fuel k (f : Nat → Int32) => F_Mod_worstAt_l4 fuel 205 (nI g) (nI 0) (nI k) (jz_I h (jU I 716 f))) 32 (fun k f => ∀ i, i < k → f i = nI 0) (I 716) (fun i hi => absurd hi (Nat.not_lt_zero i)) (by omega) (fun n k f hk hV ih => ?_) (fun n f hV => ?_)
  · show jW (F_Mod_worstAt_c4 (F_Mod_worstAt_l4 n) 205 (nI g) (nI 0) (nI k) (jz_I h (jU I 716 f))) P
    unfold F_Mod_worstAt_c4
    simp (disch := omega) only [↓dK_205 hL, ↓dG_205 hL, ↓dP_205 hL, ↓dZ_205 hL (x := nI 0) (Or.inl rfl), ↓dZ_205 hL (x := nI 1) (Or.inr rfl), ↓dZ_205 hL (Or.inl rfl), ↓dZ_205 hL (Or.inr rfl), ↓dZ_205 hL (nB_01 _), ↓dR_205_49 hL, dI_716 hL, dS_716 hL, ↓reduceIte, ↓kq_bi, ↓kq_let, ↓kq_rz0, ↓kq_rz1, ↓kq_rzB, ↓Option.bind_some, kq_dvn, kt_lt, kf_lt, kt_eq, kf_eq, decide_true, decide_false, eq_self, Bool.false_eq_true, Bool.true_eq_false, not_true_eq_false, not_false_eq_true, jU_eq, jU_ne, jU_U, jV_eq, jV_ne, jV_V, kn_lit, kn_add, kn_mul, kn_sdm, kn_sub, kn_div, kn_nsdm, kn_lt, kn_eq, kn_pred, kn_m1, kn_m1', kn_a31, kn_shl, kn_shr, kn_bit, nB_0, nB_1, nB_t, nB_f, Nat.zero_add, Nat.add_zero, Nat.reduceAdd, Nat.reduceMul, Nat.reduceSub, Nat.reducePow]
    refine ih _ (fun i hi => ?_)
    by_cases hik : i = k
    · rw [hik, jV_eq]
    · rw [jV_ne hik]; exact hV i (by omega)
  · show jW (F_Mod_worstAt_c4 (F_Mod_worstAt_l4 n) 205 (nI g) (nI 0) (nI 32) (jz_I h (jU I 716 f))) P
    unfold F_Mod_worstAt_c4
    simp (disch := omega) only [↓reduceIte, ↓kq_bi, ↓kq_let, ↓kq_rz0, ↓kq_rz1, ↓kq_rzB, ↓Option.bind_some, kq_dvn, kt_lt, kf_lt, kt_eq, kf_eq, decide_true, decide_false, eq_self, Bool.false_eq_true, Bool.true_eq_false, not_true_eq_false, not_false_eq_true, jU_eq, jU_ne, jU_U, jV_eq, jV_ne, jV_V, kn_lit, kn_add, kn_mul, kn_sdm, kn_sub, kn_div, kn_nsdm, kn_lt, kn_eq, kn_pred, kn_m1, kn_m1', kn_a31, kn_shl, kn_shr, kn_bit, nB_0, nB_1, nB_t, nB_f, Nat.zero_add, Nat.add_zero, Nat.reduceAdd, Nat.reduceMul, Nat.reduceSub, Nat.reducePow]
    refine jW_for0 (f := fun fuel x (f : Nat → Int32) => F_Mod_worstAt_l25 fuel 205 (nI g) (nI 0) (nI x) (jz_I h (jU I 716 f))) (τ 0 0) (fun x f => ∀ v, v < 32 → f v = nI (s_tl τ r β g v x 0)) f (fun v hv => by rw [hV v hv]; rfl) (by omega) (fun n x f hx hV ih => ?_) (fun n f hV => ?_)
    · obtain ⟨hQ', hM'⟩ := tr f
      show jW (F_Mod_worstAt_c25 (F_Mod_worstAt_l25 n) 205 (nI g) (nI 0) (nI x) (jz_I h (jU I 716 f))) P
      unfold F_Mod_worstAt_c25
      simp (disch := omega) only [hQ'.1.1.1, ↓dK_205 hL, ↓dG_205 hL, ↓dP_205 hL, ↓dZ_205 hL (x := nI 0) (Or.inl rfl), ↓dZ_205 hL (x := nI 1) (Or.inr rfl), ↓dZ_205 hL (Or.inl rfl), ↓dZ_205 hL (Or.inr rfl), ↓dZ_205 hL (nB_01 _), ↓dR_205_12 hL, dI_209 hL, dS_209 hL, ↓reduceIte, ↓kq_bi, ↓kq_let, ↓kq_rz0, ↓kq_rz1, ↓kq_rzB, ↓Option.bind_some, kq_dvn, kt_lt, kf_lt, kt_eq, kf_eq, decide_true, decide_false, eq_self, Bool.false_eq_true, Bool.true_eq_false, not_true_eq_false, not_false_eq_true, jU_eq, jU_ne, jU_U, jV_eq, jV_ne, jV_V, kn_lit, kn_add, kn_mul, kn_sdm, kn_sub, kn_div, kn_nsdm, kn_lt, kn_eq, kn_pred, kn_m1, kn_m1', kn_a31, kn_shl, kn_shr, kn_bit, nB_0, nB_1, nB_t, nB_f, Nat.zero_add, Nat.add_zero, Nat.reduceAdd, Nat.reduceMul, Nat.reduceSub, Nat.reducePow]
      have hst : s_st τ r x < 9 := Nat.lt_of_lt_of_le (s_st_lt ho r (g := x) (k := τ 1 x) (by omega)) o0
      refine jW_for0 (f := fun fuel j (f : Nat → Int32) => F_Mod_worstAt_l38 (F_Mod_worstAt_l25 n) fuel 205 (nI g) (nI 0) (nI x) (nI (1 + j)) (jz_I h (jU I 716 f))) (2 ^ τ 0 1 - 1) (fun j f => ∀ v, v < 32 → f v = nI (s_tl τ r β g v x j)) f hV (by omega) (fun n2 j f hj hV ih2 => ?_) (fun n2 f hV => ?_)
      · obtain ⟨hQ', hM'⟩ := tr f
        have hsc := s_scs_lt (set := 1 + j) ho
        have ef : s_fit β (s_st τ r x) (s_scs τ (1 + j)) = s_ft τ r β x j := rfl
        show jW (F_Mod_worstAt_c38 (F_Mod_worstAt_l25 n) (F_Mod_worstAt_l38 (F_Mod_worstAt_l25 n) n2) 205 (nI g) (nI 0) (nI x) (nI (1 + j)) (jz_I h (jU I 716 f))) P
        unfold F_Mod_worstAt_c38
        cases hf : s_ft τ r β x j
        · rw [hf] at ef
          simp (disch := omega) only [hQ'.1.1.1, Nat.one_mul, m_isFit hL hQ'.1.1 ho hQ'.2.1 hQ.2.2.1 hM' hB hx (show 1 + j < 64 by omega), ef, F_Mod_worstAt_b93, ↓dK_205 hL, ↓dG_205 hL, ↓dP_205 hL, ↓dZ_205 hL (x := nI 0) (Or.inl rfl), ↓dZ_205 hL (x := nI 1) (Or.inr rfl), ↓dZ_205 hL (Or.inl rfl), ↓dZ_205 hL (Or.inr rfl), ↓dZ_205 hL (nB_01 _), ↓dR_205_12 hL, dI_209 hL, dS_209 hL, ↓reduceIte, ↓kq_bi, ↓kq_let, ↓kq_rz0, ↓kq_rz1, ↓kq_rzB, ↓Option.bind_some, kq_dvn, kt_lt, kf_lt, kt_eq, kf_eq, decide_true, decide_false, eq_self, Bool.false_eq_true, Bool.true_eq_false, not_true_eq_false, not_false_eq_true, jU_eq, jU_ne, jU_U, jV_eq, jV_ne, jV_V, kn_lit, kn_add, kn_mul, kn_sdm, kn_sub, kn_div, kn_nsdm, kn_lt, kn_eq, kn_pred, kn_m1, kn_m1', kn_a31, kn_shl, kn_shr, kn_bit, nB_0, nB_1, nB_t, nB_f, Nat.zero_add, Nat.add_zero, Nat.reduceAdd, Nat.reduceMul, Nat.reduceSub, Nat.reducePow]
          refine ih2 f (fun v hv => ?_)
          rw [s_tl_s, if_neg (by unfold s_tp; rw [hf, Bool.false_and]; decide)]
          exact hV v hv
        · rw [hf] at ef
          have fin : ∀ s, s < 32 → s = (if s_st τ r x = g then s_scs τ (1 + j) else 0) → jW (F_Mod_worstAt_b88 (F_Mod_worstAt_l25 n) (F_Mod_worstAt_l38 (F_Mod_worstAt_l25 n) n2) 205 (nI g) (nI 0) (nI x) (nI (1 + j)) 716 (nI s) (jz_I h (jU I 716 f))) P := fun s hs hse => by
            have e := hV s hs
            unfold F_Mod_worstAt_b88
            simp (disch := omega) only [e, F_Mod_worstAt_b93, ↓dK_205 hL, ↓dG_205 hL, ↓dP_205 hL, ↓dZ_205 hL (x := nI 0) (Or.inl rfl), ↓dZ_205 hL (x := nI 1) (Or.inr rfl), ↓dZ_205 hL (Or.inl rfl), ↓dZ_205 hL (Or.inr rfl), ↓dZ_205 hL (nB_01 _), ↓dR_205_49 hL, dI_716 hL, dS_716 hL, ↓reduceIte, ↓kq_bi, ↓kq_let, ↓kq_rz0, ↓kq_rz1, ↓kq_rzB, ↓Option.bind_some, kq_dvn, kt_lt, kf_lt, kt_eq, kf_eq, decide_true, decide_false, eq_self, Bool.false_eq_true, Bool.true_eq_false, not_true_eq_false, not_false_eq_true, jU_eq, jU_ne, jU_U, jV_eq, jV_ne, jV_V, kn_lit, kn_add, kn_mul, kn_sdm, kn_sub, kn_div, kn_nsdm, kn_lt, kn_eq, kn_pred, kn_m1, kn_m1', kn_a31, kn_shl, kn_shr, kn_bit, nB_0, nB_1, nB_t, nB_f, Nat.zero_add, Nat.add_zero, Nat.reduceAdd, Nat.reduceMul, Nat.reduceSub, Nat.reducePow]
            refine ih2 _ (fun v hv => ?_)
            rw [s_tl_s]
            unfold s_tp
            rw [hf, Bool.true_and, ← hse]
            by_cases hvs : v = s
            · subst hvs; rw [jV_eq, if_pos (decide_eq_true rfl)]
            · rw [jV_ne hvs, if_neg (by rw [decide_eq_false (fun z => hvs z.symm)]; decide)]; exact hV v hv
          by_cases hc : s_st τ r x = g
          · have ec : nI (s_st τ r x) = nI g := by rw [hc]
            simp (disch := omega) only [hQ'.1.1.1, Nat.one_mul, m_isFit hL hQ'.1.1 ho hQ'.2.1 hQ.2.2.1 hM' hB hx (show 1 + j < 64 by omega), ef, m_standsOf hL hQ'.1.1 ho (Or.inl rfl) hQ'.2.1 hQ.2.2.1 hx, ec, m_scentOf hL hQ'.1.1 ho (show 1 + j < 64 by omega), ↓dK_205 hL, ↓dG_205 hL, ↓dP_205 hL, ↓dZ_205 hL (x := nI 0) (Or.inl rfl), ↓dZ_205 hL (x := nI 1) (Or.inr rfl), ↓dZ_205 hL (Or.inl rfl), ↓dZ_205 hL (Or.inr rfl), ↓dZ_205 hL (nB_01 _), ↓dR_205_12 hL, dI_209 hL, dS_209 hL, ↓dR_205_35 hL, dI_691 hL, dS_691 hL, ↓dR_205_49 hL, dI_716 hL, dS_716 hL, ↓reduceIte, ↓kq_bi, ↓kq_let, ↓kq_rz0, ↓kq_rz1, ↓kq_rzB, ↓Option.bind_some, kq_dvn, kt_lt, kf_lt, kt_eq, kf_eq, decide_true, decide_false, eq_self, Bool.false_eq_true, Bool.true_eq_false, not_true_eq_false, not_false_eq_true, jU_eq, jU_ne, jU_U, jV_eq, jV_ne, jV_V, kn_lit, kn_add, kn_mul, kn_sdm, kn_sub, kn_div, kn_nsdm, kn_lt, kn_eq, kn_pred, kn_m1, kn_m1', kn_a31, kn_shl, kn_shr, kn_bit, nB_0, nB_1, nB_t, nB_f, Nat.zero_add, Nat.add_zero, Nat.reduceAdd, Nat.reduceMul, Nat.reduceSub, Nat.reducePow]
            exact fin _ hsc (by rw [if_pos hc])
          · simp (disch := omega) only [hQ'.1.1.1, Nat.one_mul, m_isFit hL hQ'.1.1 ho hQ'.2.1 hQ.2.2.1 hM' hB hx (show 1 + j < 64 by omega), ef, m_standsOf hL hQ'.1.1 ho (Or.inl rfl) hQ'.2.1 hQ.2.2.1 hx, ↓dK_205 hL, ↓dG_205 hL, ↓dP_205 hL, ↓dZ_205 hL (x := nI 0) (Or.inl rfl), ↓dZ_205 hL (x := nI 1) (Or.inr rfl), ↓dZ_205 hL (Or.inl rfl), ↓dZ_205 hL (Or.inr rfl), ↓dZ_205 hL (nB_01 _), ↓dR_205_12 hL, dI_209 hL, dS_209 hL, ↓dR_205_35 hL, dI_691 hL, dS_691 hL, ↓dR_205_49 hL, dI_716 hL, dS_716 hL, ↓reduceIte, ↓kq_bi, ↓kq_let, ↓kq_rz0, ↓kq_rz1, ↓kq_rzB, ↓Option.bind_some, kq_dvn, kt_lt, kf_lt, kt_eq, kf_eq, decide_true, decide_false, eq_self, Bool.false_eq_true, Bool.true_eq_false, not_true_eq_false, not_false_eq_true, jU_eq, jU_ne, jU_U, jV_eq, jV_ne, jV_V, kn_lit, kn_add, kn_mul, kn_sdm, kn_sub, kn_div, kn_nsdm, kn_lt, kn_eq, kn_pred, kn_m1, kn_m1', kn_a31, kn_shl, kn_shr, kn_bit, nB_0, nB_1, nB_t, nB_f, Nat.zero_add, Nat.add_zero, Nat.reduceAdd, Nat.reduceMul, Nat.reduceSub, Nat.reducePow]
            exact fin 0 (by omega) (by rw [if_neg hc])
      · obtain ⟨hQ', hM'⟩ := tr f
        show jW (F_Mod_worstAt_c38 (F_Mod_worstAt_l25 n) (F_Mod_worstAt_l38 (F_Mod_worstAt_l25 n) n2) 205 (nI g) (nI 0) (nI x) (nI (1 + (2 ^ τ 0 1 - 1))) (jz_I h (jU I 716 f))) P
        unfold F_Mod_worstAt_c38
        simp (disch := omega) only [hQ'.1.1.1, Nat.one_mul, ↓dK_205 hL, ↓dG_205 hL, ↓dP_205 hL, ↓dZ_205 hL (x := nI 0) (Or.inl rfl), ↓dZ_205 hL (x := nI 1) (Or.inr rfl), ↓dZ_205 hL (Or.inl rfl), ↓dZ_205 hL (Or.inr rfl), ↓dZ_205 hL (nB_01 _), ↓dR_205_12 hL, dI_209 hL, dS_209 hL, ↓reduceIte, ↓kq_bi, ↓kq_let, ↓kq_rz0, ↓kq_rz1, ↓kq_rzB, ↓Option.bind_some, kq_dvn, kt_lt, kf_lt, kt_eq, kf_eq, decide_true, decide_false, eq_self, Bool.false_eq_true, Bool.true_eq_false, not_true_eq_false, not_false_eq_true, jU_eq, jU_ne, jU_U, jV_eq, jV_ne, jV_V, kn_lit, kn_add, kn_mul, kn_sdm, kn_sub, kn_div, kn_nsdm, kn_lt, kn_eq, kn_pred, kn_m1, kn_m1', kn_a31, kn_shl, kn_shr, kn_bit, nB_0, nB_1, nB_t, nB_f, Nat.zero_add, Nat.add_zero, Nat.reduceAdd, Nat.reduceMul, Nat.reduceSub, Nat.reducePow]
        exact ih f (fun v hv => by rw [← s_tl_n]; exact hV v hv)
    · obtain ⟨hQ', hM'⟩ := tr f
      show jW (F_Mod_worstAt_c25 (F_Mod_worstAt_l25 n) 205 (nI g) (nI 0) (nI (τ 0 0)) (jz_I h (jU I 716 f))) P
      unfold F_Mod_worstAt_c25
      simp (disch := omega) only [hQ'.1.1.1, ↓dK_205 hL, ↓dG_205 hL, ↓dP_205 hL, ↓dZ_205 hL (x := nI 0) (Or.inl rfl), ↓dZ_205 hL (x := nI 1) (Or.inr rfl), ↓dZ_205 hL (Or.inl rfl), ↓dZ_205 hL (Or.inr rfl), ↓dZ_205 hL (nB_01 _), ↓dR_205_12 hL, dI_209 hL, dS_209 hL, ↓reduceIte, ↓kq_bi, ↓kq_let, ↓kq_rz0, ↓kq_rz1, ↓kq_rzB, ↓Option.bind_some, kq_dvn, kt_lt, kf_lt, kt_eq, kf_eq, decide_true, decide_false, eq_self, Bool.false_eq_true, Bool.true_eq_false, not_true_eq_false, not_false_eq_true, jU_eq, jU_ne, jU_U, jV_eq, jV_ne, jV_V, kn_lit, kn_add, kn_mul, kn_sdm, kn_sub, kn_div, kn_nsdm, kn_lt, kn_eq, kn_pred, kn_m1, kn_m1', kn_a31, kn_shl, kn_shr, kn_bit, nB_0, nB_1, nB_t, nB_f, Nat.zero_add, Nat.add_zero, Nat.reduceAdd, Nat.reduceMul, Nat.reduceSub, Nat.reducePow]
      have eV : ∀ v, v < 32 → f v = nI (s_tly τ r β g v) := hV
      refine jW_e (jz_for (fun fuel v s => F_Mod_worstAt_l107 fuel 205 (nI s) (nI v) (jz_I h (jU I 716 f))) 32 (fun v => s_wm (s_tly τ r β g) v) (some (nI (s_wst τ r β g), jz_I h (jU I 716 f))) (fun n v hv => ?_) (fun n => ?_) jF (by show _ < 1000; omega)) (hP _ (fun a ha => jU_ne ha))
      · have h1 := s_wm_le (f := s_tly τ r β g) (fun _ => s_tly_le ho) v
        have h2 := s_tly_le (r := r) (β := β) (g := g) (v := v) ho
        have e := eV v hv
        have em : (if s_tly τ r β g v < s_wm (s_tly τ r β g) v then s_wm (s_tly τ r β g) v else s_tly τ r β g v) = (if s_wm (s_tly τ r β g) v < s_tly τ r β g v then s_tly τ r β g v else s_wm (s_tly τ r β g) v) := by split <;> split <;> omega
        show F_Mod_worstAt_c107 (F_Mod_worstAt_l107 n) 205 (nI (s_wm (s_tly τ r β g) v)) (nI v) (jz_I h (jU I 716 f)) = F_Mod_worstAt_l107 n 205 (nI (if s_wm (s_tly τ r β g) v < s_tly τ r β g v then s_tly τ r β g v else s_wm (s_tly τ r β g) v)) (nI (v + 1)) (jz_I h (jU I 716 f))
        unfold F_Mod_worstAt_c107
        simp (disch := omega) only [e, m_more, ↓dK_205 hL, ↓dG_205 hL, ↓dP_205 hL, ↓dZ_205 hL (x := nI 0) (Or.inl rfl), ↓dZ_205 hL (x := nI 1) (Or.inr rfl), ↓dZ_205 hL (Or.inl rfl), ↓dZ_205 hL (Or.inr rfl), ↓dZ_205 hL (nB_01 _), ↓dR_205_49 hL, dI_716 hL, dS_716 hL, ↓reduceIte, ↓kq_bi, ↓kq_let, ↓kq_rz0, ↓kq_rz1, ↓kq_rzB, ↓Option.bind_some, kq_dvn, kt_lt, kf_lt, kt_eq, kf_eq, decide_true, decide_false, eq_self, Bool.false_eq_true, Bool.true_eq_false, not_true_eq_false, not_false_eq_true, jU_eq, jU_ne, jU_U, jV_eq, jV_ne, jV_V, kn_lit, kn_add, kn_mul, kn_sdm, kn_sub, kn_div, kn_nsdm, kn_lt, kn_eq, kn_pred, kn_m1, kn_m1', kn_a31, kn_shl, kn_shr, kn_bit, nB_0, nB_1, nB_t, nB_f, Nat.zero_add, Nat.add_zero, Nat.reduceAdd, Nat.reduceMul, Nat.reduceSub, Nat.reducePow]
        rw [em]
      · show F_Mod_worstAt_c107 (F_Mod_worstAt_l107 n) 205 (nI (s_wm (s_tly τ r β g) 32)) (nI 32) (jz_I h (jU I 716 f)) = some (nI (s_wm (s_tly τ r β g) 32), jz_I h (jU I 716 f))
        generalize s_wm (s_tly τ r β g) 32 = y
        unfold F_Mod_worstAt_c107
        simp (disch := omega) only [↓reduceIte, ↓kq_bi, ↓kq_let, ↓kq_rz0, ↓kq_rz1, ↓kq_rzB, ↓Option.bind_some, kq_dvn, kt_lt, kf_lt, kt_eq, kf_eq, decide_true, decide_false, eq_self, Bool.false_eq_true, Bool.true_eq_false, not_true_eq_false, not_false_eq_true, jU_eq, jU_ne, jU_U, jV_eq, jV_ne, jV_V, kn_lit, kn_add, kn_mul, kn_sdm, kn_sub, kn_div, kn_nsdm, kn_lt, kn_eq, kn_pred, kn_m1, kn_m1', kn_a31, kn_shl, kn_shr, kn_bit, nB_0, nB_1, nB_t, nB_f, Nat.zero_add, Nat.add_zero, Nat.reduceAdd, Nat.reduceMul, Nat.reduceSub, Nat.reducePow]
theorem jN_716 (N0 : jN I J) (hJ : ∀ a, ¬ a = 716 → K a = J a) : jN I K := by
  have e := hJ 205 (by omega)
  obtain ⟨n1, n2, n3, n4⟩ := N0
  exact ⟨fun a h1 h2 h3 h4 h5 => (hJ a (by omega)).trans (n1 a h1 h2 h3 h4 h5), fun k h1 h2 => by rw [e]; exact n2 k h1 h2, by rw [e]; exact n3, by rw [e]; exact n4⟩
theorem m_nose (hL : jLay t u l m b c h) (hQ : jQM I τ ω r) (hM : jMB I β) (hB : jBOK τ β) (w : Bool) : ∃ J, F_Mod_nose 205 (nB w) (jz_I h I) = some (s_nose τ r β w, jz_I h J) ∧ jN I J := by
  have N0 := jN_0 hQ
  have ho := hQ.1.2.1
  have o0 : τ 0 0 ≤ 9 := ho.1
  refine jE_i (fun P hP => ?_)
  have key : jW (F_Mod_nose_b20 205 (nB w) 205 (nI 0) (jz_I h (jU I 205 (jV (I 205) 0 (nI 0))))) P := by
    unfold F_Mod_nose_b20
    simp (disch := omega) only [m_bad0 hL N0.2.2.2, ↓dK_205 hL, ↓dG_205 hL, ↓dP_205 hL, ↓dZ_205 hL (x := nI 0) (Or.inl rfl), ↓dZ_205 hL (x := nI 1) (Or.inr rfl), ↓dZ_205 hL (Or.inl rfl), ↓dZ_205 hL (Or.inr rfl), ↓dZ_205 hL (nB_01 _), ↓reduceIte, ↓kq_bi, ↓kq_let, ↓kq_rz0, ↓kq_rz1, ↓kq_rzB, ↓Option.bind_some, kq_dvn, kt_lt, kf_lt, kt_eq, kf_eq, decide_true, decide_false, eq_self, Bool.false_eq_true, Bool.true_eq_false, not_true_eq_false, not_false_eq_true, jU_eq, jU_ne, jU_U, jV_eq, jV_ne, jV_V, kn_lit, kn_add, kn_mul, kn_sdm, kn_sub, kn_div, kn_nsdm, kn_lt, kn_eq, kn_pred, kn_m1, kn_m1', kn_a31, kn_shl, kn_shr, kn_bit, nB_0, nB_1, nB_t, nB_f, Nat.zero_add, Nat.add_zero, Nat.reduceAdd, Nat.reduceMul, Nat.reduceSub, Nat.reducePow]
    refine jW_for0 (f := fun fuel g (J : Nat → Nat → Int32) => F_Mod_nose_l37 fuel 205 (nB w) (nP1 (s_ns τ r β g)) (nP2 (s_ns τ r β g)) (nI g) (jz_I h J)) (τ 0 0) (fun g J => jN I J) _ N0 (by omega) (fun n g J hg hV ih => ?_) (fun n J hV => ?_)
    · have hQ' := jN_QM hV hQ
      have hM' := jMB_N hV hB hM
      have hw := s_wst_le (r := r) (β := β) (g := g) ho
      have hn := s_ns_le (r := r) (β := β) ho g
      have es : s_ns τ r β (g + 1) = (if (s_sm β.2 g β.1).isSome = true then s_ns τ r β g else s_nsu (s_wst τ r β g) g (s_ns τ r β g)) := rfl
      show jW (F_Mod_nose_c37 (F_Mod_nose_l37 n) 205 (nB w) (nP1 (s_ns τ r β g)) (nP2 (s_ns τ r β g)) (nI g) (jz_I h J)) P
      unfold F_Mod_nose_c37
      rw [es] at ih
      cases hs : (s_sm β.2 g β.1).isSome
      · rw [hs, if_neg (show ¬ false = true by decide)] at ih
        simp (disch := omega) only [hQ'.1.1.1, m_isInBook hL hM' hB ho (show g < 9 by omega), hs, ↓dK_205 hL, ↓dG_205 hL, ↓dP_205 hL, ↓dZ_205 hL (x := nI 0) (Or.inl rfl), ↓dZ_205 hL (x := nI 1) (Or.inr rfl), ↓dZ_205 hL (Or.inl rfl), ↓dZ_205 hL (Or.inr rfl), ↓dZ_205 hL (nB_01 _), ↓dR_205_12 hL, dI_209 hL, dS_209 hL, ↓reduceIte, ↓kq_bi, ↓kq_let, ↓kq_rz0, ↓kq_rz1, ↓kq_rzB, ↓Option.bind_some, kq_dvn, kt_lt, kf_lt, kt_eq, kf_eq, decide_true, decide_false, eq_self, Bool.false_eq_true, Bool.true_eq_false, not_true_eq_false, not_false_eq_true, jU_eq, jU_ne, jU_U, jV_eq, jV_ne, jV_V, kn_lit, kn_add, kn_mul, kn_sdm, kn_sub, kn_div, kn_nsdm, kn_lt, kn_eq, kn_pred, kn_m1, kn_m1', kn_a31, kn_shl, kn_shr, kn_bit, nB_0, nB_1, nB_t, nB_f, Nat.zero_add, Nat.add_zero, Nat.reduceAdd, Nat.reduceMul, Nat.reduceSub, Nat.reducePow]
        refine jW_bi (m_worstAt hL hQ' hM' hB hg) (fun J2 hJ2 => ?_)
        have ih' := ih J2 (jN_716 hV hJ2)
        generalize s_ns τ r β g = s at hn ih' ⊢
        cases s with
        | none =>
          simp only [nP1, nP2, s_nsu, Option.elim_none, Option.elim_some] at ih' ⊢
          simp (disch := omega) only [F_Mod_nose_b82, F_Mod_nose_b88, ↓reduceIte, ↓kq_bi, ↓kq_let, ↓kq_rz0, ↓kq_rz1, ↓kq_rzB, ↓Option.bind_some, kq_dvn, kt_lt, kf_lt, kt_eq, kf_eq, decide_true, decide_false, eq_self, Bool.false_eq_true, Bool.true_eq_false, not_true_eq_false, not_false_eq_true, jU_eq, jU_ne, jU_U, jV_eq, jV_ne, jV_V, kn_lit, kn_add, kn_mul, kn_sdm, kn_sub, kn_div, kn_nsdm, kn_lt, kn_eq, kn_pred, kn_m1, kn_m1', kn_a31, kn_shl, kn_shr, kn_bit, nB_0, nB_1, nB_t, nB_f, Nat.zero_add, Nat.add_zero, Nat.reduceAdd, Nat.reduceMul, Nat.reduceSub, Nat.reducePow]
          exact ih'
        | some y =>
          obtain ⟨y1, y2⟩ := hn y rfl
          by_cases hc : s_wst τ r β g < y.2
          · simp only [nP1, nP2, s_nsu, Option.elim_some, hc, if_true] at ih' ⊢
            simp (disch := omega) only [F_Mod_nose_b82, F_Mod_nose_b88, ↓reduceIte, ↓kq_bi, ↓kq_let, ↓kq_rz0, ↓kq_rz1, ↓kq_rzB, ↓Option.bind_some, kq_dvn, kt_lt, kf_lt, kt_eq, kf_eq, decide_true, decide_false, eq_self, Bool.false_eq_true, Bool.true_eq_false, not_true_eq_false, not_false_eq_true, jU_eq, jU_ne, jU_U, jV_eq, jV_ne, jV_V, kn_lit, kn_add, kn_mul, kn_sdm, kn_sub, kn_div, kn_nsdm, kn_lt, kn_eq, kn_pred, kn_m1, kn_m1', kn_a31, kn_shl, kn_shr, kn_bit, nB_0, nB_1, nB_t, nB_f, Nat.zero_add, Nat.add_zero, Nat.reduceAdd, Nat.reduceMul, Nat.reduceSub, Nat.reducePow]
            exact ih'
          · simp only [nP1, nP2, s_nsu, Option.elim_some, hc, if_false] at ih' ⊢
            simp (disch := omega) only [F_Mod_nose_b82, F_Mod_nose_b88, ↓reduceIte, ↓kq_bi, ↓kq_let, ↓kq_rz0, ↓kq_rz1, ↓kq_rzB, ↓Option.bind_some, kq_dvn, kt_lt, kf_lt, kt_eq, kf_eq, decide_true, decide_false, eq_self, Bool.false_eq_true, Bool.true_eq_false, not_true_eq_false, not_false_eq_true, jU_eq, jU_ne, jU_U, jV_eq, jV_ne, jV_V, kn_lit, kn_add, kn_mul, kn_sdm, kn_sub, kn_div, kn_nsdm, kn_lt, kn_eq, kn_pred, kn_m1, kn_m1', kn_a31, kn_shl, kn_shr, kn_bit, nB_0, nB_1, nB_t, nB_f, Nat.zero_add, Nat.add_zero, Nat.reduceAdd, Nat.reduceMul, Nat.reduceSub, Nat.reducePow]
            exact ih'
      · rw [hs, if_pos (show true = true from rfl)] at ih
        simp (disch := omega) only [hQ'.1.1.1, m_isInBook hL hM' hB ho (show g < 9 by omega), hs, F_Mod_nose_b88, ↓dK_205 hL, ↓dG_205 hL, ↓dP_205 hL, ↓dZ_205 hL (x := nI 0) (Or.inl rfl), ↓dZ_205 hL (x := nI 1) (Or.inr rfl), ↓dZ_205 hL (Or.inl rfl), ↓dZ_205 hL (Or.inr rfl), ↓dZ_205 hL (nB_01 _), ↓dR_205_12 hL, dI_209 hL, dS_209 hL, ↓reduceIte, ↓kq_bi, ↓kq_let, ↓kq_rz0, ↓kq_rz1, ↓kq_rzB, ↓Option.bind_some, kq_dvn, kt_lt, kf_lt, kt_eq, kf_eq, decide_true, decide_false, eq_self, Bool.false_eq_true, Bool.true_eq_false, not_true_eq_false, not_false_eq_true, jU_eq, jU_ne, jU_U, jV_eq, jV_ne, jV_V, kn_lit, kn_add, kn_mul, kn_sdm, kn_sub, kn_div, kn_nsdm, kn_lt, kn_eq, kn_pred, kn_m1, kn_m1', kn_a31, kn_shl, kn_shr, kn_bit, nB_0, nB_1, nB_t, nB_f, Nat.zero_add, Nat.add_zero, Nat.reduceAdd, Nat.reduceMul, Nat.reduceSub, Nat.reducePow]
        exact ih J hV
    · have hQ' := jN_QM hV hQ
      have fin := hP J hV
      show jW (F_Mod_nose_c37 (F_Mod_nose_l37 n) 205 (nB w) (nP1 (s_ns τ r β (τ 0 0))) (nP2 (s_ns τ r β (τ 0 0))) (nI (τ 0 0)) (jz_I h J)) P
      unfold F_Mod_nose_c37
      unfold s_nose at fin
      generalize s_ns τ r β (τ 0 0) = s at fin ⊢
      cases w
      · rw [if_neg (show ¬ false = true by decide)] at fin
        simp (disch := omega) only [hQ'.1.1.1, F_Mod_nose_b103, ↓dK_205 hL, ↓dG_205 hL, ↓dP_205 hL, ↓dZ_205 hL (x := nI 0) (Or.inl rfl), ↓dZ_205 hL (x := nI 1) (Or.inr rfl), ↓dZ_205 hL (Or.inl rfl), ↓dZ_205 hL (Or.inr rfl), ↓dZ_205 hL (nB_01 _), ↓dR_205_12 hL, dI_209 hL, dS_209 hL, ↓reduceIte, ↓kq_bi, ↓kq_let, ↓kq_rz0, ↓kq_rz1, ↓kq_rzB, ↓Option.bind_some, kq_dvn, kt_lt, kf_lt, kt_eq, kf_eq, decide_true, decide_false, eq_self, Bool.false_eq_true, Bool.true_eq_false, not_true_eq_false, not_false_eq_true, jU_eq, jU_ne, jU_U, jV_eq, jV_ne, jV_V, kn_lit, kn_add, kn_mul, kn_sdm, kn_sub, kn_div, kn_nsdm, kn_lt, kn_eq, kn_pred, kn_m1, kn_m1', kn_a31, kn_shl, kn_shr, kn_bit, nB_0, nB_1, nB_t, nB_f, Nat.zero_add, Nat.add_zero, Nat.reduceAdd, Nat.reduceMul, Nat.reduceSub, Nat.reducePow]
        exact jW_s fin
      · rw [if_pos (show true = true from rfl)] at fin
        simp (disch := omega) only [hQ'.1.1.1, F_Mod_nose_b103, ↓dK_205 hL, ↓dG_205 hL, ↓dP_205 hL, ↓dZ_205 hL (x := nI 0) (Or.inl rfl), ↓dZ_205 hL (x := nI 1) (Or.inr rfl), ↓dZ_205 hL (Or.inl rfl), ↓dZ_205 hL (Or.inr rfl), ↓dZ_205 hL (nB_01 _), ↓dR_205_12 hL, dI_209 hL, dS_209 hL, ↓reduceIte, ↓kq_bi, ↓kq_let, ↓kq_rz0, ↓kq_rz1, ↓kq_rzB, ↓Option.bind_some, kq_dvn, kt_lt, kf_lt, kt_eq, kf_eq, decide_true, decide_false, eq_self, Bool.false_eq_true, Bool.true_eq_false, not_true_eq_false, not_false_eq_true, jU_eq, jU_ne, jU_U, jV_eq, jV_ne, jV_V, kn_lit, kn_add, kn_mul, kn_sdm, kn_sub, kn_div, kn_nsdm, kn_lt, kn_eq, kn_pred, kn_m1, kn_m1', kn_a31, kn_shl, kn_shr, kn_bit, nB_0, nB_1, nB_t, nB_f, Nat.zero_add, Nat.add_zero, Nat.reduceAdd, Nat.reduceMul, Nat.reduceSub, Nat.reducePow]
        exact jW_s fin
  unfold F_Mod_nose
  cases w
  · simp (disch := omega) only [m_in1, show nB false = nI 0 from rfl, ↓dK_205 hL, ↓dG_205 hL, ↓dP_205 hL, ↓dZ_205 hL (x := nI 0) (Or.inl rfl), ↓dZ_205 hL (x := nI 1) (Or.inr rfl), ↓dZ_205 hL (Or.inl rfl), ↓dZ_205 hL (Or.inr rfl), ↓dZ_205 hL (nB_01 _), ↓reduceIte, ↓kq_bi, ↓kq_let, ↓kq_rz0, ↓kq_rz1, ↓kq_rzB, ↓Option.bind_some, kq_dvn, kt_lt, kf_lt, kt_eq, kf_eq, decide_true, decide_false, eq_self, Bool.false_eq_true, Bool.true_eq_false, not_true_eq_false, not_false_eq_true, jU_eq, jU_ne, jU_U, jV_eq, jV_ne, jV_V, kn_lit, kn_add, kn_mul, kn_sdm, kn_sub, kn_div, kn_nsdm, kn_lt, kn_eq, kn_pred, kn_m1, kn_m1', kn_a31, kn_shl, kn_shr, kn_bit, nB_0, nB_1, nB_t, nB_f, Nat.zero_add, Nat.add_zero, Nat.reduceAdd, Nat.reduceMul, Nat.reduceSub, Nat.reducePow]
    exact key
  · simp (disch := omega) only [m_in1, show nB true = nI 1 from rfl, ↓dK_205 hL, ↓dG_205 hL, ↓dP_205 hL, ↓dZ_205 hL (x := nI 0) (Or.inl rfl), ↓dZ_205 hL (x := nI 1) (Or.inr rfl), ↓dZ_205 hL (Or.inl rfl), ↓dZ_205 hL (Or.inr rfl), ↓dZ_205 hL (nB_01 _), ↓reduceIte, ↓kq_bi, ↓kq_let, ↓kq_rz0, ↓kq_rz1, ↓kq_rzB, ↓Option.bind_some, kq_dvn, kt_lt, kf_lt, kt_eq, kf_eq, decide_true, decide_false, eq_self, Bool.false_eq_true, Bool.true_eq_false, not_true_eq_false, not_false_eq_true, jU_eq, jU_ne, jU_U, jV_eq, jV_ne, jV_V, kn_lit, kn_add, kn_mul, kn_sdm, kn_sub, kn_div, kn_nsdm, kn_lt, kn_eq, kn_pred, kn_m1, kn_m1', kn_a31, kn_shl, kn_shr, kn_bit, nB_0, nB_1, nB_t, nB_f, Nat.zero_add, Nat.add_zero, Nat.reduceAdd, Nat.reduceMul, Nat.reduceSub, Nat.reducePow]
    exact key
end

/-! PLAIN LEAN, 17: thief of the reference; thickest, turned, ahead -/
section
variable {t u l m b c : Nat} {h : LH} {I J K : Nat → Nat → Int32} {τ : JTn} {r q : JRw} {σ ρ i : Nat} {Q : Type} {x : Int32} {d : Bool} {ω : JLw} {f : Nat → Int32}
theorem s_rnd_le (ho : jTOK τ) {g x : Nat} (hg : g < τ 0 0) (hx : x < τ 0 0) : s_rnd τ g x < 100 := by
  have o0 : τ 0 0 ≤ 9 := ho.1
  have hd1 : (if g < x then x - g else g - x) < 9 := by split <;> omega
  unfold s_rnd
  generalize (if g < x then x - g else g - x) = dd at hd1
  split <;> omega
theorem m_round (hL : jLay t u l m b c h) (hT : jMT J τ) (ho : jTOK τ) {g x : Nat} (hg : g < τ 0 0) (hx : x < τ 0 0) : F_Mod_round 205 (nI g) (nI x) (jz_I h J) = some (nI (s_rnd τ g x), jz_I h J) := by
  have o0 : τ 0 0 ≤ 9 := ho.1
  unfold F_Mod_round s_rnd
  by_cases hc : x < g
  · have h1 : ¬ g < x := by omega
    simp (disch := omega) only [hT.1, F_Mod_round_b14, m_less, ↓dK_205 hL, ↓dG_205 hL, ↓dP_205 hL, ↓dZ_205 hL (x := nI 0) (Or.inl rfl), ↓dZ_205 hL (x := nI 1) (Or.inr rfl), ↓dZ_205 hL (Or.inl rfl), ↓dZ_205 hL (Or.inr rfl), ↓dZ_205 hL (nB_01 _), ↓dR_205_12 hL, dI_209 hL, dS_209 hL, ↓reduceIte, ↓kq_bi, ↓kq_let, ↓kq_rz0, ↓kq_rz1, ↓kq_rzB, ↓Option.bind_some, kq_dvn, kt_lt, kf_lt, kt_eq, kf_eq, decide_true, decide_false, eq_self, Bool.false_eq_true, Bool.true_eq_false, not_true_eq_false, not_false_eq_true, jU_eq, jU_ne, jU_U, jV_eq, jV_ne, jV_V, kn_lit, kn_add, kn_mul, kn_sdm, kn_sub, kn_div, kn_nsdm, kn_lt, kn_eq, kn_pred, kn_m1, kn_m1', kn_a31, kn_shl, kn_shr, kn_bit, nB_0, nB_1, nB_t, nB_f, Nat.zero_add, Nat.add_zero, Nat.reduceAdd, Nat.reduceMul, Nat.reduceSub, Nat.reducePow]
  · by_cases he : g = x
    · subst he
      simp (disch := omega) only [hT.1, F_Mod_round_b14, m_less, Nat.sub_self, ↓dK_205 hL, ↓dG_205 hL, ↓dP_205 hL, ↓dZ_205 hL (x := nI 0) (Or.inl rfl), ↓dZ_205 hL (x := nI 1) (Or.inr rfl), ↓dZ_205 hL (Or.inl rfl), ↓dZ_205 hL (Or.inr rfl), ↓dZ_205 hL (nB_01 _), ↓dR_205_12 hL, dI_209 hL, dS_209 hL, ↓reduceIte, ↓kq_bi, ↓kq_let, ↓kq_rz0, ↓kq_rz1, ↓kq_rzB, ↓Option.bind_some, kq_dvn, kt_lt, kf_lt, kt_eq, kf_eq, decide_true, decide_false, eq_self, Bool.false_eq_true, Bool.true_eq_false, not_true_eq_false, not_false_eq_true, jU_eq, jU_ne, jU_U, jV_eq, jV_ne, jV_V, kn_lit, kn_add, kn_mul, kn_sdm, kn_sub, kn_div, kn_nsdm, kn_lt, kn_eq, kn_pred, kn_m1, kn_m1', kn_a31, kn_shl, kn_shr, kn_bit, nB_0, nB_1, nB_t, nB_f, Nat.zero_add, Nat.add_zero, Nat.reduceAdd, Nat.reduceMul, Nat.reduceSub, Nat.reducePow]
    · have h1 : g < x := by omega
      simp (disch := omega) only [hT.1, F_Mod_round_b14, m_less, ↓dK_205 hL, ↓dG_205 hL, ↓dP_205 hL, ↓dZ_205 hL (x := nI 0) (Or.inl rfl), ↓dZ_205 hL (x := nI 1) (Or.inr rfl), ↓dZ_205 hL (Or.inl rfl), ↓dZ_205 hL (Or.inr rfl), ↓dZ_205 hL (nB_01 _), ↓dR_205_12 hL, dI_209 hL, dS_209 hL, ↓reduceIte, ↓kq_bi, ↓kq_let, ↓kq_rz0, ↓kq_rz1, ↓kq_rzB, ↓Option.bind_some, kq_dvn, kt_lt, kf_lt, kt_eq, kf_eq, decide_true, decide_false, eq_self, Bool.false_eq_true, Bool.true_eq_false, not_true_eq_false, not_false_eq_true, jU_eq, jU_ne, jU_U, jV_eq, jV_ne, jV_V, kn_lit, kn_add, kn_mul, kn_sdm, kn_sub, kn_div, kn_nsdm, kn_lt, kn_eq, kn_pred, kn_m1, kn_m1', kn_a31, kn_shl, kn_shr, kn_bit, nB_0, nB_1, nB_t, nB_f, Nat.zero_add, Nat.add_zero, Nat.reduceAdd, Nat.reduceMul, Nat.reduceSub, Nat.reducePow]
theorem s_bits_lt9 (p : Nat → Bool) {n : Nat} (hn : n ≤ 30) : s_bits p n < 2147483648 := Nat.lt_of_lt_of_le (s_bits_lt _ _) (Nat.le_trans (Nat.pow_le_pow_right (by omega) hn) (by decide))
theorem m_thief (hL : jLay t u l m b c h) (hQ : jQM I τ ω r) {g : Nat} (hg : g < τ 0 0) (w : Bool) : ∃ J, F_Mod_thief 205 (nI g) (nB w) (jz_I h I) = some (nO (s_thief τ ω r g w), jz_I h J) ∧ jN I J := by
  have ho := hQ.1.2.1
  have o0 : τ 0 0 ≤ 9 := ho.1
  refine jE_i (fun P hP => ?_)
  have N0 := jN_0 hQ
  have key : jW (F_Mod_thief_b42 205 (nI g) (nB w) 205 (nI 0) (jz_I h (jU I 205 (jV (I 205) 0 (nI 0))))) P := by
    unfold F_Mod_thief_b42
    simp (disch := omega) only [m_bad0 hL N0.2.2.2, ↓dK_205 hL, ↓dG_205 hL, ↓dP_205 hL, ↓dZ_205 hL (x := nI 0) (Or.inl rfl), ↓dZ_205 hL (x := nI 1) (Or.inr rfl), ↓dZ_205 hL (Or.inl rfl), ↓dZ_205 hL (Or.inr rfl), ↓dZ_205 hL (nB_01 _), ↓reduceIte, ↓kq_bi, ↓kq_let, ↓kq_rz0, ↓kq_rz1, ↓kq_rzB, ↓Option.bind_some, kq_dvn, kt_lt, kf_lt, kt_eq, kf_eq, decide_true, decide_false, eq_self, Bool.false_eq_true, Bool.true_eq_false, not_true_eq_false, not_false_eq_true, jU_eq, jU_ne, jU_U, jV_eq, jV_ne, jV_V, kn_lit, kn_add, kn_mul, kn_sdm, kn_sub, kn_div, kn_nsdm, kn_lt, kn_eq, kn_pred, kn_m1, kn_m1', kn_a31, kn_shl, kn_shr, kn_bit, nB_0, nB_1, nB_t, nB_f, Nat.zero_add, Nat.add_zero, Nat.reduceAdd, Nat.reduceMul, Nat.reduceSub, Nat.reducePow]
    refine jW_bn (m_trial hL hQ N0) (fun J hJ => ?_)
    refine jW_for0 (f := fun fuel k (J : Nat → Nat → Int32) => F_Mod_thief_l58 fuel 205 (nI g) (nB w) (nI k) (jz_I h J)) 48 (fun k J => (jN I J ∧ jMR J 692 (s_hrs τ ω r k)) ∧ s_fst (fun k => (s_thg τ ω r g k).isSome) k = none) J ⟨hJ, rfl⟩ (by omega) (fun n k J hk hV ih => ?_) (fun n J hV => ?_)
    · obtain ⟨⟨v1, v2⟩, v3⟩ := hV
      obtain ⟨hq, -⟩ := s_hrs_ok (ω := ω) ho hQ.2.2.1 hQ.2.2.2 k (by omega)
      show jW (F_Mod_thief_c58 (F_Mod_thief_l58 n) 205 (nI g) (nB w) (nI k) (jz_I h J)) P
      unfold F_Mod_thief_c58
      simp (disch := omega) only [↓dK_205 hL, ↓dG_205 hL, ↓dP_205 hL, ↓dZ_205 hL (x := nI 0) (Or.inl rfl), ↓dZ_205 hL (x := nI 1) (Or.inr rfl), ↓dZ_205 hL (Or.inl rfl), ↓dZ_205 hL (Or.inr rfl), ↓dZ_205 hL (nB_01 _), ↓dR_205_36 hL, dI_692 hL, dS_692 hL, ↓reduceIte, ↓kq_bi, ↓kq_let, ↓kq_rz0, ↓kq_rz1, ↓kq_rzB, ↓Option.bind_some, kq_dvn, kt_lt, kf_lt, kt_eq, kf_eq, decide_true, decide_false, eq_self, Bool.false_eq_true, Bool.true_eq_false, not_true_eq_false, not_false_eq_true, jU_eq, jU_ne, jU_U, jV_eq, jV_ne, jV_V, kn_lit, kn_add, kn_mul, kn_sdm, kn_sub, kn_div, kn_nsdm, kn_lt, kn_eq, kn_pred, kn_m1, kn_m1', kn_a31, kn_shl, kn_shr, kn_bit, nB_0, nB_1, nB_t, nB_f, Nat.zero_add, Nat.add_zero, Nat.reduceAdd, Nat.reduceMul, Nat.reduceSub, Nat.reducePow]
      refine jW_bi (m_bitsT hL hQ v1 v2 hq) (fun J2 hJ2 => ?_)
      have hT2 := (jN_QM hJ2.1 hQ).1.1
      have hb9 := s_bits_lt9 (s_sh τ ω false (s_hrs τ ω r k)) (n := τ 0 0) (by omega)
      refine jW_for0 (f := fun fuel x (_ : Unit) => F_Mod_thief_l77 (F_Mod_thief_l58 n) fuel 205 (nI g) (nB w) (nI k) (nI (s_bits (s_sh τ ω false (s_hrs τ ω r k)) (τ 0 0))) (nI x) (jz_I h J2)) (τ 0 0) (fun x _ => s_fst (s_thp τ ω (s_hrs τ ω r k) g k) x = none) () rfl (by omega) (fun n2 x _ hx hV ih2 => ?_) (fun n2 _ hV => ?_)
      · show jW (F_Mod_thief_c77 (F_Mod_thief_l58 n) (F_Mod_thief_l77 (F_Mod_thief_l58 n) n2) 205 (nI g) (nB w) (nI k) (nI (s_bits (s_sh τ ω false (s_hrs τ ω r k)) (τ 0 0))) (nI x) (jz_I h J2)) P
        unfold F_Mod_thief_c77
        have hrl := s_rnd_le ho hg hx
        have hs := s_bits_has (s_sh τ ω false (s_hrs τ ω r k)) hx
        by_cases hc : k < s_rnd τ g x
        · have hp : s_thp τ ω (s_hrs τ ω r k) g k x = false := by unfold s_thp; rw [decide_eq_false (by omega)]; rfl
          simp (disch := omega) only [hT2.1, m_round hL hT2 ho hg hx, F_Mod_thief_b120, ↓dK_205 hL, ↓dG_205 hL, ↓dP_205 hL, ↓dZ_205 hL (x := nI 0) (Or.inl rfl), ↓dZ_205 hL (x := nI 1) (Or.inr rfl), ↓dZ_205 hL (Or.inl rfl), ↓dZ_205 hL (Or.inr rfl), ↓dZ_205 hL (nB_01 _), ↓dR_205_12 hL, dI_209 hL, dS_209 hL, ↓reduceIte, ↓kq_bi, ↓kq_let, ↓kq_rz0, ↓kq_rz1, ↓kq_rzB, ↓Option.bind_some, kq_dvn, kt_lt, kf_lt, kt_eq, kf_eq, decide_true, decide_false, eq_self, Bool.false_eq_true, Bool.true_eq_false, not_true_eq_false, not_false_eq_true, jU_eq, jU_ne, jU_U, jV_eq, jV_ne, jV_V, kn_lit, kn_add, kn_mul, kn_sdm, kn_sub, kn_div, kn_nsdm, kn_lt, kn_eq, kn_pred, kn_m1, kn_m1', kn_a31, kn_shl, kn_shr, kn_bit, nB_0, nB_1, nB_t, nB_f, Nat.zero_add, Nat.add_zero, Nat.reduceAdd, Nat.reduceMul, Nat.reduceSub, Nat.reducePow]
          exact ih2 () (s_fst_miss hV hp)
        · cases hb : s_sh τ ω false (s_hrs τ ω r k) x
          · have hp : s_thp τ ω (s_hrs τ ω r k) g k x = true := by unfold s_thp; rw [decide_eq_true (by omega), hb]; rfl
            rw [hb, if_neg (by decide)] at hs
            have ex : s_thg τ ω r g k = some x := s_fst_hit hV hp hx
            have go := hP J2 hJ2.1
            have ef : s_thf τ ω r g = some k := s_fst_hit v3 (by rw [ex]; rfl) hk
            unfold s_thief at go
            rw [ef] at go
            cases w
            · simp (disch := omega) only [hT2.1, m_round hL hT2 ho hg hx, m_has, hs, F_Mod_thief_b119, ↓dK_205 hL, ↓dG_205 hL, ↓dP_205 hL, ↓dZ_205 hL (x := nI 0) (Or.inl rfl), ↓dZ_205 hL (x := nI 1) (Or.inr rfl), ↓dZ_205 hL (Or.inl rfl), ↓dZ_205 hL (Or.inr rfl), ↓dZ_205 hL (nB_01 _), ↓dR_205_12 hL, dI_209 hL, dS_209 hL, ↓reduceIte, ↓kq_bi, ↓kq_let, ↓kq_rz0, ↓kq_rz1, ↓kq_rzB, ↓Option.bind_some, kq_dvn, kt_lt, kf_lt, kt_eq, kf_eq, decide_true, decide_false, eq_self, Bool.false_eq_true, Bool.true_eq_false, not_true_eq_false, not_false_eq_true, jU_eq, jU_ne, jU_U, jV_eq, jV_ne, jV_V, kn_lit, kn_add, kn_mul, kn_sdm, kn_sub, kn_div, kn_nsdm, kn_lt, kn_eq, kn_pred, kn_m1, kn_m1', kn_a31, kn_shl, kn_shr, kn_bit, nB_0, nB_1, nB_t, nB_f, Nat.zero_add, Nat.add_zero, Nat.reduceAdd, Nat.reduceMul, Nat.reduceSub, Nat.reducePow]
              exact jW_s go
            · rw [show (Option.bind (some k) fun k => if true = true then s_thg τ ω r g k else some k) = s_thg τ ω r g k from rfl, ex] at go
              simp (disch := omega) only [hT2.1, m_round hL hT2 ho hg hx, m_has, hs, F_Mod_thief_b119, ↓dK_205 hL, ↓dG_205 hL, ↓dP_205 hL, ↓dZ_205 hL (x := nI 0) (Or.inl rfl), ↓dZ_205 hL (x := nI 1) (Or.inr rfl), ↓dZ_205 hL (Or.inl rfl), ↓dZ_205 hL (Or.inr rfl), ↓dZ_205 hL (nB_01 _), ↓dR_205_12 hL, dI_209 hL, dS_209 hL, ↓reduceIte, ↓kq_bi, ↓kq_let, ↓kq_rz0, ↓kq_rz1, ↓kq_rzB, ↓Option.bind_some, kq_dvn, kt_lt, kf_lt, kt_eq, kf_eq, decide_true, decide_false, eq_self, Bool.false_eq_true, Bool.true_eq_false, not_true_eq_false, not_false_eq_true, jU_eq, jU_ne, jU_U, jV_eq, jV_ne, jV_V, kn_lit, kn_add, kn_mul, kn_sdm, kn_sub, kn_div, kn_nsdm, kn_lt, kn_eq, kn_pred, kn_m1, kn_m1', kn_a31, kn_shl, kn_shr, kn_bit, nB_0, nB_1, nB_t, nB_f, Nat.zero_add, Nat.add_zero, Nat.reduceAdd, Nat.reduceMul, Nat.reduceSub, Nat.reducePow]
              exact jW_s go
          · have hp : s_thp τ ω (s_hrs τ ω r k) g k x = false := by unfold s_thp; rw [decide_eq_true (by omega), hb]; rfl
            rw [hb, if_pos rfl] at hs
            simp (disch := omega) only [hT2.1, m_round hL hT2 ho hg hx, m_has, hs, F_Mod_thief_b120, ↓dK_205 hL, ↓dG_205 hL, ↓dP_205 hL, ↓dZ_205 hL (x := nI 0) (Or.inl rfl), ↓dZ_205 hL (x := nI 1) (Or.inr rfl), ↓dZ_205 hL (Or.inl rfl), ↓dZ_205 hL (Or.inr rfl), ↓dZ_205 hL (nB_01 _), ↓dR_205_12 hL, dI_209 hL, dS_209 hL, ↓reduceIte, ↓kq_bi, ↓kq_let, ↓kq_rz0, ↓kq_rz1, ↓kq_rzB, ↓Option.bind_some, kq_dvn, kt_lt, kf_lt, kt_eq, kf_eq, decide_true, decide_false, eq_self, Bool.false_eq_true, Bool.true_eq_false, not_true_eq_false, not_false_eq_true, jU_eq, jU_ne, jU_U, jV_eq, jV_ne, jV_V, kn_lit, kn_add, kn_mul, kn_sdm, kn_sub, kn_div, kn_nsdm, kn_lt, kn_eq, kn_pred, kn_m1, kn_m1', kn_a31, kn_shl, kn_shr, kn_bit, nB_0, nB_1, nB_t, nB_f, Nat.zero_add, Nat.add_zero, Nat.reduceAdd, Nat.reduceMul, Nat.reduceSub, Nat.reducePow]
            exact ih2 () (s_fst_miss hV hp)
      · show jW (F_Mod_thief_c77 (F_Mod_thief_l58 n) (F_Mod_thief_l77 (F_Mod_thief_l58 n) n2) 205 (nI g) (nB w) (nI k) (nI (s_bits (s_sh τ ω false (s_hrs τ ω r k)) (τ 0 0))) (nI (τ 0 0)) (jz_I h J2)) P
        unfold F_Mod_thief_c77
        simp (disch := omega) only [hT2.1, ↓dK_205 hL, ↓dG_205 hL, ↓dP_205 hL, ↓dZ_205 hL (x := nI 0) (Or.inl rfl), ↓dZ_205 hL (x := nI 1) (Or.inr rfl), ↓dZ_205 hL (Or.inl rfl), ↓dZ_205 hL (Or.inr rfl), ↓dZ_205 hL (nB_01 _), ↓dR_205_12 hL, dI_209 hL, dS_209 hL, ↓dR_205_36 hL, dI_692 hL, dS_692 hL, ↓reduceIte, ↓kq_bi, ↓kq_let, ↓kq_rz0, ↓kq_rz1, ↓kq_rzB, ↓Option.bind_some, kq_dvn, kt_lt, kf_lt, kt_eq, kf_eq, decide_true, decide_false, eq_self, Bool.false_eq_true, Bool.true_eq_false, not_true_eq_false, not_false_eq_true, jU_eq, jU_ne, jU_U, jV_eq, jV_ne, jV_V, kn_lit, kn_add, kn_mul, kn_sdm, kn_sub, kn_div, kn_nsdm, kn_lt, kn_eq, kn_pred, kn_m1, kn_m1', kn_a31, kn_shl, kn_shr, kn_bit, nB_0, nB_1, nB_t, nB_f, Nat.zero_add, Nat.add_zero, Nat.reduceAdd, Nat.reduceMul, Nat.reduceSub, Nat.reducePow]
        have ex : s_thg τ ω r g k = none := hV
        exact jW_bn (m_hourT hL hQ hJ2.1 hJ2.2 hq) (fun J3 hJ3 => ih _ ⟨hJ3, s_fst_miss v3 (by rw [ex]; rfl)⟩)
    · show jW (F_Mod_thief_c58 (F_Mod_thief_l58 n) 205 (nI g) (nB w) (nI 48) (jz_I h J)) P
      unfold F_Mod_thief_c58
      simp (disch := omega) only [↓dK_205 hL, ↓dG_205 hL, ↓dP_205 hL, ↓dZ_205 hL (x := nI 0) (Or.inl rfl), ↓dZ_205 hL (x := nI 1) (Or.inr rfl), ↓dZ_205 hL (Or.inl rfl), ↓dZ_205 hL (Or.inr rfl), ↓dZ_205 hL (nB_01 _), ↓reduceIte, ↓kq_bi, ↓kq_let, ↓kq_rz0, ↓kq_rz1, ↓kq_rzB, ↓Option.bind_some, kq_dvn, kt_lt, kf_lt, kt_eq, kf_eq, decide_true, decide_false, eq_self, Bool.false_eq_true, Bool.true_eq_false, not_true_eq_false, not_false_eq_true, jU_eq, jU_ne, jU_U, jV_eq, jV_ne, jV_V, kn_lit, kn_add, kn_mul, kn_sdm, kn_sub, kn_div, kn_nsdm, kn_lt, kn_eq, kn_pred, kn_m1, kn_m1', kn_a31, kn_shl, kn_shr, kn_bit, nB_0, nB_1, nB_t, nB_f, Nat.zero_add, Nat.add_zero, Nat.reduceAdd, Nat.reduceMul, Nat.reduceSub, Nat.reducePow]
      have go := hP J hV.1.1
      unfold s_thief s_thf at go
      rw [hV.2] at go
      exact jW_s go
  have hQ0 := jN_QM N0 hQ
  unfold F_Mod_thief
  cases w
  · simp (disch := omega) only [m_isGate hL hQ0.1.1 ho hg, m_bad0 hL N0.2.2.2, m_in1, show nB false = nI 0 from rfl, F_Mod_thief_b19, ↓dK_205 hL, ↓dG_205 hL, ↓dP_205 hL, ↓dZ_205 hL (x := nI 0) (Or.inl rfl), ↓dZ_205 hL (x := nI 1) (Or.inr rfl), ↓dZ_205 hL (Or.inl rfl), ↓dZ_205 hL (Or.inr rfl), ↓dZ_205 hL (nB_01 _), ↓reduceIte, ↓kq_bi, ↓kq_let, ↓kq_rz0, ↓kq_rz1, ↓kq_rzB, ↓Option.bind_some, kq_dvn, kt_lt, kf_lt, kt_eq, kf_eq, decide_true, decide_false, eq_self, Bool.false_eq_true, Bool.true_eq_false, not_true_eq_false, not_false_eq_true, jU_eq, jU_ne, jU_U, jV_eq, jV_ne, jV_V, kn_lit, kn_add, kn_mul, kn_sdm, kn_sub, kn_div, kn_nsdm, kn_lt, kn_eq, kn_pred, kn_m1, kn_m1', kn_a31, kn_shl, kn_shr, kn_bit, nB_0, nB_1, nB_t, nB_f, Nat.zero_add, Nat.add_zero, Nat.reduceAdd, Nat.reduceMul, Nat.reduceSub, Nat.reducePow]
    exact key
  · simp (disch := omega) only [m_isGate hL hQ0.1.1 ho hg, m_bad0 hL N0.2.2.2, m_in1, show nB true = nI 1 from rfl, F_Mod_thief_b19, ↓dK_205 hL, ↓dG_205 hL, ↓dP_205 hL, ↓dZ_205 hL (x := nI 0) (Or.inl rfl), ↓dZ_205 hL (x := nI 1) (Or.inr rfl), ↓dZ_205 hL (Or.inl rfl), ↓dZ_205 hL (Or.inr rfl), ↓dZ_205 hL (nB_01 _), ↓reduceIte, ↓kq_bi, ↓kq_let, ↓kq_rz0, ↓kq_rz1, ↓kq_rzB, ↓Option.bind_some, kq_dvn, kt_lt, kf_lt, kt_eq, kf_eq, decide_true, decide_false, eq_self, Bool.false_eq_true, Bool.true_eq_false, not_true_eq_false, not_false_eq_true, jU_eq, jU_ne, jU_U, jV_eq, jV_ne, jV_V, kn_lit, kn_add, kn_mul, kn_sdm, kn_sub, kn_div, kn_nsdm, kn_lt, kn_eq, kn_pred, kn_m1, kn_m1', kn_a31, kn_shl, kn_shr, kn_bit, nB_0, nB_1, nB_t, nB_f, Nat.zero_add, Nat.add_zero, Nat.reduceAdd, Nat.reduceMul, Nat.reduceSub, Nat.reducePow]
    exact key
theorem c_shutGates (hL : jLay t u l m b c h) (hE : jCE I t l τ ω) (hσ : σ = 85 ∨ σ = 90) (hS : jCS I σ τ d r) (hr : jROK τ r) : ∃ J, F_Scene_shutGates σ (jz_I h I) = some (nI (s_cnt (s_sh τ ω d r) (τ 0 0)), jz_I h J) ∧ jCS J σ τ d r ∧ jSc l σ I J := by
  have ht := jLay_t hL
  have o0 : τ 0 0 ≤ 9 := hE.2.1.1
  refine jE_i (fun P hP => ?_)
  unfold F_Scene_shutGates
  refine jW_for0 (f := fun fuel k (J : Nat → Nat → Int32) => F_Scene_shutGates_l4 fuel σ (nI (s_cnt (s_sh τ ω d r) k)) (nI k) (jz_I h J)) (τ 0 0) (fun k J => jCS J σ τ d r ∧ jSc l σ I J) I ⟨hS, jSc_refl⟩ (by omega) (fun n k J hk hJ ih => ?_) (fun n J hJ => ?_)
  · have hE' := jCE_Sc hL hσ hJ.2 hE
    show jW (F_Scene_shutGates_c4 (F_Scene_shutGates_l4 n) σ (nI (s_cnt (s_sh τ ω d r) k)) (nI k) (jz_I h J)) P
    unfold F_Scene_shutGates_c4
    simp (disch := omega) only [cT_f0 hE'.1, ↓dK_S hL hσ, ↓dG_S hL hσ, ↓dP_S hL hσ, ↓dZ_S hL hσ (x := nI 0) (Or.inl rfl), ↓dZ_S hL hσ (x := nI 1) (Or.inr rfl), ↓dZ_S hL hσ (Or.inl rfl), ↓dZ_S hL hσ (Or.inr rfl), ↓dZ_S hL hσ (nB_01 _), ↓dR_S_1 hL hσ, ↓dR_S_2 hL hσ, ↓dK_T hL ht, ↓dG_T hL ht, ↓dP_T hL ht, ↓reduceIte, ↓kq_bi, ↓kq_let, ↓kq_rz0, ↓kq_rz1, ↓kq_rzB, ↓Option.bind_some, kq_dvn, kt_lt, kf_lt, kt_eq, kf_eq, decide_true, decide_false, eq_self, Bool.false_eq_true, Bool.true_eq_false, not_true_eq_false, not_false_eq_true, jU_eq, jU_ne, jU_U, jV_eq, jV_ne, jV_V, kn_lit, kn_add, kn_mul, kn_sdm, kn_sub, kn_div, kn_nsdm, kn_lt, kn_eq, kn_pred, kn_m1, kn_m1', kn_a31, kn_shl, kn_shr, kn_bit, nB_0, nB_1, nB_t, nB_f, Nat.zero_add, Nat.add_zero, Nat.reduceAdd, Nat.reduceMul, Nat.reduceSub, Nat.reducePow]
    refine jW_bi (c_isShut hL hE' hσ hJ.1 hr hk) (fun J2 hJ2 => ?_)
    have ih' := ih J2 ⟨hJ2.1, jSc_trans hJ.2 hJ2.2.1⟩
    rw [show s_cnt (s_sh τ ω d r) (k + 1) = s_cnt (s_sh τ ω d r) k + (if s_sh τ ω d r k = true then 1 else 0) from rfl] at ih'
    cases hb : s_sh τ ω d r k
    · rw [hb] at ih'
      simp (disch := omega) only [F_Scene_shutGates_b26, ↓reduceIte, ↓kq_bi, ↓kq_let, ↓kq_rz0, ↓kq_rz1, ↓kq_rzB, ↓Option.bind_some, kq_dvn, kt_lt, kf_lt, kt_eq, kf_eq, decide_true, decide_false, eq_self, Bool.false_eq_true, Bool.true_eq_false, not_true_eq_false, not_false_eq_true, jU_eq, jU_ne, jU_U, jV_eq, jV_ne, jV_V, kn_lit, kn_add, kn_mul, kn_sdm, kn_sub, kn_div, kn_nsdm, kn_lt, kn_eq, kn_pred, kn_m1, kn_m1', kn_a31, kn_shl, kn_shr, kn_bit, nB_0, nB_1, nB_t, nB_f, Nat.zero_add, Nat.add_zero, Nat.reduceAdd, Nat.reduceMul, Nat.reduceSub, Nat.reducePow]
      exact ih'
    · rw [hb] at ih'
      simp (disch := omega) only [F_Scene_shutGates_b26, ↓reduceIte, ↓kq_bi, ↓kq_let, ↓kq_rz0, ↓kq_rz1, ↓kq_rzB, ↓Option.bind_some, kq_dvn, kt_lt, kf_lt, kt_eq, kf_eq, decide_true, decide_false, eq_self, Bool.false_eq_true, Bool.true_eq_false, not_true_eq_false, not_false_eq_true, jU_eq, jU_ne, jU_U, jV_eq, jV_ne, jV_V, kn_lit, kn_add, kn_mul, kn_sdm, kn_sub, kn_div, kn_nsdm, kn_lt, kn_eq, kn_pred, kn_m1, kn_m1', kn_a31, kn_shl, kn_shr, kn_bit, nB_0, nB_1, nB_t, nB_f, Nat.zero_add, Nat.add_zero, Nat.reduceAdd, Nat.reduceMul, Nat.reduceSub, Nat.reducePow]
      exact ih'
  · have hE' := jCE_Sc hL hσ hJ.2 hE
    show jW (F_Scene_shutGates_c4 (F_Scene_shutGates_l4 n) σ (nI (s_cnt (s_sh τ ω d r) (τ 0 0))) (nI (τ 0 0)) (jz_I h J)) P
    unfold F_Scene_shutGates_c4
    simp (disch := omega) only [cT_f0 hE'.1, ↓dK_S hL hσ, ↓dG_S hL hσ, ↓dP_S hL hσ, ↓dZ_S hL hσ (x := nI 0) (Or.inl rfl), ↓dZ_S hL hσ (x := nI 1) (Or.inr rfl), ↓dZ_S hL hσ (Or.inl rfl), ↓dZ_S hL hσ (Or.inr rfl), ↓dZ_S hL hσ (nB_01 _), ↓dR_S_1 hL hσ, ↓dR_S_2 hL hσ, ↓dK_T hL ht, ↓dG_T hL ht, ↓dP_T hL ht, ↓reduceIte, ↓kq_bi, ↓kq_let, ↓kq_rz0, ↓kq_rz1, ↓kq_rzB, ↓Option.bind_some, kq_dvn, kt_lt, kf_lt, kt_eq, kf_eq, decide_true, decide_false, eq_self, Bool.false_eq_true, Bool.true_eq_false, not_true_eq_false, not_false_eq_true, jU_eq, jU_ne, jU_U, jV_eq, jV_ne, jV_V, kn_lit, kn_add, kn_mul, kn_sdm, kn_sub, kn_div, kn_nsdm, kn_lt, kn_eq, kn_pred, kn_m1, kn_m1', kn_a31, kn_shl, kn_shr, kn_bit, nB_0, nB_1, nB_t, nB_f, Nat.zero_add, Nat.add_zero, Nat.reduceAdd, Nat.reduceMul, Nat.reduceSub, Nat.reducePow]
    exact jW_s (hP J hJ)
theorem s_shs_le (ho : jTOK τ) : s_shs τ ω q ≤ 9 := Nat.le_trans (s_cnt_le _ _) ho.1
def s_thm (τ : JTn) (ω : JLw) (r : JRw) (k : Nat) : Nat := if k = 0 then 0 else s_shs τ ω (s_hrs τ ω r (s_arg (fun k => s_shs τ ω (s_hrs τ ω r k)) k))
theorem s_thm_le (ho : jTOK τ) {k : Nat} : s_thm τ ω r k ≤ 9 := by
  unfold s_thm
  split
  · omega
  · exact s_shs_le ho
theorem s_arg_le (f : Nat → Nat) (n : Nat) : s_arg f n ≤ n := by
  by_cases h : n = 0
  · subst h; exact Nat.le_refl 0
  · exact Nat.le_of_lt (s_arg_lt f n (by omega))
theorem s_thm_s {k : Nat} : s_arg (fun k => s_shs τ ω (s_hrs τ ω r k)) (k + 1) = (if s_thm τ ω r k < s_shs τ ω (s_hrs τ ω r k) then k else s_arg (fun k => s_shs τ ω (s_hrs τ ω r k)) k) ∧ s_thm τ ω r (k + 1) = (if s_thm τ ω r k < s_shs τ ω (s_hrs τ ω r k) then s_shs τ ω (s_hrs τ ω r k) else s_thm τ ω r k) := by
  have e : s_arg (fun k => s_shs τ ω (s_hrs τ ω r k)) (k + 1) = (if s_shs τ ω (s_hrs τ ω r (s_arg (fun k => s_shs τ ω (s_hrs τ ω r k)) k)) < s_shs τ ω (s_hrs τ ω r k) then k else s_arg (fun k => s_shs τ ω (s_hrs τ ω r k)) k) := rfl
  have e2 : s_thm τ ω r (k + 1) = s_shs τ ω (s_hrs τ ω r (s_arg (fun k => s_shs τ ω (s_hrs τ ω r k)) (k + 1))) := by unfold s_thm; rw [if_neg (by omega)]
  by_cases hk : k = 0
  · subst hk
    have e0 : s_arg (fun k => s_shs τ ω (s_hrs τ ω r k)) 0 = 0 := rfl
    have m0 : s_thm τ ω r 0 = 0 := rfl
    rw [e2, e, e0, m0, if_neg (Nat.lt_irrefl _)]
    refine ⟨by split <;> rfl, ?_⟩
    split
    · rfl
    · omega
  · have em : s_thm τ ω r k = s_shs τ ω (s_hrs τ ω r (s_arg (fun k => s_shs τ ω (s_hrs τ ω r k)) k)) := by unfold s_thm; rw [if_neg hk]
    rw [e2, e, em]
    refine ⟨rfl, ?_⟩
    split
    · rfl
    · rfl
theorem s_thk_48 : s_thk τ ω r = s_arg (fun k => s_shs τ ω (s_hrs τ ω r k)) 48 := by unfold s_thk; rfl
theorem s_thm_48 : s_thm τ ω r 48 = s_shs τ ω (s_hrs τ ω r (s_arg (fun k => s_shs τ ω (s_hrs τ ω r k)) 48)) := by unfold s_thm; rw [if_neg (by decide)]
theorem c_thickest (hL : jLay t u l m b c h) (hQ : jQC I t l τ ω r) (w : Bool) : ∃ J, F_SG_thickest 64 (nB w) (jz_I h I) = some (jo_i (nI (s_thick τ ω r w), jz_I h J)) ∧ jSc l 90 I J := by
  have ho := hQ.1.2.1
  refine jE_o (fun P hP => ?_)
  have key : jW (F_SG_thickest_b15 64 (nB w) 64 (nI 1) (jz_I h I)) P := by
    unfold F_SG_thickest_b15
    simp (disch := omega) only [c_need1, kq_th, ↓dK_64 hL, ↓dG_64 hL, ↓dP_64 hL, ↓reduceIte, ↓kq_bi, ↓kq_let, ↓kq_rz0, ↓kq_rz1, ↓kq_rzB, ↓Option.bind_some, kq_dvn, kt_lt, kf_lt, kt_eq, kf_eq, decide_true, decide_false, eq_self, Bool.false_eq_true, Bool.true_eq_false, not_true_eq_false, not_false_eq_true, jU_eq, jU_ne, jU_U, jV_eq, jV_ne, jV_V, kn_lit, kn_add, kn_mul, kn_sdm, kn_sub, kn_div, kn_nsdm, kn_lt, kn_eq, kn_pred, kn_m1, kn_m1', kn_a31, kn_shl, kn_shr, kn_bit, nB_0, nB_1, nB_t, nB_f, Nat.zero_add, Nat.add_zero, Nat.reduceAdd, Nat.reduceMul, Nat.reduceSub, Nat.reducePow]
    refine jW_bn (c_trial hL hQ) (fun J hJ => ?_)
    refine jW_for0 (f := fun fuel k (J : Nat → Nat → Int32) => F_SG_thickest_l29 fuel 64 (nB w) (nI (s_arg (fun k => s_shs τ ω (s_hrs τ ω r k)) k)) (nI (s_thm τ ω r k)) (nI k) (jz_I h J)) 48 (fun k J => (jSc l 90 I J ∧ jCS J 90 τ false (s_hrs τ ω r k))) J hJ (by omega) (fun n k J hk hV ih => ?_) (fun n J hV => ?_)
    · obtain ⟨v1, v2⟩ := hV
      obtain ⟨hq, -⟩ := s_hrs_ok (ω := ω) ho hQ.2.2.1 hQ.2.2.2 k (by omega)
      show jW (F_SG_thickest_c29 (F_SG_thickest_l29 n) 64 (nB w) (nI (s_arg (fun k => s_shs τ ω (s_hrs τ ω r k)) k)) (nI (s_thm τ ω r k)) (nI k) (jz_I h J)) P
      unfold F_SG_thickest_c29
      simp (disch := omega) only [↓dK_64 hL, ↓dG_64 hL, ↓dP_64 hL, ↓dR_64_3 hL, ↓dR_95_0 hL, ↓dR_102_0 hL, ↓dR_105_0 hL, ↓dK_90 hL, ↓dG_90 hL, ↓dP_90 hL, ↓dZ_90 hL (x := nI 0) (Or.inl rfl), ↓dZ_90 hL (x := nI 1) (Or.inr rfl), ↓dZ_90 hL (Or.inl rfl), ↓dZ_90 hL (Or.inr rfl), ↓dZ_90 hL (nB_01 _), ↓reduceIte, ↓kq_bi, ↓kq_let, ↓kq_rz0, ↓kq_rz1, ↓kq_rzB, ↓Option.bind_some, kq_dvn, kt_lt, kf_lt, kt_eq, kf_eq, decide_true, decide_false, eq_self, Bool.false_eq_true, Bool.true_eq_false, not_true_eq_false, not_false_eq_true, jU_eq, jU_ne, jU_U, jV_eq, jV_ne, jV_V, kn_lit, kn_add, kn_mul, kn_sdm, kn_sub, kn_div, kn_nsdm, kn_lt, kn_eq, kn_pred, kn_m1, kn_m1', kn_a31, kn_shl, kn_shr, kn_bit, nB_0, nB_1, nB_t, nB_f, Nat.zero_add, Nat.add_zero, Nat.reduceAdd, Nat.reduceMul, Nat.reduceSub, Nat.reducePow]
      refine jW_bi (c_shutGates hL (jCE_Sc hL (Or.inr rfl) v1 hQ.1) (Or.inr rfl) v2 hq) (fun J2 hJ2 => ?_)
      have b1 := s_shs_le (ω := ω) (q := s_hrs τ ω r k) ho
      have b2 := s_thm_le (ω := ω) (r := r) (k := k) ho
      have go : jW ((F_Scene_pass 90 (jz_I h J2)).bind fun h2 => F_SG_thickest_l29 n 64 (nB w) (nI (s_arg (fun k => s_shs τ ω (s_hrs τ ω r k)) (k + 1))) (nI (s_thm τ ω r (k + 1))) (nI (k + 1)) h2) P := jW_bn (c_hourT hL hQ (jSc_trans v1 hJ2.2) hJ2.1 hq) (fun J3 hJ3 => ih _ hJ3)
      rw [s_thm_s.1, s_thm_s.2] at go
      rw [show s_cnt (s_sh τ ω false (s_hrs τ ω r k)) (τ 0 0) = s_shs τ ω (s_hrs τ ω r k) from rfl]
      by_cases hc : s_thm τ ω r k < s_shs τ ω (s_hrs τ ω r k)
      · rw [if_pos hc, if_pos hc] at go
        simp (disch := omega) only [F_SG_thickest_b57, ↓dK_64 hL, ↓dG_64 hL, ↓dP_64 hL, ↓dR_64_3 hL, ↓dR_95_0 hL, ↓dR_102_0 hL, ↓dR_105_0 hL, ↓dK_90 hL, ↓dG_90 hL, ↓dP_90 hL, ↓dZ_90 hL (x := nI 0) (Or.inl rfl), ↓dZ_90 hL (x := nI 1) (Or.inr rfl), ↓dZ_90 hL (Or.inl rfl), ↓dZ_90 hL (Or.inr rfl), ↓dZ_90 hL (nB_01 _), ↓reduceIte, ↓kq_bi, ↓kq_let, ↓kq_rz0, ↓kq_rz1, ↓kq_rzB, ↓Option.bind_some, kq_dvn, kt_lt, kf_lt, kt_eq, kf_eq, decide_true, decide_false, eq_self, Bool.false_eq_true, Bool.true_eq_false, not_true_eq_false, not_false_eq_true, jU_eq, jU_ne, jU_U, jV_eq, jV_ne, jV_V, kn_lit, kn_add, kn_mul, kn_sdm, kn_sub, kn_div, kn_nsdm, kn_lt, kn_eq, kn_pred, kn_m1, kn_m1', kn_a31, kn_shl, kn_shr, kn_bit, nB_0, nB_1, nB_t, nB_f, Nat.zero_add, Nat.add_zero, Nat.reduceAdd, Nat.reduceMul, Nat.reduceSub, Nat.reducePow]
        exact go
      · rw [if_neg hc, if_neg hc] at go
        simp (disch := omega) only [F_SG_thickest_b57, ↓dK_64 hL, ↓dG_64 hL, ↓dP_64 hL, ↓dR_64_3 hL, ↓dR_95_0 hL, ↓dR_102_0 hL, ↓dR_105_0 hL, ↓dK_90 hL, ↓dG_90 hL, ↓dP_90 hL, ↓dZ_90 hL (x := nI 0) (Or.inl rfl), ↓dZ_90 hL (x := nI 1) (Or.inr rfl), ↓dZ_90 hL (Or.inl rfl), ↓dZ_90 hL (Or.inr rfl), ↓dZ_90 hL (nB_01 _), ↓reduceIte, ↓kq_bi, ↓kq_let, ↓kq_rz0, ↓kq_rz1, ↓kq_rzB, ↓Option.bind_some, kq_dvn, kt_lt, kf_lt, kt_eq, kf_eq, decide_true, decide_false, eq_self, Bool.false_eq_true, Bool.true_eq_false, not_true_eq_false, not_false_eq_true, jU_eq, jU_ne, jU_U, jV_eq, jV_ne, jV_V, kn_lit, kn_add, kn_mul, kn_sdm, kn_sub, kn_div, kn_nsdm, kn_lt, kn_eq, kn_pred, kn_m1, kn_m1', kn_a31, kn_shl, kn_shr, kn_bit, nB_0, nB_1, nB_t, nB_f, Nat.zero_add, Nat.add_zero, Nat.reduceAdd, Nat.reduceMul, Nat.reduceSub, Nat.reducePow]
        exact go
    · show jW (F_SG_thickest_c29 (F_SG_thickest_l29 n) 64 (nB w) (nI (s_arg (fun k => s_shs τ ω (s_hrs τ ω r k)) 48)) (nI (s_thm τ ω r 48)) (nI 48) (jz_I h J)) P
      rw [s_thm_48, ← s_thk_48]
      unfold F_SG_thickest_c29
      have go := hP J hV.1
      unfold s_thick at go
      generalize s_thk τ ω r = kk at go ⊢
      generalize s_shs τ ω (s_hrs τ ω r kk) = mm at go ⊢
      cases w
      · rw [if_neg (by decide)] at go
        simp (disch := omega) only [F_SG_thickest_b79, ↓reduceIte, ↓kq_bi, ↓kq_let, ↓kq_rz0, ↓kq_rz1, ↓kq_rzB, ↓Option.bind_some, kq_dvn, kt_lt, kf_lt, kt_eq, kf_eq, decide_true, decide_false, eq_self, Bool.false_eq_true, Bool.true_eq_false, not_true_eq_false, not_false_eq_true, jU_eq, jU_ne, jU_U, jV_eq, jV_ne, jV_V, kn_lit, kn_add, kn_mul, kn_sdm, kn_sub, kn_div, kn_nsdm, kn_lt, kn_eq, kn_pred, kn_m1, kn_m1', kn_a31, kn_shl, kn_shr, kn_bit, nB_0, nB_1, nB_t, nB_f, Nat.zero_add, Nat.add_zero, Nat.reduceAdd, Nat.reduceMul, Nat.reduceSub, Nat.reducePow]
        exact jW_s go
      · rw [if_pos rfl] at go
        simp (disch := omega) only [F_SG_thickest_b79, ↓reduceIte, ↓kq_bi, ↓kq_let, ↓kq_rz0, ↓kq_rz1, ↓kq_rzB, ↓Option.bind_some, kq_dvn, kt_lt, kf_lt, kt_eq, kf_eq, decide_true, decide_false, eq_self, Bool.false_eq_true, Bool.true_eq_false, not_true_eq_false, not_false_eq_true, jU_eq, jU_ne, jU_U, jV_eq, jV_ne, jV_V, kn_lit, kn_add, kn_mul, kn_sdm, kn_sub, kn_div, kn_nsdm, kn_lt, kn_eq, kn_pred, kn_m1, kn_m1', kn_a31, kn_shl, kn_shr, kn_bit, nB_0, nB_1, nB_t, nB_f, Nat.zero_add, Nat.add_zero, Nat.reduceAdd, Nat.reduceMul, Nat.reduceSub, Nat.reducePow]
        exact jW_s go
  unfold F_SG_thickest
  cases w
  · simp (disch := omega) only [show nB false = nI 0 from rfl, F_SG_thickest_b10, ↓reduceIte, ↓kq_bi, ↓kq_let, ↓kq_rz0, ↓kq_rz1, ↓kq_rzB, ↓Option.bind_some, kq_dvn, kt_lt, kf_lt, kt_eq, kf_eq, decide_true, decide_false, eq_self, Bool.false_eq_true, Bool.true_eq_false, not_true_eq_false, not_false_eq_true, jU_eq, jU_ne, jU_U, jV_eq, jV_ne, jV_V, kn_lit, kn_add, kn_mul, kn_sdm, kn_sub, kn_div, kn_nsdm, kn_lt, kn_eq, kn_pred, kn_m1, kn_m1', kn_a31, kn_shl, kn_shr, kn_bit, nB_0, nB_1, nB_t, nB_f, Nat.zero_add, Nat.add_zero, Nat.reduceAdd, Nat.reduceMul, Nat.reduceSub, Nat.reducePow]
    exact key
  · simp (disch := omega) only [show nB true = nI 1 from rfl, F_SG_thickest_b10, ↓reduceIte, ↓kq_bi, ↓kq_let, ↓kq_rz0, ↓kq_rz1, ↓kq_rzB, ↓Option.bind_some, kq_dvn, kt_lt, kf_lt, kt_eq, kf_eq, decide_true, decide_false, eq_self, Bool.false_eq_true, Bool.true_eq_false, not_true_eq_false, not_false_eq_true, jU_eq, jU_ne, jU_U, jV_eq, jV_ne, jV_V, kn_lit, kn_add, kn_mul, kn_sdm, kn_sub, kn_div, kn_nsdm, kn_lt, kn_eq, kn_pred, kn_m1, kn_m1', kn_a31, kn_shl, kn_shr, kn_bit, nB_0, nB_1, nB_t, nB_f, Nat.zero_add, Nat.add_zero, Nat.reduceAdd, Nat.reduceMul, Nat.reduceSub, Nat.reducePow]
    exact key
def s_thn (τ : JTn) (ω : JLw) (r : JRw) (k : Nat) : Int32 := if k = 0 then -nI 1 else nI (s_thm τ ω r k)
theorem s_thn_48 : s_thn τ ω r 48 = nI (s_shs τ ω (s_hrs τ ω r (s_arg (fun k => s_shs τ ω (s_hrs τ ω r k)) 48))) := by unfold s_thn; rw [if_neg (by decide), s_thm_48]
theorem m_thickest (hL : jLay t u l m b c h) (hQ : jQM I τ ω r) (w : Bool) : ∃ J, F_Mod_thickest 205 (nB w) (jz_I h I) = some (nI (s_thick τ ω r w), jz_I h J) ∧ jN I J := by
  have ho := hQ.1.2.1
  have o0 : τ 0 0 ≤ 9 := ho.1
  refine jE_i (fun P hP => ?_)
  have N0 := jN_0 hQ
  have key : jW (F_Mod_thickest_b20 205 (nB w) 205 (nI 0) (jz_I h (jU I 205 (jV (I 205) 0 (nI 0))))) P := by
    unfold F_Mod_thickest_b20
    simp (disch := omega) only [m_bad0 hL N0.2.2.2, ↓dK_205 hL, ↓dG_205 hL, ↓dP_205 hL, ↓dZ_205 hL (x := nI 0) (Or.inl rfl), ↓dZ_205 hL (x := nI 1) (Or.inr rfl), ↓dZ_205 hL (Or.inl rfl), ↓dZ_205 hL (Or.inr rfl), ↓dZ_205 hL (nB_01 _), ↓reduceIte, ↓kq_bi, ↓kq_let, ↓kq_rz0, ↓kq_rz1, ↓kq_rzB, ↓Option.bind_some, kq_dvn, kt_lt, kf_lt, kt_eq, kf_eq, decide_true, decide_false, eq_self, Bool.false_eq_true, Bool.true_eq_false, not_true_eq_false, not_false_eq_true, jU_eq, jU_ne, jU_U, jV_eq, jV_ne, jV_V, kn_lit, kn_add, kn_mul, kn_sdm, kn_sub, kn_div, kn_nsdm, kn_lt, kn_eq, kn_pred, kn_m1, kn_m1', kn_a31, kn_shl, kn_shr, kn_bit, nB_0, nB_1, nB_t, nB_f, Nat.zero_add, Nat.add_zero, Nat.reduceAdd, Nat.reduceMul, Nat.reduceSub, Nat.reducePow]
    refine jW_bn (m_trial hL hQ N0) (fun J hJ => ?_)
    refine jW_for0 (f := fun fuel k (J : Nat → Nat → Int32) => F_Mod_thickest_l41 fuel 205 (nB w) (nI (s_arg (fun k => s_shs τ ω (s_hrs τ ω r k)) k)) (s_thn τ ω r k) (nI k) (jz_I h J)) 48 (fun k J => (jN I J ∧ jMR J 692 (s_hrs τ ω r k))) J hJ (by omega) (fun n k J hk hV ih => ?_) (fun n J hV => ?_)
    · obtain ⟨v1, v2⟩ := hV
      obtain ⟨hq, -⟩ := s_hrs_ok (ω := ω) ho hQ.2.2.1 hQ.2.2.2 k (by omega)
      show jW (F_Mod_thickest_c41 (F_Mod_thickest_l41 n) 205 (nB w) (nI (s_arg (fun k => s_shs τ ω (s_hrs τ ω r k)) k)) (s_thn τ ω r k) (nI k) (jz_I h J)) P
      unfold F_Mod_thickest_c41
      simp (disch := omega) only [↓dK_205 hL, ↓dG_205 hL, ↓dP_205 hL, ↓dZ_205 hL (x := nI 0) (Or.inl rfl), ↓dZ_205 hL (x := nI 1) (Or.inr rfl), ↓dZ_205 hL (Or.inl rfl), ↓dZ_205 hL (Or.inr rfl), ↓dZ_205 hL (nB_01 _), ↓dR_205_36 hL, dI_692 hL, dS_692 hL, ↓reduceIte, ↓kq_bi, ↓kq_let, ↓kq_rz0, ↓kq_rz1, ↓kq_rzB, ↓Option.bind_some, kq_dvn, kt_lt, kf_lt, kt_eq, kf_eq, decide_true, decide_false, eq_self, Bool.false_eq_true, Bool.true_eq_false, not_true_eq_false, not_false_eq_true, jU_eq, jU_ne, jU_U, jV_eq, jV_ne, jV_V, kn_lit, kn_add, kn_mul, kn_sdm, kn_sub, kn_div, kn_nsdm, kn_lt, kn_eq, kn_pred, kn_m1, kn_m1', kn_a31, kn_shl, kn_shr, kn_bit, nB_0, nB_1, nB_t, nB_f, Nat.zero_add, Nat.add_zero, Nat.reduceAdd, Nat.reduceMul, Nat.reduceSub, Nat.reducePow]
      refine jW_bi (m_bitsT hL hQ v1 v2 hq) (fun J2 hJ2 => ?_)
      have b1 := s_shs_le (ω := ω) (q := s_hrs τ ω r k) ho
      have b2 := s_thm_le (ω := ω) (r := r) (k := k) ho
      have go : jW ((F_Mod_hourEnds 205 692 (jz_I h J2)).bind fun h2 => F_Mod_thickest_l41 n 205 (nB w) (nI (s_arg (fun k => s_shs τ ω (s_hrs τ ω r k)) (k + 1))) (s_thn τ ω r (k + 1)) (nI (k + 1)) h2) P := jW_bn (m_hourT hL hQ hJ2.1 hJ2.2 hq) (fun J3 hJ3 => ih _ hJ3)
      rw [show s_thn τ ω r (k + 1) = nI (s_thm τ ω r (k + 1)) from rfl, s_thm_s.1, s_thm_s.2] at go
      simp only [m_ones (s_bits_lt9 (s_sh τ ω false (s_hrs τ ω r k)) (n := τ 0 0) (by omega)), s_ones_bits (s_sh τ ω false (s_hrs τ ω r k)) (show τ 0 0 ≤ 10 by omega), kq_bi]
      rw [show s_cnt (s_sh τ ω false (s_hrs τ ω r k)) (τ 0 0) = s_shs τ ω (s_hrs τ ω r k) from rfl]
      by_cases hk0 : k = 0
      · subst hk0
        rw [show s_thn τ ω r 0 = -nI 1 from rfl]
        have m0 : s_thm τ ω r 0 = 0 := rfl
        have a0 : s_arg (fun k => s_shs τ ω (s_hrs τ ω r k)) 0 = 0 := rfl
        rw [m0, a0] at go
        rw [a0]
        have e1 : (if 0 < s_shs τ ω (s_hrs τ ω r 0) then 0 else 0) = 0 := by split <;> rfl
        have e2 : (if 0 < s_shs τ ω (s_hrs τ ω r 0) then s_shs τ ω (s_hrs τ ω r 0) else 0) = s_shs τ ω (s_hrs τ ω r 0) := by split <;> omega
        rw [e1, e2] at go
        simp (disch := omega) only [F_Mod_thickest_b73, kn_m1lt, ↓dK_205 hL, ↓dG_205 hL, ↓dP_205 hL, ↓dZ_205 hL (x := nI 0) (Or.inl rfl), ↓dZ_205 hL (x := nI 1) (Or.inr rfl), ↓dZ_205 hL (Or.inl rfl), ↓dZ_205 hL (Or.inr rfl), ↓dZ_205 hL (nB_01 _), ↓dR_205_36 hL, dI_692 hL, dS_692 hL, ↓reduceIte, ↓kq_bi, ↓kq_let, ↓kq_rz0, ↓kq_rz1, ↓kq_rzB, ↓Option.bind_some, kq_dvn, kt_lt, kf_lt, kt_eq, kf_eq, decide_true, decide_false, eq_self, Bool.false_eq_true, Bool.true_eq_false, not_true_eq_false, not_false_eq_true, jU_eq, jU_ne, jU_U, jV_eq, jV_ne, jV_V, kn_lit, kn_add, kn_mul, kn_sdm, kn_sub, kn_div, kn_nsdm, kn_lt, kn_eq, kn_pred, kn_m1, kn_m1', kn_a31, kn_shl, kn_shr, kn_bit, nB_0, nB_1, nB_t, nB_f, Nat.zero_add, Nat.add_zero, Nat.reduceAdd, Nat.reduceMul, Nat.reduceSub, Nat.reducePow]
        exact go
      · rw [show s_thn τ ω r k = nI (s_thm τ ω r k) from if_neg hk0]
        by_cases hc : s_thm τ ω r k < s_shs τ ω (s_hrs τ ω r k)
        · rw [if_pos hc, if_pos hc] at go
          simp (disch := omega) only [F_Mod_thickest_b73, ↓dK_205 hL, ↓dG_205 hL, ↓dP_205 hL, ↓dZ_205 hL (x := nI 0) (Or.inl rfl), ↓dZ_205 hL (x := nI 1) (Or.inr rfl), ↓dZ_205 hL (Or.inl rfl), ↓dZ_205 hL (Or.inr rfl), ↓dZ_205 hL (nB_01 _), ↓dR_205_36 hL, dI_692 hL, dS_692 hL, ↓reduceIte, ↓kq_bi, ↓kq_let, ↓kq_rz0, ↓kq_rz1, ↓kq_rzB, ↓Option.bind_some, kq_dvn, kt_lt, kf_lt, kt_eq, kf_eq, decide_true, decide_false, eq_self, Bool.false_eq_true, Bool.true_eq_false, not_true_eq_false, not_false_eq_true, jU_eq, jU_ne, jU_U, jV_eq, jV_ne, jV_V, kn_lit, kn_add, kn_mul, kn_sdm, kn_sub, kn_div, kn_nsdm, kn_lt, kn_eq, kn_pred, kn_m1, kn_m1', kn_a31, kn_shl, kn_shr, kn_bit, nB_0, nB_1, nB_t, nB_f, Nat.zero_add, Nat.add_zero, Nat.reduceAdd, Nat.reduceMul, Nat.reduceSub, Nat.reducePow]
          exact go
        · rw [if_neg hc, if_neg hc] at go
          simp (disch := omega) only [F_Mod_thickest_b73, ↓dK_205 hL, ↓dG_205 hL, ↓dP_205 hL, ↓dZ_205 hL (x := nI 0) (Or.inl rfl), ↓dZ_205 hL (x := nI 1) (Or.inr rfl), ↓dZ_205 hL (Or.inl rfl), ↓dZ_205 hL (Or.inr rfl), ↓dZ_205 hL (nB_01 _), ↓dR_205_36 hL, dI_692 hL, dS_692 hL, ↓reduceIte, ↓kq_bi, ↓kq_let, ↓kq_rz0, ↓kq_rz1, ↓kq_rzB, ↓Option.bind_some, kq_dvn, kt_lt, kf_lt, kt_eq, kf_eq, decide_true, decide_false, eq_self, Bool.false_eq_true, Bool.true_eq_false, not_true_eq_false, not_false_eq_true, jU_eq, jU_ne, jU_U, jV_eq, jV_ne, jV_V, kn_lit, kn_add, kn_mul, kn_sdm, kn_sub, kn_div, kn_nsdm, kn_lt, kn_eq, kn_pred, kn_m1, kn_m1', kn_a31, kn_shl, kn_shr, kn_bit, nB_0, nB_1, nB_t, nB_f, Nat.zero_add, Nat.add_zero, Nat.reduceAdd, Nat.reduceMul, Nat.reduceSub, Nat.reducePow]
          exact go
    · show jW (F_Mod_thickest_c41 (F_Mod_thickest_l41 n) 205 (nB w) (nI (s_arg (fun k => s_shs τ ω (s_hrs τ ω r k)) 48)) (s_thn τ ω r 48) (nI 48) (jz_I h J)) P
      rw [s_thn_48, ← s_thk_48]
      unfold F_Mod_thickest_c41
      have go := hP J hV.1
      unfold s_thick at go
      generalize s_thk τ ω r = kk at go ⊢
      generalize s_shs τ ω (s_hrs τ ω r kk) = mm at go ⊢
      cases w
      · rw [if_neg (by decide)] at go
        simp (disch := omega) only [F_Mod_thickest_b96, ↓reduceIte, ↓kq_bi, ↓kq_let, ↓kq_rz0, ↓kq_rz1, ↓kq_rzB, ↓Option.bind_some, kq_dvn, kt_lt, kf_lt, kt_eq, kf_eq, decide_true, decide_false, eq_self, Bool.false_eq_true, Bool.true_eq_false, not_true_eq_false, not_false_eq_true, jU_eq, jU_ne, jU_U, jV_eq, jV_ne, jV_V, kn_lit, kn_add, kn_mul, kn_sdm, kn_sub, kn_div, kn_nsdm, kn_lt, kn_eq, kn_pred, kn_m1, kn_m1', kn_a31, kn_shl, kn_shr, kn_bit, nB_0, nB_1, nB_t, nB_f, Nat.zero_add, Nat.add_zero, Nat.reduceAdd, Nat.reduceMul, Nat.reduceSub, Nat.reducePow]
        exact jW_s go
      · rw [if_pos rfl] at go
        simp (disch := omega) only [F_Mod_thickest_b96, ↓reduceIte, ↓kq_bi, ↓kq_let, ↓kq_rz0, ↓kq_rz1, ↓kq_rzB, ↓Option.bind_some, kq_dvn, kt_lt, kf_lt, kt_eq, kf_eq, decide_true, decide_false, eq_self, Bool.false_eq_true, Bool.true_eq_false, not_true_eq_false, not_false_eq_true, jU_eq, jU_ne, jU_U, jV_eq, jV_ne, jV_V, kn_lit, kn_add, kn_mul, kn_sdm, kn_sub, kn_div, kn_nsdm, kn_lt, kn_eq, kn_pred, kn_m1, kn_m1', kn_a31, kn_shl, kn_shr, kn_bit, nB_0, nB_1, nB_t, nB_f, Nat.zero_add, Nat.add_zero, Nat.reduceAdd, Nat.reduceMul, Nat.reduceSub, Nat.reducePow]
        exact jW_s go
  unfold F_Mod_thickest
  cases w
  · simp (disch := omega) only [m_in1, show nB false = nI 0 from rfl, ↓dK_205 hL, ↓dG_205 hL, ↓dP_205 hL, ↓dZ_205 hL (x := nI 0) (Or.inl rfl), ↓dZ_205 hL (x := nI 1) (Or.inr rfl), ↓dZ_205 hL (Or.inl rfl), ↓dZ_205 hL (Or.inr rfl), ↓dZ_205 hL (nB_01 _), ↓reduceIte, ↓kq_bi, ↓kq_let, ↓kq_rz0, ↓kq_rz1, ↓kq_rzB, ↓Option.bind_some, kq_dvn, kt_lt, kf_lt, kt_eq, kf_eq, decide_true, decide_false, eq_self, Bool.false_eq_true, Bool.true_eq_false, not_true_eq_false, not_false_eq_true, jU_eq, jU_ne, jU_U, jV_eq, jV_ne, jV_V, kn_lit, kn_add, kn_mul, kn_sdm, kn_sub, kn_div, kn_nsdm, kn_lt, kn_eq, kn_pred, kn_m1, kn_m1', kn_a31, kn_shl, kn_shr, kn_bit, nB_0, nB_1, nB_t, nB_f, Nat.zero_add, Nat.add_zero, Nat.reduceAdd, Nat.reduceMul, Nat.reduceSub, Nat.reducePow]
    exact key
  · simp (disch := omega) only [m_in1, show nB true = nI 1 from rfl, ↓dK_205 hL, ↓dG_205 hL, ↓dP_205 hL, ↓dZ_205 hL (x := nI 0) (Or.inl rfl), ↓dZ_205 hL (x := nI 1) (Or.inr rfl), ↓dZ_205 hL (Or.inl rfl), ↓dZ_205 hL (Or.inr rfl), ↓dZ_205 hL (nB_01 _), ↓reduceIte, ↓kq_bi, ↓kq_let, ↓kq_rz0, ↓kq_rz1, ↓kq_rzB, ↓Option.bind_some, kq_dvn, kt_lt, kf_lt, kt_eq, kf_eq, decide_true, decide_false, eq_self, Bool.false_eq_true, Bool.true_eq_false, not_true_eq_false, not_false_eq_true, jU_eq, jU_ne, jU_U, jV_eq, jV_ne, jV_V, kn_lit, kn_add, kn_mul, kn_sdm, kn_sub, kn_div, kn_nsdm, kn_lt, kn_eq, kn_pred, kn_m1, kn_m1', kn_a31, kn_shl, kn_shr, kn_bit, nB_0, nB_1, nB_t, nB_f, Nat.zero_add, Nat.add_zero, Nat.reduceAdd, Nat.reduceMul, Nat.reduceSub, Nat.reducePow]
    exact key
end

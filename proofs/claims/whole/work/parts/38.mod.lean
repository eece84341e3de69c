/-! PLAIN LEAN, 4: the reference: what stands where -/
section
variable {t u l m b c : Nat} {h : LH} {I : Nat → Nat → Int32} {τ : JTn} {r : JRw} {ρ i : Nat} {Q : Type} {x : Int32} {d : Bool}
theorem dI_R (hL : jLay t u l m b c h) (hρ : ρ = 691 ∨ ρ = 692) {K : Int32 → Option Q} (hi : i < 134) : jf_ia (jz_I h I) ρ (nI i) K = K (I ρ i) := by
  rcases hρ with rfl | rfl
  · exact dI_691 hL hi
  · exact dI_692 hL hi
theorem dS_R (hL : jLay t u l m b c h) (hρ : ρ = 691 ∨ ρ = 692) {K : LH → Option Q} (hi : i < 134) : jf_is (jz_I h I) ρ (nI i) x K = K (jz_I h (jU I ρ (jV (I ρ) i x))) := by
  rcases hρ with rfl | rfl
  · exact dS_691 hL hi
  · exact dS_692 hL hi
theorem s_wind_le (ho : jTOK τ) (hr : Nat) : s_wind τ hr ≤ 8 := by
  unfold s_wind
  split
  · omega
  · exact ho.2.2.2.2.2.2.2.2.1 _ (Nat.mod_lt hr (by omega))
theorem m_windIn (hL : jLay t u l m b c h) (hT : jMT I τ) (ho : jTOK τ) {hr : Nat} (hh : hr < 100000) : F_Mod_windIn 205 (nI hr) (jz_I h I) = some (nI (s_wind τ hr), jz_I h I) := by
  unfold F_Mod_windIn s_wind
  have o4 : τ 0 4 ≤ 24 := ho.2.2.2.2.1
  by_cases h0 : τ 0 4 = 0
  · simp (disch := omega) only [F_Mod_windIn_b26, hT.1, ↓dK_205 hL, ↓dG_205 hL, ↓dP_205 hL, ↓dR_205_12 hL, dI_209 hL, dS_209 hL, ↓dR_205_16 hL, dI_213 hL, dS_213 hL, ↓reduceIte, ↓kq_bi, ↓kq_let, ↓kq_rz0, ↓kq_rz1, ↓kq_rzB, ↓Option.bind_some, kq_dvn, kt_lt, kf_lt, kt_eq, kf_eq, jU_eq, jU_ne, jU_U, jV_eq, jV_ne, jV_V, kn_lit, kn_add, kn_mul, kn_sdm, kn_sub, kn_div, kn_nsdm, kn_lt, kn_eq, kn_pred, kn_m1, kn_m1', kn_a31, kn_shl, kn_shr, kn_bit, nB_0, nB_1, nB_t, nB_f, Nat.zero_add, Nat.add_zero, Nat.reduceAdd, Nat.reduceMul, Nat.reduceSub, Nat.reducePow]
  · have := Nat.mod_lt hr (by omega : 0 < τ 0 4)
    simp (disch := omega) only [F_Mod_windIn_b26, hT.1, hT.2.2.1, ↓dK_205 hL, ↓dG_205 hL, ↓dP_205 hL, ↓dR_205_12 hL, dI_209 hL, dS_209 hL, ↓dR_205_16 hL, dI_213 hL, dS_213 hL, ↓reduceIte, ↓kq_bi, ↓kq_let, ↓kq_rz0, ↓kq_rz1, ↓kq_rzB, ↓Option.bind_some, kq_dvn, kt_lt, kf_lt, kt_eq, kf_eq, jU_eq, jU_ne, jU_U, jV_eq, jV_ne, jV_V, kn_lit, kn_add, kn_mul, kn_sdm, kn_sub, kn_div, kn_nsdm, kn_lt, kn_eq, kn_pred, kn_m1, kn_m1', kn_a31, kn_shl, kn_shr, kn_bit, nB_0, nB_1, nB_t, nB_f, Nat.zero_add, Nat.add_zero, Nat.reduceAdd, Nat.reduceMul, Nat.reduceSub, Nat.reducePow]
theorem m_in {v lo hi : Nat} (h1 : v < 2147483648) (h2 : lo < 2147483648) (h3 : hi < 2147483648) (g : LH) : F_Mod_in (nI v) (nI lo) (nI hi) g = some (nB (decide (lo ≤ v ∧ v ≤ hi)), g) := by
  unfold F_Mod_in
  by_cases ha : v < lo
  · rw [decide_eq_false (show ¬ (lo ≤ v ∧ v ≤ hi) by omega)]
    simp (disch := omega) only [F_Mod_in_b15, F_Mod_in_b14, ↓reduceIte, ↓kq_bi, ↓kq_let, ↓kq_rz0, ↓kq_rz1, ↓kq_rzB, ↓Option.bind_some, kq_dvn, kt_lt, kf_lt, kt_eq, kf_eq, jU_eq, jU_ne, jU_U, jV_eq, jV_ne, jV_V, kn_lit, kn_add, kn_mul, kn_sdm, kn_sub, kn_div, kn_nsdm, kn_lt, kn_eq, kn_pred, kn_m1, kn_m1', kn_a31, kn_shl, kn_shr, kn_bit, nB_0, nB_1, nB_t, nB_f, Nat.zero_add, Nat.add_zero, Nat.reduceAdd, Nat.reduceMul, Nat.reduceSub, Nat.reducePow]
  · by_cases hb : hi < v
    · rw [decide_eq_false (show ¬ (lo ≤ v ∧ v ≤ hi) by omega)]
      simp (disch := omega) only [F_Mod_in_b15, F_Mod_in_b14, ↓reduceIte, ↓kq_bi, ↓kq_let, ↓kq_rz0, ↓kq_rz1, ↓kq_rzB, ↓Option.bind_some, kq_dvn, kt_lt, kf_lt, kt_eq, kf_eq, jU_eq, jU_ne, jU_U, jV_eq, jV_ne, jV_V, kn_lit, kn_add, kn_mul, kn_sdm, kn_sub, kn_div, kn_nsdm, kn_lt, kn_eq, kn_pred, kn_m1, kn_m1', kn_a31, kn_shl, kn_shr, kn_bit, nB_0, nB_1, nB_t, nB_f, Nat.zero_add, Nat.add_zero, Nat.reduceAdd, Nat.reduceMul, Nat.reduceSub, Nat.reducePow]
    · rw [decide_eq_true (show lo ≤ v ∧ v ≤ hi by omega)]
      simp (disch := omega) only [F_Mod_in_b15, F_Mod_in_b14, ↓reduceIte, ↓kq_bi, ↓kq_let, ↓kq_rz0, ↓kq_rz1, ↓kq_rzB, ↓Option.bind_some, kq_dvn, kt_lt, kf_lt, kt_eq, kf_eq, jU_eq, jU_ne, jU_U, jV_eq, jV_ne, jV_V, kn_lit, kn_add, kn_mul, kn_sdm, kn_sub, kn_div, kn_nsdm, kn_lt, kn_eq, kn_pred, kn_m1, kn_m1', kn_a31, kn_shl, kn_shr, kn_bit, nB_0, nB_1, nB_t, nB_f, Nat.zero_add, Nat.add_zero, Nat.reduceAdd, Nat.reduceMul, Nat.reduceSub, Nat.reducePow]
theorem m_standsBy (hL : jLay t u l m b c h) (hT : jMT I τ) (ho : jTOK τ) (hρ : ρ = 691 ∨ ρ = 692) (hR : jMR I ρ r) (hr : jROK τ r) {g k : Nat} (hg : g < τ 0 0) (hk : k ≤ 3) : F_Mod_standsBy 205 ρ (nI g) (nI k) (jz_I h I) = some (nI (s_stl τ r g k), jz_I h I) := by
  unfold F_Mod_standsBy s_stl
  have o0 : τ 0 0 ≤ 9 := ho.1
  have hw := s_wind_le ho (r 133)
  have hh : r 133 < 100000 := hr.2.2.2.2 133 (by omega)
  simp (disch := omega) only [dI_R hL hρ, hR 133, m_windIn hL hT ho hh, hT.1, ↓dK_205 hL, ↓dG_205 hL, ↓dP_205 hL, ↓dR_205_12 hL, dI_209 hL, dS_209 hL, ↓reduceIte, ↓kq_bi, ↓kq_let, ↓kq_rz0, ↓kq_rz1, ↓kq_rzB, ↓Option.bind_some, kq_dvn, kt_lt, kf_lt, kt_eq, kf_eq, jU_eq, jU_ne, jU_U, jV_eq, jV_ne, jV_V, kn_lit, kn_add, kn_mul, kn_sdm, kn_sub, kn_div, kn_nsdm, kn_lt, kn_eq, kn_pred, kn_m1, kn_m1', kn_a31, kn_shl, kn_shr, kn_bit, nB_0, nB_1, nB_t, nB_f, Nat.zero_add, Nat.add_zero, Nat.reduceAdd, Nat.reduceMul, Nat.reduceSub, Nat.reducePow]
theorem m_standsOf (hL : jLay t u l m b c h) (hT : jMT I τ) (ho : jTOK τ) (hρ : ρ = 691 ∨ ρ = 692) (hR : jMR I ρ r) (hr : jROK τ r) {g : Nat} (hg : g < τ 0 0) : F_Mod_standsOf 205 ρ (nI g) (jz_I h I) = some (nI (s_st τ r g), jz_I h I) := by
  unfold F_Mod_standsOf s_st
  have o0 : τ 0 0 ≤ 9 := ho.1
  have h3 : τ 1 g ≤ 3 := ho.2.2.2.2.2.2.1 g hg
  simp (disch := omega) only [hT.2.1, m_standsBy hL hT ho hρ hR hr hg h3, ↓dK_205 hL, ↓dG_205 hL, ↓dP_205 hL, ↓dR_205_14 hL, dI_211 hL, dS_211 hL, ↓reduceIte, ↓kq_bi, ↓kq_let, ↓kq_rz0, ↓kq_rz1, ↓kq_rzB, ↓Option.bind_some, kq_dvn, kt_lt, kf_lt, kt_eq, kf_eq, jU_eq, jU_ne, jU_U, jV_eq, jV_ne, jV_V, kn_lit, kn_add, kn_mul, kn_sdm, kn_sub, kn_div, kn_nsdm, kn_lt, kn_eq, kn_pred, kn_m1, kn_m1', kn_a31, kn_shl, kn_shr, kn_bit, nB_0, nB_1, nB_t, nB_f, Nat.zero_add, Nat.add_zero, Nat.reduceAdd, Nat.reduceMul, Nat.reduceSub, Nat.reducePow]
theorem m_isRain (hL : jLay t u l m b c h) (hT : jMT I τ) (ho : jTOK τ) (hd : I 205 44 = nB d) {hr : Nat} (hh : hr < 100000) : F_Mod_isRain 205 (nI hr) (jz_I h I) = some (nB (s_rain τ d hr), jz_I h I) := by
  have o5 : τ 0 5 ≤ 6 := ho.2.2.2.2.2.1
  have key : ∀ (fuel k : Nat), k ≤ τ 0 5 → τ 0 5 - k < fuel → s_any (fun k => decide (τ 7 k ≤ hr ∧ hr ≤ τ 8 k)) k = false → F_Mod_isRain_l2 fuel 205 (nI hr) (nI k) (jz_I h I) = some (nB (s_rain τ d hr), jz_I h I) := by
    intro fuel
    induction fuel with
    | zero => intro k _ h; omega
    | succ n ih =>
      intro k hk hf ha
      show F_Mod_isRain_c2 (F_Mod_isRain_l2 n) 205 (nI hr) (nI k) (jz_I h I) = _
      unfold F_Mod_isRain_c2
      by_cases hl : k < τ 0 5
      · obtain ⟨h7, h8⟩ := ho.2.2.2.2.2.2.2.2.2.1 k hl
        simp (disch := omega) only [hT.1, hT.2.2.2.2.2.2, m_in, ↓dK_205 hL, ↓dG_205 hL, ↓dP_205 hL, ↓dR_205_12 hL, dI_209 hL, dS_209 hL, ↓dR_205_24 hL, dA_259 hL, dI_260 hL, dS_260 hL, ↓reduceIte, ↓kq_bi, ↓kq_let, ↓kq_rz0, ↓kq_rz1, ↓kq_rzB, ↓Option.bind_some, kq_dvn, kt_lt, kf_lt, kt_eq, kf_eq, jU_eq, jU_ne, jU_U, jV_eq, jV_ne, jV_V, kn_lit, kn_add, kn_mul, kn_sdm, kn_sub, kn_div, kn_nsdm, kn_lt, kn_eq, kn_pred, kn_m1, kn_m1', kn_a31, kn_shl, kn_shr, kn_bit, nB_0, nB_1, nB_t, nB_f, Nat.zero_add, Nat.add_zero, Nat.reduceAdd, Nat.reduceMul, Nat.reduceSub, Nat.reducePow]
        by_cases hin : τ 7 k ≤ hr ∧ hr ≤ τ 8 k
        · have : s_rain τ d hr = true := by
            unfold s_rain
            rw [Bool.or_eq_true]
            exact Or.inl (s_any_true.mpr ⟨k, hl, decide_eq_true hin⟩)
          simp only [this, hin, and_self, decide_true, Bool.true_eq_false, ↓reduceIte, kq_rz1, nB_t]
        · simp only [hin, decide_false, ↓reduceIte]
          refine ih (k + 1) hl (by omega) ?_
          show (s_any _ k || _) = false
          rw [ha, Bool.false_or]
          exact decide_eq_false hin
      · have hk' : k = τ 0 5 := by omega
        subst hk'
        unfold s_rain
        simp (disch := omega) only [hT.1, hd, ha, Bool.false_or, ↓dK_205 hL, ↓dG_205 hL, ↓dP_205 hL, ↓dR_205_12 hL, dI_209 hL, dS_209 hL, ↓reduceIte, ↓kq_bi, ↓kq_let, ↓kq_rz0, ↓kq_rz1, ↓kq_rzB, ↓Option.bind_some, kq_dvn, kt_lt, kf_lt, kt_eq, kf_eq, jU_eq, jU_ne, jU_U, jV_eq, jV_ne, jV_V, kn_lit, kn_add, kn_mul, kn_sdm, kn_sub, kn_div, kn_nsdm, kn_lt, kn_eq, kn_pred, kn_m1, kn_m1', kn_a31, kn_shl, kn_shr, kn_bit, nB_0, nB_1, nB_t, nB_f, Nat.zero_add, Nat.add_zero, Nat.reduceAdd, Nat.reduceMul, Nat.reduceSub, Nat.reducePow]
  unfold F_Mod_isRain
  exact key jF 0 (by omega) (by show _ < 1000; omega) rfl
theorem s_th_le (ho : jTOK τ) {w : Nat} (hw : w < τ 0 1) : s_th τ d r w ≤ 20 := by
  unfold s_th
  have := (ho.2.2.2.2.2.2.2.1 w hw).2.1
  split
  · omega
  · omega
theorem s_smf_le (ho : jTOK τ) (hr : jROK τ r) {g : Nat} (hg : g < 9) : s_smf τ d r g ≤ 120 := by
  unfold s_smf
  have h1 := hr.1 g hg
  have := s_sum_le (f := fun k => s_th τ d r (r (6 * g + k))) (c := 20) (r (108 + g)) (fun k hk => s_th_le ho (hr.2.1 g k hg hk).1)
  omega
theorem m_smokeFrom (hL : jLay t u l m b c h) (hT : jMT I τ) (ho : jTOK τ) (hd : I 205 44 = nB d) (hρ : ρ = 691 ∨ ρ = 692) (hR : jMR I ρ r) (hr : jROK τ r) {g : Nat} (hg : g < τ 0 0) : F_Mod_smokeFrom 205 ρ (nI g) (jz_I h I) = some (nI (s_smf τ d r g), jz_I h I) := by
  unfold F_Mod_smokeFrom
  have o0 : τ 0 0 ≤ 9 := ho.1
  have o1 : τ 0 1 ≤ 6 := ho.2.1
  have h6 := hr.1 g (by omega)
  have hh : r 133 < 100000 := hr.2.2.2.2 133 (by omega)
  refine jz_for (fun fuel k s => F_Mod_smokeFrom_l5 fuel 205 ρ (nI g) (nI s) (nI k) (jz_I h I)) (r (108 + g)) (fun k => s_sum (fun k => s_th τ d r (r (6 * g + k))) k) _ (fun n k hk => ?_) (fun n => ?_) jF (by show _ < 1000; omega)
  · show F_Mod_smokeFrom_c5 (F_Mod_smokeFrom_l5 n) 205 ρ (nI g) _ (nI k) (jz_I h I) = _
    unfold F_Mod_smokeFrom_c5
    have hw := (hr.2.1 g k (by omega) hk).1
    obtain ⟨a1, a2, -⟩ := ho.2.2.2.2.2.2.2.1 _ hw
    have hs := s_sum_le (f := fun k => s_th τ d r (r (6 * g + k))) (c := 20) k (fun j hj => s_th_le ho (hr.2.1 g j (by omega) (by omega)).1)
    show _ = F_Mod_smokeFrom_l5 n 205 ρ (nI g) (nI (s_sum (fun k => s_th τ d r (r (6 * g + k))) k + s_th τ d r (r (6 * g + k)))) (nI (k + 1)) (jz_I h I)
    simp (disch := omega) only [dI_R hL hρ, hR (108 + g), hR (6 * g + k), hR 133, hT.2.2.2.2.1, m_isRain hL hT ho hd hh, F_Mod_smokeFrom_b52, ↓dK_205 hL, ↓dG_205 hL, ↓dP_205 hL, ↓dR_205_20 hL, dA_223 hL, dI_224 hL, dS_224 hL, ↓reduceIte, ↓kq_bi, ↓kq_let, ↓kq_rz0, ↓kq_rz1, ↓kq_rzB, ↓Option.bind_some, kq_dvn, kt_lt, kf_lt, kt_eq, kf_eq, jU_eq, jU_ne, jU_U, jV_eq, jV_ne, jV_V, kn_lit, kn_add, kn_mul, kn_sdm, kn_sub, kn_div, kn_nsdm, kn_lt, kn_eq, kn_pred, kn_m1, kn_m1', kn_a31, kn_shl, kn_shr, kn_bit, nB_0, nB_1, nB_t, nB_f, Nat.zero_add, Nat.add_zero, Nat.reduceAdd, Nat.reduceMul, Nat.reduceSub, Nat.reducePow]
    unfold s_th
    cases s_rain τ d (r 133)
    · simp (disch := omega) only [Nat.div_one, Bool.false_eq_true, ↓reduceIte, ↓kq_bi, ↓kq_let, ↓kq_rz0, ↓kq_rz1, ↓kq_rzB, ↓Option.bind_some, kq_dvn, kt_lt, kf_lt, kt_eq, kf_eq, jU_eq, jU_ne, jU_U, jV_eq, jV_ne, jV_V, kn_lit, kn_add, kn_mul, kn_sdm, kn_sub, kn_div, kn_nsdm, kn_lt, kn_eq, kn_pred, kn_m1, kn_m1', kn_a31, kn_shl, kn_shr, kn_bit, nB_0, nB_1, nB_t, nB_f, Nat.zero_add, Nat.add_zero, Nat.reduceAdd, Nat.reduceMul, Nat.reduceSub, Nat.reducePow]
    · simp (disch := omega) only [Bool.true_eq_false, ↓reduceIte, ↓kq_bi, ↓kq_let, ↓kq_rz0, ↓kq_rz1, ↓kq_rzB, ↓Option.bind_some, kq_dvn, kt_lt, kf_lt, kt_eq, kf_eq, jU_eq, jU_ne, jU_U, jV_eq, jV_ne, jV_V, kn_lit, kn_add, kn_mul, kn_sdm, kn_sub, kn_div, kn_nsdm, kn_lt, kn_eq, kn_pred, kn_m1, kn_m1', kn_a31, kn_shl, kn_shr, kn_bit, nB_0, nB_1, nB_t, nB_f, Nat.zero_add, Nat.add_zero, Nat.reduceAdd, Nat.reduceMul, Nat.reduceSub, Nat.reducePow]
  · show F_Mod_smokeFrom_c5 (F_Mod_smokeFrom_l5 n) 205 ρ (nI g) _ (nI (r (108 + g))) (jz_I h I) = _
    unfold F_Mod_smokeFrom_c5
    simp (disch := omega) only [dI_R hL hρ, hR (108 + g), ↓reduceIte, ↓kq_bi, ↓kq_let, ↓kq_rz0, ↓kq_rz1, ↓kq_rzB, ↓Option.bind_some, kq_dvn, kt_lt, kf_lt, kt_eq, kf_eq, jU_eq, jU_ne, jU_U, jV_eq, jV_ne, jV_V, kn_lit, kn_add, kn_mul, kn_sdm, kn_sub, kn_div, kn_nsdm, kn_lt, kn_eq, kn_pred, kn_m1, kn_m1', kn_a31, kn_shl, kn_shr, kn_bit, nB_0, nB_1, nB_t, nB_f, Nat.zero_add, Nat.add_zero, Nat.reduceAdd, Nat.reduceMul, Nat.reduceSub, Nat.reducePow]
    rfl
end

/-! PLAIN LEAN, 5: the reference: smoke, scent, shut -/
section
variable {t u l m b c : Nat} {h : LH} {I : Nat → Nat → Int32} {τ : JTn} {r : JRw} {ρ i : Nat} {Q : Type} {x : Int32} {d : Bool} {ω : JLw}
theorem jz_forI {S R : Type} (f : Nat → Nat → S → R) (N : Nat) (st : Nat → S) (r : R) {s0 : S} (h0 : s0 = st 0) (hs : ∀ n k, k < N → f (n + 1) k (st k) = f n (k + 1) (st (k + 1))) (he : ∀ n, f (n + 1) N (st N) = r) (fuel : Nat) (hf : N < fuel) : f fuel 0 s0 = r := by
  rw [h0]
  exact jz_for f N st r hs he fuel hf
theorem s_st_lt (ho : jTOK τ) (r : JRw) {g k : Nat} (hg : 0 < τ 0 0) : s_stl τ r g k < τ 0 0 := Nat.mod_lt _ hg
theorem s_sma_le (ho : jTOK τ) (hr : jROK τ r) {g : Nat} : s_sma τ d r g ≤ 1080 := by
  unfold s_sma
  have o0 : τ 0 0 ≤ 9 := ho.1
  have := s_sum_le (f := fun x => if s_st τ r x = g then s_smf τ d r x else 0) (c := 120) (τ 0 0) (fun k hk => by
    show (if s_st τ r k = g then s_smf τ d r k else 0) ≤ 120
    split
    · exact s_smf_le ho hr (by omega)
    · omega)
  omega
theorem m_smokeAt (hL : jLay t u l m b c h) (hT : jMT I τ) (ho : jTOK τ) (hd : I 205 44 = nB d) (hρ : ρ = 691 ∨ ρ = 692) (hR : jMR I ρ r) (hr : jROK τ r) {g : Nat} (hg : g < τ 0 0) : F_Mod_smokeAt 205 ρ (nI g) (jz_I h I) = some (nI (s_sma τ d r g), jz_I h I) := by
  unfold F_Mod_smokeAt
  have o0 : τ 0 0 ≤ 9 := ho.1
  refine jz_for (fun fuel k s => F_Mod_smokeAt_l5 fuel 205 ρ (nI g) (nI s) (nI k) (jz_I h I)) (τ 0 0) (fun k => s_sum (fun x => if s_st τ r x = g then s_smf τ d r x else 0) k) _ (fun n k hk => ?_) (fun n => ?_) jF (by show _ < 1000; omega)
  · show F_Mod_smokeAt_c5 (F_Mod_smokeAt_l5 n) 205 ρ (nI g) _ (nI k) (jz_I h I) = F_Mod_smokeAt_l5 n 205 ρ (nI g) (nI (s_sum (fun x => if s_st τ r x = g then s_smf τ d r x else 0) k + if s_st τ r k = g then s_smf τ d r k else 0)) (nI (k + 1)) (jz_I h I)
    unfold F_Mod_smokeAt_c5
    have hs := s_st_lt ho r (g := k) (k := τ 1 k) (by omega)
    have hs' : s_st τ r k < 9 := by unfold s_st; omega
    simp (disch := omega) only [hT.1, m_standsOf hL hT ho hρ hR hr hk, m_smokeFrom hL hT ho hd hρ hR hr hk, F_Mod_smokeAt_b39, ↓dK_205 hL, ↓dG_205 hL, ↓dP_205 hL, ↓dR_205_12 hL, dI_209 hL, dS_209 hL, ↓reduceIte, ↓kq_bi, ↓kq_let, ↓kq_rz0, ↓kq_rz1, ↓kq_rzB, ↓Option.bind_some, kq_dvn, kt_lt, kf_lt, kt_eq, kf_eq, jU_eq, jU_ne, jU_U, jV_eq, jV_ne, jV_V, kn_lit, kn_add, kn_mul, kn_sdm, kn_sub, kn_div, kn_nsdm, kn_lt, kn_eq, kn_pred, kn_m1, kn_m1', kn_a31, kn_shl, kn_shr, kn_bit, nB_0, nB_1, nB_t, nB_f, Nat.zero_add, Nat.add_zero, Nat.reduceAdd, Nat.reduceMul, Nat.reduceSub, Nat.reducePow]
    by_cases hc : s_st τ r k = g
    · simp (disch := omega) only [↓reduceIte, ↓kq_bi, ↓kq_let, ↓kq_rz0, ↓kq_rz1, ↓kq_rzB, ↓Option.bind_some, kq_dvn, kt_lt, kf_lt, kt_eq, kf_eq, jU_eq, jU_ne, jU_U, jV_eq, jV_ne, jV_V, kn_lit, kn_add, kn_mul, kn_sdm, kn_sub, kn_div, kn_nsdm, kn_lt, kn_eq, kn_pred, kn_m1, kn_m1', kn_a31, kn_shl, kn_shr, kn_bit, nB_0, nB_1, nB_t, nB_f, Nat.zero_add, Nat.add_zero, Nat.reduceAdd, Nat.reduceMul, Nat.reduceSub, Nat.reducePow]
    · simp (disch := omega) only [↓reduceIte, ↓kq_bi, ↓kq_let, ↓kq_rz0, ↓kq_rz1, ↓kq_rzB, ↓Option.bind_some, kq_dvn, kt_lt, kf_lt, kt_eq, kf_eq, jU_eq, jU_ne, jU_U, jV_eq, jV_ne, jV_V, kn_lit, kn_add, kn_mul, kn_sdm, kn_sub, kn_div, kn_nsdm, kn_lt, kn_eq, kn_pred, kn_m1, kn_m1', kn_a31, kn_shl, kn_shr, kn_bit, nB_0, nB_1, nB_t, nB_f, Nat.zero_add, Nat.add_zero, Nat.reduceAdd, Nat.reduceMul, Nat.reduceSub, Nat.reducePow]
  · show F_Mod_smokeAt_c5 (F_Mod_smokeAt_l5 n) 205 ρ (nI g) _ (nI (τ 0 0)) (jz_I h I) = _
    unfold F_Mod_smokeAt_c5
    simp (disch := omega) only [hT.1, ↓dK_205 hL, ↓dG_205 hL, ↓dP_205 hL, ↓dR_205_12 hL, dI_209 hL, dS_209 hL, ↓reduceIte, ↓kq_bi, ↓kq_let, ↓kq_rz0, ↓kq_rz1, ↓kq_rzB, ↓Option.bind_some, kq_dvn, kt_lt, kf_lt, kt_eq, kf_eq, jU_eq, jU_ne, jU_U, jV_eq, jV_ne, jV_V, kn_lit, kn_add, kn_mul, kn_sdm, kn_sub, kn_div, kn_nsdm, kn_lt, kn_eq, kn_pred, kn_m1, kn_m1', kn_a31, kn_shl, kn_shr, kn_bit, nB_0, nB_1, nB_t, nB_f, Nat.zero_add, Nat.add_zero, Nat.reduceAdd, Nat.reduceMul, Nat.reduceSub, Nat.reducePow]
    rfl
theorem m_scentAt (hL : jLay t u l m b c h) (hT : jMT I τ) (ho : jTOK τ) (hρ : ρ = 691 ∨ ρ = 692) (hR : jMR I ρ r) (hr : jROK τ r) {g : Nat} (hg : g < τ 0 0) : F_Mod_scentAt 205 ρ (nI g) (jz_I h I) = some (nI (s_sca τ r g), jz_I h I) := by
  unfold F_Mod_scentAt
  have o0 : τ 0 0 ≤ 9 := ho.1
  have o1 : τ 0 1 ≤ 6 := ho.2.1
  refine jz_for (fun fuel k s => F_Mod_scentAt_l5 fuel 205 ρ (nI g) (nI s) (nI k) (jz_I h I)) (τ 0 0) (fun k => s_or (s_scx τ r g) k) _ (fun n x hx => ?_) (fun n => ?_) jF (by show _ < 1000; omega)
  · show F_Mod_scentAt_c5 (F_Mod_scentAt_l5 n) 205 ρ (nI g) _ (nI x) (jz_I h I) = F_Mod_scentAt_l5 n 205 ρ (nI g) (nI (s_or (s_scx τ r g) x ||| s_scx τ r g x)) (nI (x + 1)) (jz_I h I)
    unfold F_Mod_scentAt_c5
    simp (disch := omega) only [hT.1, ↓dK_205 hL, ↓dG_205 hL, ↓dP_205 hL, ↓dR_205_12 hL, dI_209 hL, dS_209 hL, ↓reduceIte, ↓kq_bi, ↓kq_let, ↓kq_rz0, ↓kq_rz1, ↓kq_rzB, ↓Option.bind_some, kq_dvn, kt_lt, kf_lt, kt_eq, kf_eq, jU_eq, jU_ne, jU_U, jV_eq, jV_ne, jV_V, kn_lit, kn_add, kn_mul, kn_sdm, kn_sub, kn_div, kn_nsdm, kn_lt, kn_eq, kn_pred, kn_m1, kn_m1', kn_a31, kn_shl, kn_shr, kn_bit, nB_0, nB_1, nB_t, nB_f, Nat.zero_add, Nat.add_zero, Nat.reduceAdd, Nat.reduceMul, Nat.reduceSub, Nat.reducePow]
    have h6 := hr.1 x (by omega)
    have hs' : s_st τ r x < 9 := by have := s_st_lt ho r (g := x) (k := τ 1 x) (by omega); unfold s_st; omega
    refine jz_forI (fun fuel k s => F_Mod_scentAt_l19 (F_Mod_scentAt_l5 n) fuel 205 ρ (nI g) (nI s) (nI x) (nI k) (jz_I h I)) (r (108 + x)) (fun k => s_or (s_scx τ r g) x ||| s_or (fun k => if s_st τ r x = g then τ 4 (r (6 * x + k)) else 0) k) _ (s0 := s_or (s_scx τ r g) x) (Nat.or_zero _).symm (fun n' k hk => ?_) (fun n' => ?_) jF (by show _ < 1000; omega)
    · show F_Mod_scentAt_c19 (F_Mod_scentAt_l5 n) (F_Mod_scentAt_l19 (F_Mod_scentAt_l5 n) n') 205 ρ (nI g) _ (nI x) (nI k) (jz_I h I) = F_Mod_scentAt_l19 (F_Mod_scentAt_l5 n) n' 205 ρ (nI g) (nI (s_or (s_scx τ r g) x ||| (s_or (fun k => if s_st τ r x = g then τ 4 (r (6 * x + k)) else 0) k ||| if s_st τ r x = g then τ 4 (r (6 * x + k)) else 0))) (nI x) (nI (k + 1)) (jz_I h I)
      unfold F_Mod_scentAt_c19
      have hw := (hr.2.1 x k (by omega) hk).1
      simp (disch := omega) only [dI_R hL hρ, hR (108 + x), hR (6 * x + k), m_standsOf hL hT ho hρ hR hr hx, hT.2.2.2.2.1, F_Mod_scentAt_b66, kn_or, ↓dK_205 hL, ↓dG_205 hL, ↓dP_205 hL, ↓dR_205_20 hL, dA_223 hL, dI_224 hL, dS_224 hL, ↓reduceIte, ↓kq_bi, ↓kq_let, ↓kq_rz0, ↓kq_rz1, ↓kq_rzB, ↓Option.bind_some, kq_dvn, kt_lt, kf_lt, kt_eq, kf_eq, jU_eq, jU_ne, jU_U, jV_eq, jV_ne, jV_V, kn_lit, kn_add, kn_mul, kn_sdm, kn_sub, kn_div, kn_nsdm, kn_lt, kn_eq, kn_pred, kn_m1, kn_m1', kn_a31, kn_shl, kn_shr, kn_bit, nB_0, nB_1, nB_t, nB_f, Nat.zero_add, Nat.add_zero, Nat.reduceAdd, Nat.reduceMul, Nat.reduceSub, Nat.reducePow]
      by_cases hc : s_st τ r x = g
      · simp (disch := omega) only [Nat.or_assoc, ↓reduceIte, ↓kq_bi, ↓kq_let, ↓kq_rz0, ↓kq_rz1, ↓kq_rzB, ↓Option.bind_some, kq_dvn, kt_lt, kf_lt, kt_eq, kf_eq, jU_eq, jU_ne, jU_U, jV_eq, jV_ne, jV_V, kn_lit, kn_add, kn_mul, kn_sdm, kn_sub, kn_div, kn_nsdm, kn_lt, kn_eq, kn_pred, kn_m1, kn_m1', kn_a31, kn_shl, kn_shr, kn_bit, nB_0, nB_1, nB_t, nB_f, Nat.zero_add, Nat.add_zero, Nat.reduceAdd, Nat.reduceMul, Nat.reduceSub, Nat.reducePow]
      · simp (disch := omega) only [Nat.or_zero, ↓reduceIte, ↓kq_bi, ↓kq_let, ↓kq_rz0, ↓kq_rz1, ↓kq_rzB, ↓Option.bind_some, kq_dvn, kt_lt, kf_lt, kt_eq, kf_eq, jU_eq, jU_ne, jU_U, jV_eq, jV_ne, jV_V, kn_lit, kn_add, kn_mul, kn_sdm, kn_sub, kn_div, kn_nsdm, kn_lt, kn_eq, kn_pred, kn_m1, kn_m1', kn_a31, kn_shl, kn_shr, kn_bit, nB_0, nB_1, nB_t, nB_f, Nat.zero_add, Nat.add_zero, Nat.reduceAdd, Nat.reduceMul, Nat.reduceSub, Nat.reducePow]
    · show F_Mod_scentAt_c19 (F_Mod_scentAt_l5 n) (F_Mod_scentAt_l19 (F_Mod_scentAt_l5 n) n') 205 ρ (nI g) _ (nI x) (nI (r (108 + x))) (jz_I h I) = _
      unfold F_Mod_scentAt_c19
      simp (disch := omega) only [dI_R hL hρ, hR (108 + x), ↓reduceIte, ↓kq_bi, ↓kq_let, ↓kq_rz0, ↓kq_rz1, ↓kq_rzB, ↓Option.bind_some, kq_dvn, kt_lt, kf_lt, kt_eq, kf_eq, jU_eq, jU_ne, jU_U, jV_eq, jV_ne, jV_V, kn_lit, kn_add, kn_mul, kn_sdm, kn_sub, kn_div, kn_nsdm, kn_lt, kn_eq, kn_pred, kn_m1, kn_m1', kn_a31, kn_shl, kn_shr, kn_bit, nB_0, nB_1, nB_t, nB_f, Nat.zero_add, Nat.add_zero, Nat.reduceAdd, Nat.reduceMul, Nat.reduceSub, Nat.reducePow]
      rfl
  · show F_Mod_scentAt_c5 (F_Mod_scentAt_l5 n) 205 ρ (nI g) _ (nI (τ 0 0)) (jz_I h I) = _
    unfold F_Mod_scentAt_c5
    simp (disch := omega) only [hT.1, ↓dK_205 hL, ↓dG_205 hL, ↓dP_205 hL, ↓dR_205_12 hL, dI_209 hL, dS_209 hL, ↓reduceIte, ↓kq_bi, ↓kq_let, ↓kq_rz0, ↓kq_rz1, ↓kq_rzB, ↓Option.bind_some, kq_dvn, kt_lt, kf_lt, kt_eq, kf_eq, jU_eq, jU_ne, jU_U, jV_eq, jV_ne, jV_V, kn_lit, kn_add, kn_mul, kn_sdm, kn_sub, kn_div, kn_nsdm, kn_lt, kn_eq, kn_pred, kn_m1, kn_m1', kn_a31, kn_shl, kn_shr, kn_bit, nB_0, nB_1, nB_t, nB_f, Nat.zero_add, Nat.add_zero, Nat.reduceAdd, Nat.reduceMul, Nat.reduceSub, Nat.reducePow]
    rfl
theorem s_sca_le (ho : jTOK τ) (hr : jROK τ r) {g : Nat} : s_sca τ r g < 32 := by
  unfold s_sca
  have o0 : τ 0 0 ≤ 9 := ho.1
  refine s_or_lt (w := 5) _ (fun x hx => ?_)
  unfold s_scx
  refine s_or_lt (w := 5) _ (fun k hk => ?_)
  have := (ho.2.2.2.2.2.2.2.1 _ (hr.2.1 x k (by omega) hk).1).2.2.2.2.1
  show (if s_st τ r x = g then τ 4 (r (6 * x + k)) else 0) < 2 ^ 5
  split <;> omega
/-- what a law's step joins -/
theorem s_div1 (u : Int32) : u / -nI 1 = -u := by
  apply kn_bvinj
  rw [Int32.toBitVec_div, Int32.toBitVec_neg, Int32.toBitVec_neg, show (nI 1).toBitVec = 1#32 from rfl, BitVec.sdiv_neg (by decide), BitVec.sdiv_one]
theorem m_by {w : Nat} (hw : 2 ≤ w) (hw7 : w ≤ 7) (x y : Int32) (g : LH) : F_Mod_by (nI w) x y g = some (s_by w x y, g) := by
  unfold F_Mod_by s_by
  have e : w = 2 ∨ w = 3 ∨ w = 4 ∨ w = 5 ∨ w = 6 ∨ w = 7 := by omega
  rcases e with rfl | rfl | rfl | rfl | rfl | rfl
  · simp (disch := omega) only [↓reduceIte, ↓kq_bi, ↓kq_let, ↓kq_rz0, ↓kq_rz1, ↓kq_rzB, ↓Option.bind_some, kq_dvn, kt_lt, kf_lt, kt_eq, kf_eq, jU_eq, jU_ne, jU_U, jV_eq, jV_ne, jV_V, kn_lit, kn_add, kn_mul, kn_sdm, kn_sub, kn_div, kn_nsdm, kn_lt, kn_eq, kn_pred, kn_m1, kn_m1', kn_a31, kn_shl, kn_shr, kn_bit, nB_0, nB_1, nB_t, nB_f, Nat.zero_add, Nat.add_zero, Nat.reduceAdd, Nat.reduceMul, Nat.reduceSub, Nat.reducePow]
  · simp (disch := omega) only [↓reduceIte, ↓kq_bi, ↓kq_let, ↓kq_rz0, ↓kq_rz1, ↓kq_rzB, ↓Option.bind_some, kq_dvn, kt_lt, kf_lt, kt_eq, kf_eq, jU_eq, jU_ne, jU_U, jV_eq, jV_ne, jV_V, kn_lit, kn_add, kn_mul, kn_sdm, kn_sub, kn_div, kn_nsdm, kn_lt, kn_eq, kn_pred, kn_m1, kn_m1', kn_a31, kn_shl, kn_shr, kn_bit, nB_0, nB_1, nB_t, nB_f, Nat.zero_add, Nat.add_zero, Nat.reduceAdd, Nat.reduceMul, Nat.reduceSub, Nat.reducePow]
  · simp (disch := omega) only [↓reduceIte, ↓kq_bi, ↓kq_let, ↓kq_rz0, ↓kq_rz1, ↓kq_rzB, ↓Option.bind_some, kq_dvn, kt_lt, kf_lt, kt_eq, kf_eq, jU_eq, jU_ne, jU_U, jV_eq, jV_ne, jV_V, kn_lit, kn_add, kn_mul, kn_sdm, kn_sub, kn_div, kn_nsdm, kn_lt, kn_eq, kn_pred, kn_m1, kn_m1', kn_a31, kn_shl, kn_shr, kn_bit, nB_0, nB_1, nB_t, nB_f, Nat.zero_add, Nat.add_zero, Nat.reduceAdd, Nat.reduceMul, Nat.reduceSub, Nat.reducePow]
  · simp (disch := omega) only [F_Mod_by_b69, ↓reduceIte, ↓kq_bi, ↓kq_let, ↓kq_rz0, ↓kq_rz1, ↓kq_rzB, ↓Option.bind_some, kq_dvn, kt_lt, kf_lt, kt_eq, kf_eq, jU_eq, jU_ne, jU_U, jV_eq, jV_ne, jV_V, kn_lit, kn_add, kn_mul, kn_sdm, kn_sub, kn_div, kn_nsdm, kn_lt, kn_eq, kn_pred, kn_m1, kn_m1', kn_a31, kn_shl, kn_shr, kn_bit, nB_0, nB_1, nB_t, nB_f, Nat.zero_add, Nat.add_zero, Nat.reduceAdd, Nat.reduceMul, Nat.reduceSub, Nat.reducePow]
    by_cases h0 : y = nI 0
    · simp only [h0, ↓reduceIte, eq_self]
    · by_cases h1 : y = -nI 1
      · subst h1
        simp only [h0, ↓reduceIte, eq_self, s_div1]
      · simp only [h0, h1, ↓reduceIte, eq_self, jf_dv, kn_lit]
  · unfold F_Mod_less
    simp (disch := omega) only [F_Mod_less_b10, ↓reduceIte, ↓kq_bi, ↓kq_let, ↓kq_rz0, ↓kq_rz1, ↓kq_rzB, ↓Option.bind_some, kq_dvn, kt_lt, kf_lt, kt_eq, kf_eq, jU_eq, jU_ne, jU_U, jV_eq, jV_ne, jV_V, kn_lit, kn_add, kn_mul, kn_sdm, kn_sub, kn_div, kn_nsdm, kn_lt, kn_eq, kn_pred, kn_m1, kn_m1', kn_a31, kn_shl, kn_shr, kn_bit, nB_0, nB_1, nB_t, nB_f, Nat.zero_add, Nat.add_zero, Nat.reduceAdd, Nat.reduceMul, Nat.reduceSub, Nat.reducePow]
    by_cases hc : x < y
    · simp only [hc, ↓reduceIte, kq_bi]
    · simp only [hc, ↓reduceIte, kq_bi]
  · unfold F_Mod_more
    simp (disch := omega) only [F_Mod_more_b10, ↓reduceIte, ↓kq_bi, ↓kq_let, ↓kq_rz0, ↓kq_rz1, ↓kq_rzB, ↓Option.bind_some, kq_dvn, kt_lt, kf_lt, kt_eq, kf_eq, jU_eq, jU_ne, jU_U, jV_eq, jV_ne, jV_V, kn_lit, kn_add, kn_mul, kn_sdm, kn_sub, kn_div, kn_nsdm, kn_lt, kn_eq, kn_pred, kn_m1, kn_m1', kn_a31, kn_shl, kn_shr, kn_bit, nB_0, nB_1, nB_t, nB_f, Nat.zero_add, Nat.add_zero, Nat.reduceAdd, Nat.reduceMul, Nat.reduceSub, Nat.reducePow]
    by_cases hc : y < x
    · simp only [hc, ↓reduceIte, kq_bi]
    · simp only [hc, ↓reduceIte, kq_bi]
end

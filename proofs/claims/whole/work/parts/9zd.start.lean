/-! PLAIN LEAN: the start, and the whole -/
def jt_0 : JTn := fun _ _ => 0
section
variable {L n k kk ci A f v : Nat} {ps : List (Nat × Nat × Nat)} {js : List (Nat × Nat)} {J I : Nat → Nat → Int32} {h : LH} {Q : Type} {x : Int32} {xs : Nat → Int32}
theorem jU_id2 {s : Nat → Nat → Int32} {a : Nat} {f : Nat → Int32} (e : f = s a) : jU s a f = s := by
  funext d
  by_cases z : d = a
  · rw [z, jU_eq, e]
  · rw [jU_ne z]
theorem jV_id2 {f : Nat → Int32} {i : Nat} (e : f i = x) : jV f i x = f := by
  funext d
  by_cases z : d = i
  · rw [z, jV_eq, e]
  · rw [jV_ne z]
theorem g_isz (hk : jl_kd h A = 20) (h6 : 64 ≤ A) (hl : jl_ln h A = n) (h9 : n ≤ 10000) (hz : ∀ i, i < n → J A i = nI 0) {K : LH → Option Q} (hi : k < n) : jf_is (jz_I h J) A (nI k) (nI 0) K = K (jz_I h J) := by
  rw [g_is hk h6 hl h9 hi, jU_id2 (jV_id2 (hz k hi))]
theorem g_iaz (hk : jl_kd h A = 20) (hl : jl_ln h A = n) (h9 : n ≤ 10000) (hz : ∀ i, i < n → J A i = nI 0) {K : Int32 → Option Q} (hi : k < n) : jf_ia (jz_I h J) A (nI k) K = K (nI 0) := by
  rw [kq_ia hk (by omega) (by omega), hz k hi]
theorem g_piz (hk : jl_kd h A = ci) (h6 : 64 ≤ A) (hz : ∀ f, ¬ f = 3 → J A f = nI 0) {K : LH → Option Q} (hf : ¬ f = 3) : jf_pi (jz_I h J) A ci f (nI 0) K = K (jz_I h J) := by
  rw [g_pi hk h6, jU_id2 (jV_id2 (hz f hf))]
theorem i_lays {P : LH → Prop} {a b : Nat} (hP : P (jz_I h J)) : jW (F_Mod_lays a b (nI 0) (jz_I h J)) P := by
  unfold F_Mod_lays
  refine jW_for0 (A := Unit) (f := fun fuel w _ => F_Mod_lays_l2 fuel a b (nI 0) (nI w) (jz_I h J)) 0 (fun _ _ => True) () trivial (by omega) (fun F w _ hw _ _ => absurd hw (Nat.not_lt_zero w)) (fun F _ _ => ?_)
  show jW (F_Mod_lays_c2 (F_Mod_lays_l2 F) a b (nI 0) (nI 0) (jz_I h J)) P
  unfold F_Mod_lays_c2
  simp (disch := omega) only [↓reduceIte, ↓kq_bi, ↓kq_let, ↓kq_rz0, ↓kq_rz1, ↓kq_rzB, ↓Option.bind_some, kq_dvn, kt_lt, kf_lt, kt_eq, kf_eq, decide_true, decide_false, eq_self, Bool.false_eq_true, Bool.true_eq_false, not_true_eq_false, not_false_eq_true, jU_eq, jU_ne, jU_U, jV_eq, jV_ne, jV_V, kn_lit, kn_add, kn_mul, kn_sdm, kn_sub, kn_div, kn_nsdm, kn_lt, kn_eq, kn_pred, kn_m1, kn_m1', kn_a31, kn_shl, kn_shr, kn_bit, nB_0, nB_1, nB_t, nB_f, Nat.zero_add, Nat.add_zero, Nat.reduceAdd, Nat.reduceMul, Nat.reduceSub, Nat.reducePow]
  exact jW_s hP
theorem i_anew {P : LH → Prop} (k205 : jl_kd h 205 = 11) (p11 : h.2.2.1 205 11 = some 208) (p12 : h.2.2.1 205 12 = some 209) (p19 : h.2.2.1 205 19 = some 216) (p20 : h.2.2.1 205 20 = some 223) (p21 : h.2.2.1 205 21 = some 230) (p22 : h.2.2.1 205 22 = some 241) (p23 : h.2.2.1 205 23 = some 252) (p24 : h.2.2.1 205 24 = some 259) (p35 : h.2.2.1 205 35 = some 691) (k208 : jl_kd h 208 = 20) (l208 : jl_ln h 208 = 6) (k209 : jl_kd h 209 = 20) (l209 : jl_ln h 209 = 6) (k691 : jl_kd h 691 = 20) (l691 : jl_ln h 691 = 134) (z205 : ∀ f, ¬ f = 3 → J 205 f = nI 0) (z208 : ∀ f, f < 6 → J 208 f = nI 0) (z209 : ∀ f, f < 6 → J 209 f = nI 0) (z691 : ∀ f, f < 134 → J 691 f = nI 0) (hP : P (jz_I h J)) : jW (F_Mod_init_l297 jF 205 (nI 0) (jz_I h J)) P := by
  have w191 : ∀ {P : LH → Prop}, P (jz_I h J) → jW (F_Mod_beginsAnew_l191 jF 205 (nI 0) (jz_I h J)) P := by
    intro P hP
    refine jW_for0 (A := Unit) (f := fun fuel w _ => F_Mod_beginsAnew_l191 fuel 205 (nI w) (jz_I h J)) 0 (fun _ _ => True) () trivial (by omega) (fun F w _ hw _ _ => absurd hw (Nat.not_lt_zero w)) (fun F _ _ => ?_)
    show jW (F_Mod_beginsAnew_c191 (F_Mod_beginsAnew_l191 F) 205 (nI 0) (jz_I h J)) P
    unfold F_Mod_beginsAnew_c191
    simp (disch := omega) only [↓g_gr k205 p12, g_iaz k209 l209 (by decide) z209, g_piz k205 (by decide) z205, ↓reduceIte, ↓kq_bi, ↓kq_let, ↓kq_rz0, ↓kq_rz1, ↓kq_rzB, ↓Option.bind_some, kq_dvn, kt_lt, kf_lt, kt_eq, kf_eq, decide_true, decide_false, eq_self, Bool.false_eq_true, Bool.true_eq_false, not_true_eq_false, not_false_eq_true, jU_eq, jU_ne, jU_U, jV_eq, jV_ne, jV_V, kn_lit, kn_add, kn_mul, kn_sdm, kn_sub, kn_div, kn_nsdm, kn_lt, kn_eq, kn_pred, kn_m1, kn_m1', kn_a31, kn_shl, kn_shr, kn_bit, nB_0, nB_1, nB_t, nB_f, Nat.zero_add, Nat.add_zero, Nat.reduceAdd, Nat.reduceMul, Nat.reduceSub, Nat.reducePow]
    exact jW_s hP
  have w169 : ∀ {P : LH → Prop}, P (jz_I h J) → jW (F_Mod_beginsAnew_l169 jF 205 (nI 0) (jz_I h J)) P := by
    intro P hP
    refine jW_for0 (A := Unit) (f := fun fuel w _ => F_Mod_beginsAnew_l169 fuel 205 (nI w) (jz_I h J)) 134 (fun _ _ => True) () trivial (by omega) (fun F w _ hw _ ih => ?_) (fun F _ _ => ?_)
    · show jW (F_Mod_beginsAnew_c169 (F_Mod_beginsAnew_l169 F) 205 (nI w) (jz_I h J)) P
      unfold F_Mod_beginsAnew_c169
      simp (disch := omega) only [↓g_gr k205 p35, g_isz k691 (by decide) l691 (by decide) z691, ↓reduceIte, ↓kq_bi, ↓kq_let, ↓kq_rz0, ↓kq_rz1, ↓kq_rzB, ↓Option.bind_some, kq_dvn, kt_lt, kf_lt, kt_eq, kf_eq, decide_true, decide_false, eq_self, Bool.false_eq_true, Bool.true_eq_false, not_true_eq_false, not_false_eq_true, jU_eq, jU_ne, jU_U, jV_eq, jV_ne, jV_V, kn_lit, kn_add, kn_mul, kn_sdm, kn_sub, kn_div, kn_nsdm, kn_lt, kn_eq, kn_pred, kn_m1, kn_m1', kn_a31, kn_shl, kn_shr, kn_bit, nB_0, nB_1, nB_t, nB_f, Nat.zero_add, Nat.add_zero, Nat.reduceAdd, Nat.reduceMul, Nat.reduceSub, Nat.reducePow]
      exact ih () trivial
    · show jW (F_Mod_beginsAnew_c169 (F_Mod_beginsAnew_l169 F) 205 (nI 134) (jz_I h J)) P
      unfold F_Mod_beginsAnew_c169
      simp (disch := omega) only [↓reduceIte, ↓kq_bi, ↓kq_let, ↓kq_rz0, ↓kq_rz1, ↓kq_rzB, ↓Option.bind_some, kq_dvn, kt_lt, kf_lt, kt_eq, kf_eq, decide_true, decide_false, eq_self, Bool.false_eq_true, Bool.true_eq_false, not_true_eq_false, not_false_eq_true, jU_eq, jU_ne, jU_U, jV_eq, jV_ne, jV_V, kn_lit, kn_add, kn_mul, kn_sdm, kn_sub, kn_div, kn_nsdm, kn_lt, kn_eq, kn_pred, kn_m1, kn_m1', kn_a31, kn_shl, kn_shr, kn_bit, nB_0, nB_1, nB_t, nB_f, Nat.zero_add, Nat.add_zero, Nat.reduceAdd, Nat.reduceMul, Nat.reduceSub, Nat.reducePow]
      exact w191 hP
  have w88 : ∀ {P : LH → Prop}, P (jz_I h J) → jW (F_Mod_beginsAnew_l88 jF 205 (nI 0) (jz_I h J)) P := by
    intro P hP
    refine jW_for0 (A := Unit) (f := fun fuel w _ => F_Mod_beginsAnew_l88 fuel 205 (nI w) (jz_I h J)) 0 (fun _ _ => True) () trivial (by omega) (fun F w _ hw _ _ => absurd hw (Nat.not_lt_zero w)) (fun F _ _ => ?_)
    show jW (F_Mod_beginsAnew_c88 (F_Mod_beginsAnew_l88 F) 205 (nI 0) (jz_I h J)) P
    unfold F_Mod_beginsAnew_c88
    simp (disch := omega) only [↓g_gr k205 p12, ↓g_gr k205 p19, ↓g_gr k205 p20, g_iaz k209 l209 (by decide) z209, ↓reduceIte, ↓kq_bi, ↓kq_let, ↓kq_rz0, ↓kq_rz1, ↓kq_rzB, ↓Option.bind_some, kq_dvn, kt_lt, kf_lt, kt_eq, kf_eq, decide_true, decide_false, eq_self, Bool.false_eq_true, Bool.true_eq_false, not_true_eq_false, not_false_eq_true, jU_eq, jU_ne, jU_U, jV_eq, jV_ne, jV_V, kn_lit, kn_add, kn_mul, kn_sdm, kn_sub, kn_div, kn_nsdm, kn_lt, kn_eq, kn_pred, kn_m1, kn_m1', kn_a31, kn_shl, kn_shr, kn_bit, nB_0, nB_1, nB_t, nB_f, Nat.zero_add, Nat.add_zero, Nat.reduceAdd, Nat.reduceMul, Nat.reduceSub, Nat.reducePow]
    refine jW_bd (i_lays ?_)
    simp (disch := omega) only [↓g_gr k205 p12, ↓g_gr k205 p21, ↓g_gr k205 p22, g_iaz k209 l209 (by decide) z209, ↓reduceIte, ↓kq_bi, ↓kq_let, ↓kq_rz0, ↓kq_rz1, ↓kq_rzB, ↓Option.bind_some, kq_dvn, kt_lt, kf_lt, kt_eq, kf_eq, decide_true, decide_false, eq_self, Bool.false_eq_true, Bool.true_eq_false, not_true_eq_false, not_false_eq_true, jU_eq, jU_ne, jU_U, jV_eq, jV_ne, jV_V, kn_lit, kn_add, kn_mul, kn_sdm, kn_sub, kn_div, kn_nsdm, kn_lt, kn_eq, kn_pred, kn_m1, kn_m1', kn_a31, kn_shl, kn_shr, kn_bit, nB_0, nB_1, nB_t, nB_f, Nat.zero_add, Nat.add_zero, Nat.reduceAdd, Nat.reduceMul, Nat.reduceSub, Nat.reducePow]
    refine jW_bd (i_lays ?_)
    simp (disch := omega) only [↓g_gr k205 p12, ↓g_gr k205 p23, ↓g_gr k205 p24, g_iaz k209 l209 (by decide) z209, ↓reduceIte, ↓kq_bi, ↓kq_let, ↓kq_rz0, ↓kq_rz1, ↓kq_rzB, ↓Option.bind_some, kq_dvn, kt_lt, kf_lt, kt_eq, kf_eq, decide_true, decide_false, eq_self, Bool.false_eq_true, Bool.true_eq_false, not_true_eq_false, not_false_eq_true, jU_eq, jU_ne, jU_U, jV_eq, jV_ne, jV_V, kn_lit, kn_add, kn_mul, kn_sdm, kn_sub, kn_div, kn_nsdm, kn_lt, kn_eq, kn_pred, kn_m1, kn_m1', kn_a31, kn_shl, kn_shr, kn_bit, nB_0, nB_1, nB_t, nB_f, Nat.zero_add, Nat.add_zero, Nat.reduceAdd, Nat.reduceMul, Nat.reduceSub, Nat.reducePow]
    refine jW_bd (i_lays ?_)
    exact w169 hP
  have w58 : ∀ {P : LH → Prop}, P (jz_I h J) → jW (F_Mod_beginsAnew_l58 jF 205 (nI 0) (jz_I h J)) P := by
    intro P hP
    refine jW_for0 (A := Unit) (f := fun fuel w _ => F_Mod_beginsAnew_l58 fuel 205 (nI w) (jz_I h J)) 0 (fun _ _ => True) () trivial (by omega) (fun F w _ hw _ _ => absurd hw (Nat.not_lt_zero w)) (fun F _ _ => ?_)
    show jW (F_Mod_beginsAnew_c58 (F_Mod_beginsAnew_l58 F) 205 (nI 0) (jz_I h J)) P
    unfold F_Mod_beginsAnew_c58
    simp (disch := omega) only [↓g_gr k205 p12, g_iaz k209 l209 (by decide) z209, ↓reduceIte, ↓kq_bi, ↓kq_let, ↓kq_rz0, ↓kq_rz1, ↓kq_rzB, ↓Option.bind_some, kq_dvn, kt_lt, kf_lt, kt_eq, kf_eq, decide_true, decide_false, eq_self, Bool.false_eq_true, Bool.true_eq_false, not_true_eq_false, not_false_eq_true, jU_eq, jU_ne, jU_U, jV_eq, jV_ne, jV_V, kn_lit, kn_add, kn_mul, kn_sdm, kn_sub, kn_div, kn_nsdm, kn_lt, kn_eq, kn_pred, kn_m1, kn_m1', kn_a31, kn_shl, kn_shr, kn_bit, nB_0, nB_1, nB_t, nB_f, Nat.zero_add, Nat.add_zero, Nat.reduceAdd, Nat.reduceMul, Nat.reduceSub, Nat.reducePow]
    exact w88 hP
  have w28 : ∀ {P : LH → Prop}, P (jz_I h J) → jW (F_Mod_beginsAnew_l28 jF 205 (nI 0) (jz_I h J)) P := by
    intro P hP
    refine jW_for0 (A := Unit) (f := fun fuel w _ => F_Mod_beginsAnew_l28 fuel 205 (nI w) (jz_I h J)) 0 (fun _ _ => True) () trivial (by omega) (fun F w _ hw _ _ => absurd hw (Nat.not_lt_zero w)) (fun F _ _ => ?_)
    show jW (F_Mod_beginsAnew_c28 (F_Mod_beginsAnew_l28 F) 205 (nI 0) (jz_I h J)) P
    unfold F_Mod_beginsAnew_c28
    simp (disch := omega) only [↓g_gr k205 p12, g_iaz k209 l209 (by decide) z209, ↓reduceIte, ↓kq_bi, ↓kq_let, ↓kq_rz0, ↓kq_rz1, ↓kq_rzB, ↓Option.bind_some, kq_dvn, kt_lt, kf_lt, kt_eq, kf_eq, decide_true, decide_false, eq_self, Bool.false_eq_true, Bool.true_eq_false, not_true_eq_false, not_false_eq_true, jU_eq, jU_ne, jU_U, jV_eq, jV_ne, jV_V, kn_lit, kn_add, kn_mul, kn_sdm, kn_sub, kn_div, kn_nsdm, kn_lt, kn_eq, kn_pred, kn_m1, kn_m1', kn_a31, kn_shl, kn_shr, kn_bit, nB_0, nB_1, nB_t, nB_f, Nat.zero_add, Nat.add_zero, Nat.reduceAdd, Nat.reduceMul, Nat.reduceSub, Nat.reducePow]
    exact w58 hP
  have w0 : ∀ {P : LH → Prop}, P (jz_I h J) → jW (F_Mod_beginsAnew 205 (jz_I h J)) P := by
    intro P hP
    unfold F_Mod_beginsAnew
    refine jW_for0 (A := Unit) (f := fun fuel w _ => F_Mod_beginsAnew_l2 fuel 205 (nI w) (jz_I h J)) 6 (fun _ _ => True) () trivial (by omega) (fun F w _ hw _ ih => ?_) (fun F _ _ => ?_)
    · show jW (F_Mod_beginsAnew_c2 (F_Mod_beginsAnew_l2 F) 205 (nI w) (jz_I h J)) P
      unfold F_Mod_beginsAnew_c2
      simp (disch := omega) only [↓g_gr k205 p12, ↓g_gr k205 p11, g_iaz k208 l208 (by decide) z208, g_isz k209 (by decide) l209 (by decide) z209, ↓reduceIte, ↓kq_bi, ↓kq_let, ↓kq_rz0, ↓kq_rz1, ↓kq_rzB, ↓Option.bind_some, kq_dvn, kt_lt, kf_lt, kt_eq, kf_eq, decide_true, decide_false, eq_self, Bool.false_eq_true, Bool.true_eq_false, not_true_eq_false, not_false_eq_true, jU_eq, jU_ne, jU_U, jV_eq, jV_ne, jV_V, kn_lit, kn_add, kn_mul, kn_sdm, kn_sub, kn_div, kn_nsdm, kn_lt, kn_eq, kn_pred, kn_m1, kn_m1', kn_a31, kn_shl, kn_shr, kn_bit, nB_0, nB_1, nB_t, nB_f, Nat.zero_add, Nat.add_zero, Nat.reduceAdd, Nat.reduceMul, Nat.reduceSub, Nat.reducePow]
      exact ih () trivial
    · show jW (F_Mod_beginsAnew_c2 (F_Mod_beginsAnew_l2 F) 205 (nI 6) (jz_I h J)) P
      unfold F_Mod_beginsAnew_c2
      simp (disch := omega) only [↓reduceIte, ↓kq_bi, ↓kq_let, ↓kq_rz0, ↓kq_rz1, ↓kq_rzB, ↓Option.bind_some, kq_dvn, kt_lt, kf_lt, kt_eq, kf_eq, decide_true, decide_false, eq_self, Bool.false_eq_true, Bool.true_eq_false, not_true_eq_false, not_false_eq_true, jU_eq, jU_ne, jU_U, jV_eq, jV_ne, jV_V, kn_lit, kn_add, kn_mul, kn_sdm, kn_sub, kn_div, kn_nsdm, kn_lt, kn_eq, kn_pred, kn_m1, kn_m1', kn_a31, kn_shl, kn_shr, kn_bit, nB_0, nB_1, nB_t, nB_f, Nat.zero_add, Nat.add_zero, Nat.reduceAdd, Nat.reduceMul, Nat.reduceSub, Nat.reducePow]
      exact w28 hP
  refine jW_for0 (A := Unit) (f := fun fuel w _ => F_Mod_init_l297 fuel 205 (nI w) (jz_I h J)) 6 (fun _ _ => True) () trivial (by omega) (fun F w _ hw _ ih => ?_) (fun F _ _ => ?_)
  · show jW (F_Mod_init_c297 (F_Mod_init_l297 F) 205 (nI w) (jz_I h J)) P
    unfold F_Mod_init_c297
    simp (disch := omega) only [↓g_gr k205 p11, g_isz k208 (by decide) l208 (by decide) z208, ↓reduceIte, ↓kq_bi, ↓kq_let, ↓kq_rz0, ↓kq_rz1, ↓kq_rzB, ↓Option.bind_some, kq_dvn, kt_lt, kf_lt, kt_eq, kf_eq, decide_true, decide_false, eq_self, Bool.false_eq_true, Bool.true_eq_false, not_true_eq_false, not_false_eq_true, jU_eq, jU_ne, jU_U, jV_eq, jV_ne, jV_V, kn_lit, kn_add, kn_mul, kn_sdm, kn_sub, kn_div, kn_nsdm, kn_lt, kn_eq, kn_pred, kn_m1, kn_m1', kn_a31, kn_shl, kn_shr, kn_bit, nB_0, nB_1, nB_t, nB_f, Nat.zero_add, Nat.add_zero, Nat.reduceAdd, Nat.reduceMul, Nat.reduceSub, Nat.reducePow]
    exact ih () trivial
  · show jW (F_Mod_init_c297 (F_Mod_init_l297 F) 205 (nI 6) (jz_I h J)) P
    unfold F_Mod_init_c297
    simp (disch := omega) only [↓g_kd k205, ↓reduceIte, ↓kq_bi, ↓kq_let, ↓kq_rz0, ↓kq_rz1, ↓kq_rzB, ↓Option.bind_some, kq_dvn, kt_lt, kf_lt, kt_eq, kf_eq, decide_true, decide_false, eq_self, Bool.false_eq_true, Bool.true_eq_false, not_true_eq_false, not_false_eq_true, jU_eq, jU_ne, jU_U, jV_eq, jV_ne, jV_V, kn_lit, kn_add, kn_mul, kn_sdm, kn_sub, kn_div, kn_nsdm, kn_lt, kn_eq, kn_pred, kn_m1, kn_m1', kn_a31, kn_shl, kn_shr, kn_bit, nB_0, nB_1, nB_t, nB_f, Nat.zero_add, Nat.add_zero, Nat.reduceAdd, Nat.reduceMul, Nat.reduceSub, Nat.reducePow]
    refine jW_bd (w0 (jW_s hP))
end

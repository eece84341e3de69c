/-! PLAIN LEAN: images -/
/-- an image more -/
def s_img (E : JIm) (r : JRw) (H : JHs) : JIm := (E.1 + 1, fun e => if e = E.1 then (r, H) else E.2 e)
section
variable {t u l m b c : Nat} {h : LH} {I J K : Nat → Nat → Int32} {A A' : JA} {N : Nat} {τ : JTn} {ω : JLw} {r : JRw} {β : JBk} {H : JHs} {E : JIm} {Tp : Nat × (Nat → Nat)} {p : Int32} {rf c0 c1 : Nat} {v : Int32} {a d s i k w : Nat} {x : Int32}
theorem s_img_eq : (s_img E r H).2 E.1 = (r, H) := if_pos rfl
theorem s_img_ne {e : Nat} (he : ¬ e = E.1) : (s_img E r H).2 e = E.2 e := if_neg he
theorem jHa_e {e : Nat} (he : e < 3) : jHa (125 + 18 * e) := by unfold jHa; omega
theorem x_image (hA : jAG N A) : jDoN (fun g => F_SG_image 64 g) (fun g => F_Mod_image 205 g) N A := by
  obtain ⟨τ, ω, r, β, ⟨w, B⟩, E, Tp, p, rf, c0, c1⟩ := A
  obtain ⟨b1, b2⟩ : w ≤ 16 ∧ ∀ i, i < w → jRG τ (B i) := hA.2.2.2.2.1
  obtain ⟨d1, d2⟩ := hA.2.2.2.2.2.1
  have hr := hA.2.2.1.1
  by_cases z : E.1 = 3
  · refine jDoN_q (v := -nI 1) hA (fun t u l m b c h I hL hC => ?_) (fun t u l m b c h I hL hC => ?_)
    · have e : I 64 14 = nI E.1 := hC.2.2.2.2.1.1
      rw [z] at e
      show F_SG_image 64 (jz_I h I) = _
      unfold F_SG_image
      simp (disch := omega) only [e, ↓dK_64 hL, ↓dG_64 hL, ↓dP_64 hL, ↓reduceIte, ↓kq_bi, ↓kq_let, ↓kq_rz0, ↓kq_rz1, ↓kq_rzB, ↓Option.bind_some, kq_dvn, kt_lt, kf_lt, kt_eq, kf_eq, decide_true, decide_false, eq_self, Bool.false_eq_true, Bool.true_eq_false, not_true_eq_false, not_false_eq_true, jU_eq, jU_ne, jU_U, jV_eq, jV_ne, jV_V, kn_lit, kn_add, kn_mul, kn_sdm, kn_sub, kn_div, kn_nsdm, kn_lt, kn_eq, kn_pred, kn_m1, kn_m1', kn_a31, kn_shl, kn_shr, kn_bit, nB_0, nB_1, nB_t, nB_f, Nat.zero_add, Nat.add_zero, Nat.reduceAdd, Nat.reduceMul, Nat.reduceSub, Nat.reducePow]
    · have e : I 205 42 = nI E.1 := hC.2.2.2.2.1.1
      rw [z] at e
      refine ⟨_, ?_, jN_0 (jMM_Q hC hA)⟩
      show F_Mod_image 205 (jz_I h I) = _
      unfold F_Mod_image
      simp (disch := omega) only [e, ↓dK_205 hL, ↓dG_205 hL, ↓dP_205 hL, ↓dZ_205 hL (x := nI 0) (Or.inl rfl), ↓dZ_205 hL (x := nI 1) (Or.inr rfl), ↓dZ_205 hL (Or.inl rfl), ↓dZ_205 hL (Or.inr rfl), ↓dZ_205 hL (nB_01 _), ↓reduceIte, ↓kq_bi, ↓kq_let, ↓kq_rz0, ↓kq_rz1, ↓kq_rzB, ↓Option.bind_some, kq_dvn, kt_lt, kf_lt, kt_eq, kf_eq, decide_true, decide_false, eq_self, Bool.false_eq_true, Bool.true_eq_false, not_true_eq_false, not_false_eq_true, jU_eq, jU_ne, jU_U, jV_eq, jV_ne, jV_V, kn_lit, kn_add, kn_mul, kn_sdm, kn_sub, kn_div, kn_nsdm, kn_lt, kn_eq, kn_pred, kn_m1, kn_m1', kn_a31, kn_shl, kn_shr, kn_bit, nB_0, nB_1, nB_t, nB_f, Nat.zero_add, Nat.add_zero, Nat.reduceAdd, Nat.reduceMul, Nat.reduceSub, Nat.reducePow]
  · have hlt : E.1 < 3 := by omega
    refine ⟨nI (E.1 + 1), (τ, ω, r, β, (w, B), s_img E r (w, B), Tp, p, rf, c0, c1), ⟨fun t u l m b c h I hL hC => ?_, fun t u l m b c h I hL hC => ?_⟩, ?_⟩
    · have hS := hC.2.1
      have hH := hC.2.2.2.1
      have hE := hC.2.2.2.2.1
      have e : I 64 14 = nI E.1 := hE.1
      have key : ∃ J, F_SG_image 64 (jz_I h I) = some (nI (E.1 + 1), jz_I h J) ∧ jCR J (180 + E.1) r ∧ J (125 + 18 * E.1) 1 = nI w ∧ (∀ i k, i < w → k < 134 → J (125 + 18 * E.1 + 2 + i) k = I (106 + 2 + i) k) ∧ J 64 = jV (I 64) 14 (nI (E.1 + 1)) ∧ ∀ a, ¬ a = 64 → ¬ a = 180 + E.1 → ¬ a = 125 + 18 * E.1 → ¬ (125 + 18 * E.1 + 2 ≤ a ∧ a < 125 + 18 * E.1 + 18) → J a = I a := by
        refine jE_i (fun P hP => ?_)
        unfold F_SG_image
        simp (disch := omega) only [e, ↓dK_64 hL, ↓dG_64 hL, ↓dP_64 hL, ↓dR_64_2 hL, ↓dK_85 hL, ↓dG_85 hL, ↓dP_85 hL, ↓dZ_85 hL (x := nI 0) (Or.inl rfl), ↓dZ_85 hL (x := nI 1) (Or.inr rfl), ↓dZ_85 hL (Or.inl rfl), ↓dZ_85 hL (Or.inr rfl), ↓dZ_85 hL (nB_01 _), ↓dR_64_9 hL, dA_179 hL, dI_180 hL, dS_180 hL, ↓reduceIte, ↓kq_bi, ↓kq_let, ↓kq_rz0, ↓kq_rz1, ↓kq_rzB, ↓Option.bind_some, kq_dvn, kt_lt, kf_lt, kt_eq, kf_eq, decide_true, decide_false, eq_self, Bool.false_eq_true, Bool.true_eq_false, not_true_eq_false, not_false_eq_true, jU_eq, jU_ne, jU_U, jV_eq, jV_ne, jV_V, kn_lit, kn_add, kn_mul, kn_sdm, kn_sub, kn_div, kn_nsdm, kn_lt, kn_eq, kn_pred, kn_m1, kn_m1', kn_a31, kn_shl, kn_shr, kn_bit, nB_0, nB_1, nB_t, nB_f, Nat.zero_add, Nat.add_zero, Nat.reduceAdd, Nat.reduceMul, Nat.reduceSub, Nat.reducePow]
        refine jW_bn (c_saveTo hL (Or.inl rfl) (lk_180 hL hlt) (ll_180 hL hlt) (by omega) (by omega) hS.1 hr) (fun K hK => ?_)
        obtain ⟨k1, k2⟩ := hK
        have ke : K 64 14 = nI E.1 := by rw [k2 64 (by omega)]; exact e
        have k106 : K 106 1 = nI w := by rw [k2 106 (by omega)]; exact hH.1
        simp (disch := omega) only [ke, ↓dR_64_8 hL, dA_124 hL, ↓dK_H hL (jHa_e hlt), ↓dK_64 hL, ↓dG_64 hL, ↓dP_64 hL, ↓dR_64_7 hL, ↓dK_106 hL, ↓dG_106 hL, ↓dP_106 hL, ↓reduceIte, ↓kq_bi, ↓kq_let, ↓kq_rz0, ↓kq_rz1, ↓kq_rzB, ↓Option.bind_some, kq_dvn, kt_lt, kf_lt, kt_eq, kf_eq, decide_true, decide_false, eq_self, Bool.false_eq_true, Bool.true_eq_false, not_true_eq_false, not_false_eq_true, jU_eq, jU_ne, jU_U, jV_eq, jV_ne, jV_V, kn_lit, kn_add, kn_mul, kn_sdm, kn_sub, kn_div, kn_nsdm, kn_lt, kn_eq, kn_pred, kn_m1, kn_m1', kn_a31, kn_shl, kn_shr, kn_bit, nB_0, nB_1, nB_t, nB_f, Nat.zero_add, Nat.add_zero, Nat.reduceAdd, Nat.reduceMul, Nat.reduceSub, Nat.reducePow]
        refine jW_bn (c_copyFrom hL (jHa_e hlt) (Or.inl rfl) (by omega) k106 b1) (fun L hL' => ?_)
        obtain ⟨l1, l2, l3⟩ := hL'
        have le : L 64 14 = nI E.1 := by rw [l3 64 (by omega) (by omega)]; exact ke
        simp (disch := omega) only [le, ↓dK_64 hL, ↓dG_64 hL, ↓dP_64 hL, ↓reduceIte, ↓kq_bi, ↓kq_let, ↓kq_rz0, ↓kq_rz1, ↓kq_rzB, ↓Option.bind_some, kq_dvn, kt_lt, kf_lt, kt_eq, kf_eq, decide_true, decide_false, eq_self, Bool.false_eq_true, Bool.true_eq_false, not_true_eq_false, not_false_eq_true, jU_eq, jU_ne, jU_U, jV_eq, jV_ne, jV_V, kn_lit, kn_add, kn_mul, kn_sdm, kn_sub, kn_div, kn_nsdm, kn_lt, kn_eq, kn_pred, kn_m1, kn_m1', kn_a31, kn_shl, kn_shr, kn_bit, nB_0, nB_1, nB_t, nB_f, Nat.zero_add, Nat.add_zero, Nat.reduceAdd, Nat.reduceMul, Nat.reduceSub, Nat.reducePow]
        refine jW_s (hP _ ⟨?_, ?_, fun i k hi hk => ?_, ?_, fun a x1 x2 x3 x4 => ?_⟩)
        · exact jCR_congr (by rw [jU_ne (by omega)]; exact l3 _ (by omega) (by omega)) k1
        · rw [jU_ne (by omega)]; exact l1
        · rw [jU_ne (by omega), l2 i k hi hk, k2 _ (by omega)]
        · rw [jU_eq, l3 64 (by omega) (by omega), k2 64 (by omega)]
        · rw [jU_ne x1, l3 a x3 x4, k2 a x2]
      obtain ⟨J, e2, j1, j2, j3, j4, j5⟩ := key
      refine ⟨J, e2, jCC_U hL hC (fun a x1 x2 x3 => j5 a x1 (by omega) (by omega) (by omega)) (jCS_cg (fun a x1 x2 => j5 a (by omega) (by omega) (by omega) (by omega)) hS) (jcH_cg b1 (fun a x1 x2 => j5 a (by omega) (by omega) (by omega) (by omega)) hH) ⟨by rw [j4, jV_eq]; rfl, fun e' he' => ?_⟩ (by rw [j4, jV_ne (by omega)]; exact hC.2.2.2.2.2.2.1.1) (by rw [j4, jV_ne (by omega)]) (by rw [j4, jV_ne (by omega)]), fun a ha => j5 a (by omega) (by omega) (by omega) (by omega)⟩
      have he' : e' < E.1 + 1 := he'
      by_cases z2 : e' = E.1
      · rw [z2, s_img_eq]
        refine ⟨j1, j2, fun i hi => ?_⟩
        have hi : i < w := hi
        have := jCR_pt (J := J) (ρ' := 125 + 18 * E.1 + 2 + i) (fun k hk => j3 i k hi hk) (b2 i hi).1.1 (hH.2 i hi)
        rw [show 127 + 18 * E.1 + i = 125 + 18 * E.1 + 2 + i by omega]
        exact this
      · rw [s_img_ne z2]
        obtain ⟨q1, q2, q3⟩ := hE.2 e' (by omega)
        obtain ⟨-, y1, -⟩ := d2 e' (by omega)
        exact ⟨jCR_congr (j5 _ (by omega) (by omega) (by omega) (by omega)) q1, by rw [j5 _ (by omega) (by omega) (by omega) (by omega)]; exact q2, fun i hi => jCR_congr (j5 _ (by omega) (by omega) (by omega) (by omega)) (q3 i hi)⟩
    · have hR := hC.2.1
      have hH := hC.2.2.2.1
      have hE := hC.2.2.2.2.1
      have e : I 205 42 = nI E.1 := hE.1
      have key : ∃ J, F_Mod_image 205 (jz_I h I) = some (nI (E.1 + 1), jz_I h J) ∧ J (711 + E.1) 0 = I 205 40 ∧ (∀ k, k < 134 → J (711 + E.1) (1 + k) = I 691 k) ∧ (∀ i k, i < 16 → k < 134 → J (711 + E.1) (135 + (134 * i + k)) = I (694 + i) k) ∧ (∀ f, ¬ f = 0 → ¬ f = 42 → ¬ f = 43 → J 205 f = I 205 f) ∧ J 205 42 = nI (E.1 + 1) ∧ ∀ a, ¬ a = 205 → ¬ a = 711 + E.1 → J a = I a := by
        refine jE_i (fun P hP => ?_)
        unfold F_Mod_image
        simp (disch := omega) only [e, ↓dK_205 hL, ↓dG_205 hL, ↓dP_205 hL, ↓dZ_205 hL (x := nI 0) (Or.inl rfl), ↓dZ_205 hL (x := nI 1) (Or.inr rfl), ↓dZ_205 hL (Or.inl rfl), ↓dZ_205 hL (Or.inr rfl), ↓dZ_205 hL (nB_01 _), ↓dR_205_38 hL, dA_710 hL, dI_711 hL, dS_711 hL, ↓reduceIte, ↓kq_bi, ↓kq_let, ↓kq_rz0, ↓kq_rz1, ↓kq_rzB, ↓Option.bind_some, kq_dvn, kt_lt, kf_lt, kt_eq, kf_eq, decide_true, decide_false, eq_self, Bool.false_eq_true, Bool.true_eq_false, not_true_eq_false, not_false_eq_true, jU_eq, jU_ne, jU_U, jV_eq, jV_ne, jV_V, kn_lit, kn_add, kn_mul, kn_sdm, kn_sub, kn_div, kn_nsdm, kn_lt, kn_eq, kn_pred, kn_m1, kn_m1', kn_a31, kn_shl, kn_shr, kn_bit, nB_0, nB_1, nB_t, nB_f, Nat.zero_add, Nat.add_zero, Nat.reduceAdd, Nat.reduceMul, Nat.reduceSub, Nat.reducePow]
        refine jW_bn (m_saves hL hlt) (fun K hK => ?_)
        obtain ⟨k1, k2, k3, k4, k5⟩ := hK
        have k42 : K 205 42 = nI E.1 := by rw [k4 42 (by omega), jU_eq, jV_ne (by omega)]; exact e
        simp (disch := omega) only [k42, ↓dK_205 hL, ↓dG_205 hL, ↓dP_205 hL, ↓dZ_205 hL (x := nI 0) (Or.inl rfl), ↓dZ_205 hL (x := nI 1) (Or.inr rfl), ↓dZ_205 hL (Or.inl rfl), ↓dZ_205 hL (Or.inr rfl), ↓dZ_205 hL (nB_01 _), ↓reduceIte, ↓kq_bi, ↓kq_let, ↓kq_rz0, ↓kq_rz1, ↓kq_rzB, ↓Option.bind_some, kq_dvn, kt_lt, kf_lt, kt_eq, kf_eq, decide_true, decide_false, eq_self, Bool.false_eq_true, Bool.true_eq_false, not_true_eq_false, not_false_eq_true, jU_eq, jU_ne, jU_U, jV_eq, jV_ne, jV_V, kn_lit, kn_add, kn_mul, kn_sdm, kn_sub, kn_div, kn_nsdm, kn_lt, kn_eq, kn_pred, kn_m1, kn_m1', kn_a31, kn_shl, kn_shr, kn_bit, nB_0, nB_1, nB_t, nB_f, Nat.zero_add, Nat.add_zero, Nat.reduceAdd, Nat.reduceMul, Nat.reduceSub, Nat.reducePow]
        refine jW_s (hP _ ⟨?_, fun k hk => ?_, fun i k hi hk => ?_, fun f f1 f2 f3 => ?_, ?_, fun a x1 x2 => ?_⟩)
        · rw [jU_ne (by omega), k1, jU_eq, jV_ne (by omega)]
        · rw [jU_ne (by omega), k2 k hk, jU_ne (by omega)]
        · rw [jU_ne (by omega), k3 i k hi hk, jU_ne (by omega)]
        · rw [jU_eq, jV_ne f2, k4 f f3, jU_eq, jV_ne f1]
        · rw [jU_eq, jV_eq]
        · rw [jU_ne x1, k5 a x1 x2, jU_ne x1]
      obtain ⟨J, e2, j1, j2, j3, j4, j5, j6⟩ := key
      refine ⟨J, e2, jMM_U hC hA (fun a ha => j6 a (by omega) (by omega)) (fun f hf => j4 f (by omega) (by omega) (by omega)) (fun k hk => by rw [j6 691 (by omega) (by omega)]; exact hR k hk) (jmH_cg b1 (j4 40 (by omega) (by omega) (by omega)) (fun a x1 x2 => j6 a (by omega) (by omega)) hH) ⟨j5, fun e' he' => ?_⟩ (by rw [j4 41 (by omega) (by omega) (by omega)]; exact hC.2.2.2.2.2.2.1), fun a ha => j6 a (by omega) (by omega)⟩
      have he' : e' < E.1 + 1 := he'
      by_cases z2 : e' = E.1
      · rw [z2, s_img_eq]
        refine ⟨by rw [j1]; exact hH.1, fun k hk => by rw [j2 k hk]; exact hR k hk, fun i k hi hk => ?_⟩
        have hi : i < w := hi
        rw [j3 i k (by omega) hk]
        exact hH.2 i hi k hk
      · rw [s_img_ne z2, j6 _ (by omega) (by omega)]
        exact hE.2 e' (by omega)
    · obtain ⟨a1, a2, a3, a4, a5, a6, a7, a8, a9, a10⟩ := hA
      refine ⟨a1, a2, a3, a4, a5, ⟨by show E.1 + 1 ≤ 3; omega, fun e' he' => ?_⟩, a7, a8, Nat.le_succ_of_le a9, Nat.le_succ_of_le a10⟩
      have he' : e' < E.1 + 1 := he'
      by_cases z2 : e' = E.1
      · rw [z2, s_img_eq]
        exact ⟨a3, b1, b2⟩
      · rw [s_img_ne z2]
        exact d2 e' (by omega)
theorem x_restore (hA : jAG N A) : jDoN (fun g => F_SG_restore 64 g) (fun g => F_Mod_restore 205 g) N A := by
  obtain ⟨τ, ω, r, β, H, E, Tp, p, rf, c0, c1⟩ := A
  obtain ⟨d1, d2⟩ := hA.2.2.2.2.2.1
  by_cases z : E.1 = 0
  · refine jDoN_q (v := -nI 1) hA (fun t u l m b c h I hL hC => ?_) (fun t u l m b c h I hL hC => ?_)
    · have e : I 64 14 = nI E.1 := hC.2.2.2.2.1.1
      rw [z] at e
      show F_SG_restore 64 (jz_I h I) = _
      unfold F_SG_restore
      simp (disch := omega) only [e, ↓dK_64 hL, ↓dG_64 hL, ↓dP_64 hL, ↓reduceIte, ↓kq_bi, ↓kq_let, ↓kq_rz0, ↓kq_rz1, ↓kq_rzB, ↓Option.bind_some, kq_dvn, kt_lt, kf_lt, kt_eq, kf_eq, decide_true, decide_false, eq_self, Bool.false_eq_true, Bool.true_eq_false, not_true_eq_false, not_false_eq_true, jU_eq, jU_ne, jU_U, jV_eq, jV_ne, jV_V, kn_lit, kn_add, kn_mul, kn_sdm, kn_sub, kn_div, kn_nsdm, kn_lt, kn_eq, kn_pred, kn_m1, kn_m1', kn_a31, kn_shl, kn_shr, kn_bit, nB_0, nB_1, nB_t, nB_f, Nat.zero_add, Nat.add_zero, Nat.reduceAdd, Nat.reduceMul, Nat.reduceSub, Nat.reducePow]
    · have e : I 205 42 = nI E.1 := hC.2.2.2.2.1.1
      rw [z] at e
      refine ⟨_, ?_, jN_0 (jMM_Q hC hA)⟩
      show F_Mod_restore 205 (jz_I h I) = _
      unfold F_Mod_restore
      simp (disch := omega) only [e, ↓dK_205 hL, ↓dG_205 hL, ↓dP_205 hL, ↓dZ_205 hL (x := nI 0) (Or.inl rfl), ↓dZ_205 hL (x := nI 1) (Or.inr rfl), ↓dZ_205 hL (Or.inl rfl), ↓dZ_205 hL (Or.inr rfl), ↓dZ_205 hL (nB_01 _), ↓reduceIte, ↓kq_bi, ↓kq_let, ↓kq_rz0, ↓kq_rz1, ↓kq_rzB, ↓Option.bind_some, kq_dvn, kt_lt, kf_lt, kt_eq, kf_eq, decide_true, decide_false, eq_self, Bool.false_eq_true, Bool.true_eq_false, not_true_eq_false, not_false_eq_true, jU_eq, jU_ne, jU_U, jV_eq, jV_ne, jV_V, kn_lit, kn_add, kn_mul, kn_sdm, kn_sub, kn_div, kn_nsdm, kn_lt, kn_eq, kn_pred, kn_m1, kn_m1', kn_a31, kn_shl, kn_shr, kn_bit, nB_0, nB_1, nB_t, nB_f, Nat.zero_add, Nat.add_zero, Nat.reduceAdd, Nat.reduceMul, Nat.reduceSub, Nat.reducePow]
  · obtain ⟨y1, y2, y3⟩ := d2 (E.1 - 1) (by omega)
    have hlt : E.1 - 1 < 3 := by omega
    refine ⟨nI (E.1 - 1), (τ, ω, (E.2 (E.1 - 1)).1, β, (E.2 (E.1 - 1)).2, (E.1 - 1, E.2), Tp, p, 0, c0, c1), ⟨fun t u l m b c h I hL hC => ?_, fun t u l m b c h I hL hC => ?_⟩, ?_⟩
    · have hE := hC.2.2.2.2.1
      have e : I 64 14 = nI E.1 := hE.1
      obtain ⟨q1, q2, q3⟩ := hE.2 (E.1 - 1) (by omega)
      have key : ∃ J, F_SG_restore 64 (jz_I h I) = some (nI (E.1 - 1), jz_I h J) ∧ jCS J 85 τ false (E.2 (E.1 - 1)).1 ∧ J 106 1 = nI (E.2 (E.1 - 1)).2.1 ∧ (∀ i k, i < (E.2 (E.1 - 1)).2.1 → k < 134 → J (106 + 2 + i) k = I (125 + 18 * (E.1 - 1) + 2 + i) k) ∧ J 64 = jV (jV (I 64) 14 (nI (E.1 - 1))) 15 (nI 0) ∧ ∀ a, ¬ a = 64 → ¬ a = 85 → ¬ a = 86 → ¬ a = 106 → ¬ (106 + 2 ≤ a ∧ a < 106 + 18) → J a = I a := by
        refine jE_i (fun P hP => ?_)
        unfold F_SG_restore
        simp (disch := omega) only [e, ↓dK_64 hL, ↓dG_64 hL, ↓dP_64 hL, ↓dR_64_2 hL, ↓dK_85 hL, ↓dG_85 hL, ↓dP_85 hL, ↓dZ_85 hL (x := nI 0) (Or.inl rfl), ↓dZ_85 hL (x := nI 1) (Or.inr rfl), ↓dZ_85 hL (Or.inl rfl), ↓dZ_85 hL (Or.inr rfl), ↓dZ_85 hL (nB_01 _), ↓dR_64_9 hL, dA_179 hL, dI_180 hL, dS_180 hL, ↓reduceIte, ↓kq_bi, ↓kq_let, ↓kq_rz0, ↓kq_rz1, ↓kq_rzB, ↓Option.bind_some, kq_dvn, kt_lt, kf_lt, kt_eq, kf_eq, decide_true, decide_false, eq_self, Bool.false_eq_true, Bool.true_eq_false, not_true_eq_false, not_false_eq_true, jU_eq, jU_ne, jU_U, jV_eq, jV_ne, jV_V, kn_lit, kn_add, kn_mul, kn_sdm, kn_sub, kn_div, kn_nsdm, kn_lt, kn_eq, kn_pred, kn_m1, kn_m1', kn_a31, kn_shl, kn_shr, kn_bit, nB_0, nB_1, nB_t, nB_f, Nat.zero_add, Nat.add_zero, Nat.reduceAdd, Nat.reduceMul, Nat.reduceSub, Nat.reducePow]
        refine jW_bn (c_loadFrom hL (Or.inl rfl) (I := jU I 64 (jV (I 64) 14 (nI (E.1 - 1)))) (lk_180 hL hlt) (ll_180 hL hlt) (by omega) (by omega) (jCR_congr (jU_ne (by omega)) q1) y1.1) (fun K hK => ?_)
        obtain ⟨k1, k2⟩ := hK
        have ke : K 64 14 = nI (E.1 - 1) := by rw [k2 64 (by omega) (by omega), jU_eq, jV_eq]
        have k125 : K (125 + 18 * (E.1 - 1)) 1 = nI (E.2 (E.1 - 1)).2.1 := by rw [k2 _ (by omega) (by omega), jU_ne (by omega)]; exact q2
        simp (disch := omega) only [ke, ↓dR_64_8 hL, dA_124 hL, ↓dK_64 hL, ↓dG_64 hL, ↓dP_64 hL, ↓dR_64_7 hL, ↓dK_106 hL, ↓dG_106 hL, ↓dP_106 hL, ↓reduceIte, ↓kq_bi, ↓kq_let, ↓kq_rz0, ↓kq_rz1, ↓kq_rzB, ↓Option.bind_some, kq_dvn, kt_lt, kf_lt, kt_eq, kf_eq, decide_true, decide_false, eq_self, Bool.false_eq_true, Bool.true_eq_false, not_true_eq_false, not_false_eq_true, jU_eq, jU_ne, jU_U, jV_eq, jV_ne, jV_V, kn_lit, kn_add, kn_mul, kn_sdm, kn_sub, kn_div, kn_nsdm, kn_lt, kn_eq, kn_pred, kn_m1, kn_m1', kn_a31, kn_shl, kn_shr, kn_bit, nB_0, nB_1, nB_t, nB_f, Nat.zero_add, Nat.add_zero, Nat.reduceAdd, Nat.reduceMul, Nat.reduceSub, Nat.reducePow]
        refine jW_bn (c_copyFrom hL (Or.inl rfl) (jHa_e hlt) (by omega) k125 y2) (fun L hL' => ?_)
        obtain ⟨l1, l2, l3⟩ := hL'
        have le : L 64 14 = nI (E.1 - 1) := by rw [l3 64 (by omega) (by omega)]; exact ke
        simp (disch := omega) only [le, ↓dK_64 hL, ↓dG_64 hL, ↓dP_64 hL, ↓reduceIte, ↓kq_bi, ↓kq_let, ↓kq_rz0, ↓kq_rz1, ↓kq_rzB, ↓Option.bind_some, kq_dvn, kt_lt, kf_lt, kt_eq, kf_eq, decide_true, decide_false, eq_self, Bool.false_eq_true, Bool.true_eq_false, not_true_eq_false, not_false_eq_true, jU_eq, jU_ne, jU_U, jV_eq, jV_ne, jV_V, kn_lit, kn_add, kn_mul, kn_sdm, kn_sub, kn_div, kn_nsdm, kn_lt, kn_eq, kn_pred, kn_m1, kn_m1', kn_a31, kn_shl, kn_shr, kn_bit, nB_0, nB_1, nB_t, nB_f, Nat.zero_add, Nat.add_zero, Nat.reduceAdd, Nat.reduceMul, Nat.reduceSub, Nat.reducePow]
        refine jW_s (hP _ ⟨?_, ?_, fun i k hi hk => ?_, ?_, fun a x1 x2 x3 x4 x5 => ?_⟩)
        · exact jCS_cg (fun a x1 x2 => by rw [jU_ne (by omega)]; exact l3 a (by omega) (by omega)) k1
        · rw [jU_ne (by omega)]; exact l1
        · rw [jU_ne (by omega), l2 i k hi hk, k2 _ (by omega) (by omega), jU_ne (by omega)]
        · rw [jU_eq, l3 64 (by omega) (by omega), k2 64 (by omega) (by omega), jU_eq]
        · rw [jU_ne x1, l3 a x4 x5, k2 a x2 x3, jU_ne x1]
      obtain ⟨J, e2, j1, j2, j3, j4, j5⟩ := key
      refine ⟨J, e2, jCC_U hL hC (fun a x1 x2 x3 => j5 a x1 (by omega) (by omega) (by omega) (by omega)) j1 ⟨j2, fun i hi => ?_⟩ ⟨by rw [j4, jV_ne (by omega), jV_eq], fun e' he' => ?_⟩ (by rw [j4, jV_eq]) (by rw [j4, jV_ne (by omega), jV_ne (by omega)]) (by rw [j4, jV_ne (by omega), jV_ne (by omega)]), fun a ha => j5 a (by omega) (by omega) (by omega) (by omega) (by omega)⟩
      · have := q3 i hi
        rw [show 127 + 18 * (E.1 - 1) + i = 125 + 18 * (E.1 - 1) + 2 + i by omega] at this
        exact jCR_pt (J := J) (ρ' := 106 + 2 + i) (fun k hk => j3 i k hi hk) (y3 i hi).1.1 this
      · have he' : e' < E.1 - 1 := he'
        obtain ⟨q1, q2, q3⟩ := hE.2 e' (by omega)
        obtain ⟨-, y1, -⟩ := d2 e' (by omega)
        exact ⟨jCR_congr (j5 _ (by omega) (by omega) (by omega) (by omega) (by omega)) q1, by rw [j5 _ (by omega) (by omega) (by omega) (by omega) (by omega)]; exact q2, fun i hi => jCR_congr (j5 _ (by omega) (by omega) (by omega) (by omega) (by omega)) (q3 i hi)⟩
    · have hE := hC.2.2.2.2.1
      have e : I 205 42 = nI E.1 := hE.1
      obtain ⟨q1, q2, q3⟩ := hE.2 (E.1 - 1) (by omega)
      have key : ∃ J, F_Mod_restore 205 (jz_I h I) = some (nI (E.1 - 1), jz_I h J) ∧ J 205 40 = I (711 + (E.1 - 1)) 0 ∧ (∀ k, k < 134 → J 691 k = I (711 + (E.1 - 1)) (1 + k)) ∧ (∀ i k, i < 16 → k < 134 → J (694 + i) k = I (711 + (E.1 - 1)) (135 + (134 * i + k))) ∧ (∀ f, ¬ f = 0 → ¬ f = 40 → ¬ f = 41 → ¬ f = 42 → ¬ f = 43 → J 205 f = I 205 f) ∧ J 205 42 = nI (E.1 - 1) ∧ J 205 41 = nI 0 ∧ ∀ a, ¬ a = 205 → ¬ a = 691 → ¬ (694 ≤ a ∧ a < 710) → J a = I a := by
        refine jE_i (fun P hP => ?_)
        unfold F_Mod_restore
        simp (disch := omega) only [e, ↓dK_205 hL, ↓dG_205 hL, ↓dP_205 hL, ↓dZ_205 hL (x := nI 0) (Or.inl rfl), ↓dZ_205 hL (x := nI 1) (Or.inr rfl), ↓dZ_205 hL (Or.inl rfl), ↓dZ_205 hL (Or.inr rfl), ↓dZ_205 hL (nB_01 _), ↓dR_205_38 hL, dA_710 hL, dI_711 hL, dS_711 hL, ↓reduceIte, ↓kq_bi, ↓kq_let, ↓kq_rz0, ↓kq_rz1, ↓kq_rzB, ↓Option.bind_some, kq_dvn, kt_lt, kf_lt, kt_eq, kf_eq, decide_true, decide_false, eq_self, Bool.false_eq_true, Bool.true_eq_false, not_true_eq_false, not_false_eq_true, jU_eq, jU_ne, jU_U, jV_eq, jV_ne, jV_V, kn_lit, kn_add, kn_mul, kn_sdm, kn_sub, kn_div, kn_nsdm, kn_lt, kn_eq, kn_pred, kn_m1, kn_m1', kn_a31, kn_shl, kn_shr, kn_bit, nB_0, nB_1, nB_t, nB_f, Nat.zero_add, Nat.add_zero, Nat.reduceAdd, Nat.reduceMul, Nat.reduceSub, Nat.reducePow]
        refine jW_bn (m_loads hL hlt) (fun K hK => ?_)
        obtain ⟨k1, k2, k3, k4, k5⟩ := hK
        have k42 : K 205 42 = nI (E.1 - 1) := by rw [k4 42 (by omega) (by omega), jU_eq, jV_eq]
        simp (disch := omega) only [k42, ↓dK_205 hL, ↓dG_205 hL, ↓dP_205 hL, ↓dZ_205 hL (x := nI 0) (Or.inl rfl), ↓dZ_205 hL (x := nI 1) (Or.inr rfl), ↓dZ_205 hL (Or.inl rfl), ↓dZ_205 hL (Or.inr rfl), ↓dZ_205 hL (nB_01 _), ↓reduceIte, ↓kq_bi, ↓kq_let, ↓kq_rz0, ↓kq_rz1, ↓kq_rzB, ↓Option.bind_some, kq_dvn, kt_lt, kf_lt, kt_eq, kf_eq, decide_true, decide_false, eq_self, Bool.false_eq_true, Bool.true_eq_false, not_true_eq_false, not_false_eq_true, jU_eq, jU_ne, jU_U, jV_eq, jV_ne, jV_V, kn_lit, kn_add, kn_mul, kn_sdm, kn_sub, kn_div, kn_nsdm, kn_lt, kn_eq, kn_pred, kn_m1, kn_m1', kn_a31, kn_shl, kn_shr, kn_bit, nB_0, nB_1, nB_t, nB_f, Nat.zero_add, Nat.add_zero, Nat.reduceAdd, Nat.reduceMul, Nat.reduceSub, Nat.reducePow]
        refine jW_s (hP _ ⟨?_, fun k hk => ?_, fun i k hi hk => ?_, fun f f1 f2 f3 f4 f5 => ?_, ?_, ?_, fun a x1 x2 x3 => ?_⟩)
        · rw [jU_eq, jV_ne (by omega), k1, jU_ne (by omega)]
        · rw [jU_ne (by omega), k2 k hk, jU_ne (by omega)]
        · rw [jU_ne (by omega), k3 i k hi hk, jU_ne (by omega)]
        · rw [jU_eq, jV_ne f3, k4 f f5 f2, jU_eq, jV_ne f4, jV_ne f1]
        · rw [jU_eq, jV_ne (by omega)]; exact k42
        · rw [jU_eq, jV_eq]
        · rw [jU_ne x1, k5 a x1 x2 x3, jU_ne x1]
      obtain ⟨J, e2, j1, j2, j3, j4, j5, j6, j7⟩ := key
      refine ⟨J, e2, jMM_U hC hA (fun a ha => j7 a (by omega) (by omega) (by omega)) (fun f hf => j4 f (by omega) (by omega) (by omega) (by omega) (by omega)) (fun k hk => by rw [j2 k hk]; exact q2 k hk) ⟨j1.trans q1, fun i hi k hk => ?_⟩ ⟨j5, fun e' he' => ?_⟩ j6, fun a ha => j7 a (by omega) (by omega) (by omega)⟩
      · rw [j3 i k (by omega) hk]
        exact q3 i k hi hk
      · have he' : e' < E.1 - 1 := he'
        rw [j7 _ (by omega) (by omega) (by omega)]
        exact hE.2 e' (by omega)
    · obtain ⟨a1, a2, a3, a4, a5, a6, a7, a8, a9, a10⟩ := hA
      exact ⟨a1, a2, y1, a4, ⟨y2, y3⟩, ⟨by show E.1 - 1 ≤ 3; omega, fun e' he' => d2 e' (by have he' : e' < E.1 - 1 := he'; omega)⟩, a7, by omega, Nat.le_succ_of_le a9, Nat.le_succ_of_le a10⟩
end

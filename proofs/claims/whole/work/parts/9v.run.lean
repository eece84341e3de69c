/-! PLAIN LEAN: work is done; both sides run the steps -/
/-- both sides run the steps from s to e -/
def jXR (τ : JTn) (ω π : JLw) (Rc : Nat → Nat → Int32 → Int32 → Int32 → LH → Option LH) (RR : Nat → Int32 → Int32 → LH → Option LH) (o s e : Nat) : Prop := ∀ q, jXG τ q → ∃ q', jXG τ q' ∧ (∀ t u l m b c h, jLay t u l m b c h → ∀ J, jXC J t l τ ω π q → ∃ K, Rc 67 85 (nI (3 * s)) (nI (3 * e)) (nI o) (jz_I h J) = some (jz_I h K) ∧ jXC K t l τ ω π q' ∧ jXFc l J K) ∧ ∀ t u l m b c h, jLay t u l m b c h → ∀ J, jXM J τ ω π q → ∃ K, RR 205 (nI s) (nI e) (jz_I h J) = some (jz_I h K) ∧ jXM K τ ω π q' ∧ jXFm J K
section
variable {t u l m b c : Nat} {h : LH} {I J K L : Nat → Nat → Int32} {n o k i s e : Nat} {x : Int32} {π ω : JLw} {τ : JTn} {q q' : JXq} {r : JRw} {v : Nat → Nat} {Rc : Nat → Nat → Int32 → Int32 → Int32 → LH → Option LH} {RR : Nat → Int32 → Int32 → LH → Option LH} {f : Nat → Int32}
theorem jXC_67 (hL : jLay t u l m b c h) (hJ : jXC J t l τ ω π q) {x2 x3 x4 : Nat} (f1 : f 1 = J 67 1) (f2 : f 2 = nI x2) (f3 : f 3 = nI x3) (f4 : f 4 = nI x4) : jXC (jU J 67 f) t l τ ω π (q.1, x2, x3, x4) := by
  have ht := jLay_t hL
  have hl := jLay_l hL
  obtain ⟨⟨a1, a2, a3, a4⟩, b1, ⟨c1, c2⟩, -, -, -⟩ := hJ
  refine ⟨⟨jCT_congr (fun i hi => jU_ne (by omega)) a1, a2, jCL_cg (fun a ha => jU_ne (by omega)) a3, a4⟩, jCS_cg (fun a x1 x2 => jU_ne (by omega)) b1, ⟨by rw [jU_eq, f1]; exact c1, fun i hi => ?_⟩, by rw [jU_eq]; exact f2, by rw [jU_eq]; exact f3, by rw [jU_eq]; exact f4⟩
  have := c2 i hi
  unfold jPsC at this ⊢
  rw [jU_ne (by omega)]
  exact this
theorem jXFc_67 (f1 : f 1 = J 67 1) : jXFc l J (jU J 67 f) := ⟨by rw [jU_eq]; exact f1, fun a _ _ x3 => jU_ne x3⟩
theorem jXC_Sc (hL : jLay t u l m b c h) (hJ : jXC J t l τ ω π q) (hS : jCS K 85 τ false r) (hF : jSc l 85 J K) : jXC K t l τ ω π (r, q.2) := by
  have hl := jLay_l hL
  obtain ⟨a1, b1, ⟨c1, c2⟩, d1, d2, d3⟩ := hJ
  have e67 := hF 67 (by omega) (by omega)
  have e68 := hF 68 (by omega) (by omega)
  refine ⟨jCE_Sc hL (Or.inl rfl) hF a1, hS, ⟨by rw [e67]; exact c1, fun i hi => ?_⟩, by rw [e67]; exact d1, by rw [e67]; exact d2, by rw [e67]; exact d3⟩
  have := c2 i hi
  unfold jPsC at this ⊢
  rw [e68]
  exact this
theorem jXFc_Sc (hL : jLay t u l m b c h) (hF : jSc l 85 J K) : jXFc l J K := by
  have hl := jLay_l hL
  exact ⟨by rw [hF 67 (by omega) (by omega)], fun a x1 x2 x3 => hF a (by omega) x2⟩
theorem jXM_205 (hJ : jXM J τ ω π q) {x2 x3 x4 : Nat} (f25 : f 25 = J 205 25) (f44 : f 44 = J 205 44) (f2 : f 45 = nI x2) (f3 : f 46 = nI x3) (f4 : f 41 = nI x4) : jXM (jU J 205 f) τ ω π (q.1, x2, x3, x4) := by
  obtain ⟨⟨a1, a2, a3, a4, a5⟩, b1, c2, -, -, -⟩ := hJ
  refine ⟨⟨jMT_congr (fun a h1 h2 => jU_ne (by omega)) a2 a1, a2, jML_congr (fun a h1 h2 => jU_ne (by omega)) (by rw [jU_eq]; exact f25) a4 a3, a4, by rw [jU_eq, f44]; exact a5⟩, fun k hk => by rw [jU_ne (by omega)]; exact b1 k hk, fun i hi => ?_, by rw [jU_eq]; exact f2, by rw [jU_eq]; exact f3, by rw [jU_eq]; exact f4⟩
  have := c2 i hi
  unfold jPsM at this ⊢
  rw [jU_ne (by omega)]
  exact this
theorem jXFm_205 (hf : ∀ g, ¬ g = 41 → ¬ g = 45 → ¬ g = 46 → f g = J 205 g) : jXFm J (jU J 205 f) := ⟨fun g x1 x2 x3 => by rw [jU_eq]; exact hf g x1 x2 x3, fun a x1 _ _ _ => jU_ne x1⟩
theorem jXM_S3 (hπ : π.1 ≤ 80) (hJ : jXM J τ ω π q) (hS : jMR K 691 r) (hF : jS3 691 J K) : jXM K τ ω π (r, q.2) := by
  obtain ⟨a1, b1, c2, d1, d2, d3⟩ := hJ
  have e := hF 205 (by omega) (by omega) (by omega)
  refine ⟨jME_S3 (Or.inl rfl) hF a1, hS, fun i hi => ?_, by rw [e]; exact d1, by rw [e]; exact d2, by rw [e]; exact d3⟩
  have := c2 i hi
  unfold jPsM at this ⊢
  rw [hF (611 + i) (by omega) (by omega) (by omega)]
  exact this
theorem jXFm_S3 (hF : jS3 691 J K) : jXFm J K := ⟨fun g _ _ _ => by rw [hF 205 (by omega) (by omega) (by omega)], fun a _ x2 x3 x4 => hF a x2 x3 x4⟩
theorem x_again (hπ : π.1 ≤ 50) (hs : s < π.1) (h3 : π.2 s 0 = 3) (hx : ¬ π.2 s 3 = 0) (hx5 : π.2 s 3 ≤ 50) (h30 : π.2 s 1 ≤ 30) (ho : o ≤ 6) (hR : jXR τ ω π Rc RR (o + 1) (s + 1) (π.2 s 3)) : ∀ N i q, π.2 s 1 - i ≤ N → i ≤ 30 → jXG τ q → ∃ q', jXG τ q' ∧
    (∀ t u l m b c h, jLay t u l m b c h → ∀ J, jXC J t l τ ω π q → ∀ F, N < F → ∀ k11 (P : LH → Prop) e, (∀ K, jXC K t l τ ω π q' → jXFc l J K → jW (k11 67 85 (nI (3 * e)) (nI o) (nI (3 * π.2 s 3)) (jz_I h K)) P) → jW (F_Prog_runSteps_l75 Rc k11 F 67 85 (nI (3 * e)) (nI o) (nI (3 * s)) (nI (3 * π.2 s 3)) (nI i) (jz_I h J)) P) ∧
    ∀ t u l m b c h, jLay t u l m b c h → ∀ J, jXM J τ ω π q → ∀ F, N < F → ∀ k2 (P : LH → Prop) e, (∀ K, jXM K τ ω π q' → jXFm J K → jW (k2 205 (nI e) (nI (π.2 s 3)) (jz_I h K)) P) → jW (F_Mod_goes_l42 RR k2 F 205 (nI e) (nI s) (nI i) (jz_I h J)) P := by
  intro N
  induction N with
  | zero => ?_
  | succ N ih => ?_
  all_goals
    intro i q hi hi3 hq
    have hb2 := hq.2.1
    by_cases hc : ¬ (i < π.2 s 1 ∧ q.2.1 < 200)
    case pos =>
      refine ⟨q, hq, fun t u l m b c h hL J hJ F hF k11 P e hP => ?_, fun t u l m b c h hL J hJ F hF k2 P e hP => ?_⟩
      · obtain ⟨F, rfl⟩ : ∃ F', F = F' + 1 := ⟨F - 1, by omega⟩
        have e1 := (hJ.2.2.1.2 s hs).2.1 (by omega)
        have e2 := hJ.2.2.2.1
        have fin := hP J hJ jXFc_r
        show jW (F_Prog_runSteps_c75 Rc k11 (F_Prog_runSteps_l75 Rc k11 F) 67 85 (nI (3 * e)) (nI o) (nI (3 * s)) (nI (3 * π.2 s 3)) (nI i) (jz_I h J)) P
        unfold F_Prog_runSteps_c75
        by_cases h1 : i < π.2 s 1
        · first
          | (exfalso; omega)
          | (simp (disch := omega) only [e1, e2, F_Prog_runSteps_b120, F_Prog_runSteps_b179, ↓dR_64_1 hL, ↓dK_67 hL, ↓dG_67 hL, ↓dP_67 hL, ↓dR_67_0 hL, dI_68 hL, dS_68 hL, ↓reduceIte, ↓kq_bi, ↓kq_let, ↓kq_rz0, ↓kq_rz1, ↓kq_rzB, ↓Option.bind_some, kq_dvn, kt_lt, kf_lt, kt_eq, kf_eq, decide_true, decide_false, eq_self, Bool.false_eq_true, Bool.true_eq_false, not_true_eq_false, not_false_eq_true, jU_eq, jU_ne, jU_U, jV_eq, jV_ne, jV_V, kn_lit, kn_add, kn_mul, kn_sdm, kn_sub, kn_div, kn_nsdm, kn_lt, kn_eq, kn_pred, kn_m1, kn_m1', kn_a31, kn_shl, kn_shr, kn_bit, nB_0, nB_1, nB_t, nB_f, Nat.zero_add, Nat.add_zero, Nat.reduceAdd, Nat.reduceMul, Nat.reduceSub, Nat.reducePow]
             exact fin)
        · simp (disch := omega) only [e1, e2, F_Prog_runSteps_b120, F_Prog_runSteps_b179, ↓dR_64_1 hL, ↓dK_67 hL, ↓dG_67 hL, ↓dP_67 hL, ↓dR_67_0 hL, dI_68 hL, dS_68 hL, ↓reduceIte, ↓kq_bi, ↓kq_let, ↓kq_rz0, ↓kq_rz1, ↓kq_rzB, ↓Option.bind_some, kq_dvn, kt_lt, kf_lt, kt_eq, kf_eq, decide_true, decide_false, eq_self, Bool.false_eq_true, Bool.true_eq_false, not_true_eq_false, not_false_eq_true, jU_eq, jU_ne, jU_U, jV_eq, jV_ne, jV_V, kn_lit, kn_add, kn_mul, kn_sdm, kn_sub, kn_div, kn_nsdm, kn_lt, kn_eq, kn_pred, kn_m1, kn_m1', kn_a31, kn_shl, kn_shr, kn_bit, nB_0, nB_1, nB_t, nB_f, Nat.zero_add, Nat.add_zero, Nat.reduceAdd, Nat.reduceMul, Nat.reduceSub, Nat.reducePow]
          exact fin
      · obtain ⟨F, rfl⟩ : ∃ F', F = F' + 1 := ⟨F - 1, by omega⟩
        have e1 := (hJ.2.2.1 s hs).2.1 (by omega)
        have e3 := (hJ.2.2.1 s hs).2.2.2 hx
        have e2 := hJ.2.2.2.1
        have fin := hP J hJ jXFm_r
        show jW (F_Mod_goes_c42 RR k2 (F_Mod_goes_l42 RR k2 F) 205 (nI e) (nI s) (nI i) (jz_I h J)) P
        unfold F_Mod_goes_c42
        by_cases h1 : i < π.2 s 1
        · first
          | (exfalso; omega)
          | (simp (disch := omega) only [e1, e2, e3, F_Mod_goes_b86, F_Mod_goes_b143, ↓dK_205 hL, ↓dG_205 hL, ↓dP_205 hL, ↓dZ_205 hL (x := nI 0) (Or.inl rfl), ↓dZ_205 hL (x := nI 1) (Or.inr rfl), ↓dZ_205 hL (Or.inl rfl), ↓dZ_205 hL (Or.inr rfl), ↓dZ_205 hL (nB_01 _), ↓dR_205_33 hL, dA_610 hL, dI_611 hL, dS_611 hL, ↓reduceIte, ↓kq_bi, ↓kq_let, ↓kq_rz0, ↓kq_rz1, ↓kq_rzB, ↓Option.bind_some, kq_dvn, kt_lt, kf_lt, kt_eq, kf_eq, decide_true, decide_false, eq_self, Bool.false_eq_true, Bool.true_eq_false, not_true_eq_false, not_false_eq_true, jU_eq, jU_ne, jU_U, jV_eq, jV_ne, jV_V, kn_lit, kn_add, kn_mul, kn_sdm, kn_sub, kn_div, kn_nsdm, kn_lt, kn_eq, kn_pred, kn_m1, kn_m1', kn_a31, kn_shl, kn_shr, kn_bit, nB_0, nB_1, nB_t, nB_f, Nat.zero_add, Nat.add_zero, Nat.reduceAdd, Nat.reduceMul, Nat.reduceSub, Nat.reducePow]
             exact fin)
        · simp (disch := omega) only [e1, e2, e3, F_Mod_goes_b86, F_Mod_goes_b143, ↓dK_205 hL, ↓dG_205 hL, ↓dP_205 hL, ↓dZ_205 hL (x := nI 0) (Or.inl rfl), ↓dZ_205 hL (x := nI 1) (Or.inr rfl), ↓dZ_205 hL (Or.inl rfl), ↓dZ_205 hL (Or.inr rfl), ↓dZ_205 hL (nB_01 _), ↓dR_205_33 hL, dA_610 hL, dI_611 hL, dS_611 hL, ↓reduceIte, ↓kq_bi, ↓kq_let, ↓kq_rz0, ↓kq_rz1, ↓kq_rzB, ↓Option.bind_some, kq_dvn, kt_lt, kf_lt, kt_eq, kf_eq, decide_true, decide_false, eq_self, Bool.false_eq_true, Bool.true_eq_false, not_true_eq_false, not_false_eq_true, jU_eq, jU_ne, jU_U, jV_eq, jV_ne, jV_V, kn_lit, kn_add, kn_mul, kn_sdm, kn_sub, kn_div, kn_nsdm, kn_lt, kn_eq, kn_pred, kn_m1, kn_m1', kn_a31, kn_shl, kn_shr, kn_bit, nB_0, nB_1, nB_t, nB_f, Nat.zero_add, Nat.add_zero, Nat.reduceAdd, Nat.reduceMul, Nat.reduceSub, Nat.reducePow]
          exact fin
    have hc : i < π.2 s 1 ∧ q.2.1 < 200 := Decidable.not_not.mp hc
    obtain ⟨hc1, hc2⟩ := hc
  · omega
  · obtain ⟨q1, g1, rC, rM⟩ := hR q hq
    obtain ⟨q', g', lC, lM⟩ := ih (i + 1) q1 (by omega) (by omega) g1
    refine ⟨q', g', fun t u l m b c h hL J hJ F hF k11 P e hP => ?_, fun t u l m b c h hL J hJ F hF k2 P e hP => ?_⟩
    · obtain ⟨F, rfl⟩ : ∃ F', F = F' + 1 := ⟨F - 1, by omega⟩
      have e1 := (hJ.2.2.1.2 s hs).2.1 (by omega)
      have e2 := hJ.2.2.2.1
      have rc := rC t u l m b c h hL J hJ
      rw [show 3 * (s + 1) = 3 * s + 3 by omega] at rc
      show jW (F_Prog_runSteps_c75 Rc k11 (F_Prog_runSteps_l75 Rc k11 F) 67 85 (nI (3 * e)) (nI o) (nI (3 * s)) (nI (3 * π.2 s 3)) (nI i) (jz_I h J)) P
      unfold F_Prog_runSteps_c75
      simp (disch := omega) only [e1, e2, ↓dR_64_1 hL, ↓dK_67 hL, ↓dG_67 hL, ↓dP_67 hL, ↓dR_67_0 hL, dI_68 hL, dS_68 hL, ↓reduceIte, ↓kq_bi, ↓kq_let, ↓kq_rz0, ↓kq_rz1, ↓kq_rzB, ↓Option.bind_some, kq_dvn, kt_lt, kf_lt, kt_eq, kf_eq, decide_true, decide_false, eq_self, Bool.false_eq_true, Bool.true_eq_false, not_true_eq_false, not_false_eq_true, jU_eq, jU_ne, jU_U, jV_eq, jV_ne, jV_V, kn_lit, kn_add, kn_mul, kn_sdm, kn_sub, kn_div, kn_nsdm, kn_lt, kn_eq, kn_pred, kn_m1, kn_m1', kn_a31, kn_shl, kn_shr, kn_bit, nB_0, nB_1, nB_t, nB_f, Nat.zero_add, Nat.add_zero, Nat.reduceAdd, Nat.reduceMul, Nat.reduceSub, Nat.reducePow]
      refine jW_bn rc (fun K hK => ?_)
      exact lC t u l m b c h hL K hK.1 F (by omega) k11 P e (fun M m1 m2 => hP M m1 (jXFc_trans hK.2 m2))
    · obtain ⟨F, rfl⟩ : ∃ F', F = F' + 1 := ⟨F - 1, by omega⟩
      have e1 := (hJ.2.2.1 s hs).2.1 (by omega)
      have e3 := (hJ.2.2.1 s hs).2.2.2 hx
      have e2 := hJ.2.2.2.1
      have rc := rM t u l m b c h hL J hJ
      show jW (F_Mod_goes_c42 RR k2 (F_Mod_goes_l42 RR k2 F) 205 (nI e) (nI s) (nI i) (jz_I h J)) P
      unfold F_Mod_goes_c42
      simp (disch := omega) only [e1, e2, e3, ↓dK_205 hL, ↓dG_205 hL, ↓dP_205 hL, ↓dZ_205 hL (x := nI 0) (Or.inl rfl), ↓dZ_205 hL (x := nI 1) (Or.inr rfl), ↓dZ_205 hL (Or.inl rfl), ↓dZ_205 hL (Or.inr rfl), ↓dZ_205 hL (nB_01 _), ↓dR_205_33 hL, dA_610 hL, dI_611 hL, dS_611 hL, ↓reduceIte, ↓kq_bi, ↓kq_let, ↓kq_rz0, ↓kq_rz1, ↓kq_rzB, ↓Option.bind_some, kq_dvn, kt_lt, kf_lt, kt_eq, kf_eq, decide_true, decide_false, eq_self, Bool.false_eq_true, Bool.true_eq_false, not_true_eq_false, not_false_eq_true, jU_eq, jU_ne, jU_U, jV_eq, jV_ne, jV_V, kn_lit, kn_add, kn_mul, kn_sdm, kn_sub, kn_div, kn_nsdm, kn_lt, kn_eq, kn_pred, kn_m1, kn_m1', kn_a31, kn_shl, kn_shr, kn_bit, nB_0, nB_1, nB_t, nB_f, Nat.zero_add, Nat.add_zero, Nat.reduceAdd, Nat.reduceMul, Nat.reduceSub, Nat.reducePow]
      refine jW_bn rc (fun K hK => ?_)
      exact lM t u l m b c h hL K hK.1 F (by omega) k2 P e (fun M m1 m2 => hP M m1 (jXFm_trans hK.2 m2))
theorem x_runs (hT : jTOK τ) (hπ : π.1 ≤ 50) (hp : ∀ i, i < π.1 → ¬ π.2 i 3 = 0 ∧ jPok τ π.2 π.1 i) (ho : o ≤ 6) (he : e ≤ π.1) (hR : ∀ s e, o ≤ 5 → s ≤ 50 → e ≤ π.1 → (∀ j, s ≤ j → j < e → o + 1 ≤ π.2 j 4) → jXR τ ω π Rc RR (o + 1) s e) : ∀ N s q, e - s ≤ N → s ≤ 50 → (∀ j, s ≤ j → j < e → o ≤ π.2 j 4) → jXG τ q → ∃ q', jXG τ q' ∧
    (∀ t u l m b c h, jLay t u l m b c h → ∀ J, jXC J t l τ ω π q → ∀ F, N < F → ∃ K, F_Prog_runSteps_l11 Rc F 67 85 (nI (3 * e)) (nI o) (nI (3 * s)) (jz_I h J) = some (jz_I h K) ∧ jXC K t l τ ω π q' ∧ jXFc l J K) ∧
    ∀ t u l m b c h, jLay t u l m b c h → ∀ J, jXM J τ ω π q → ∀ F, N < F → ∃ K, F_Mod_goes_l2 RR F 205 (nI e) (nI s) (jz_I h J) = some (jz_I h K) ∧ jXM K τ ω π q' ∧ jXFm J K := by
  intro N
  induction N with
  | zero => ?_
  | succ N ih => ?_
  all_goals
    intro s q hi hs5 hj hq
    have hb2 := hq.2.1
    by_cases hc : ¬ (s < e ∧ q.2.1 < 200)
    case pos =>
      refine ⟨q, hq, fun t u l m b c h hL J hJ F hF => jE_n (fun P hP => ?_), fun t u l m b c h hL J hJ F hF => jE_n (fun P hP => ?_)⟩
      · obtain ⟨F, rfl⟩ : ∃ F', F = F' + 1 := ⟨F - 1, by omega⟩
        have e2 := hJ.2.2.2.1
        show jW (F_Prog_runSteps_c11 Rc (F_Prog_runSteps_l11 Rc F) 67 85 (nI (3 * e)) (nI o) (nI (3 * s)) (jz_I h J)) P
        unfold F_Prog_runSteps_c11
        by_cases h1 : s < e
        · first
          | (exfalso; omega)
          | (simp (disch := omega) only [e2, F_Prog_runSteps_b186, ↓dR_64_1 hL, ↓dK_67 hL, ↓dG_67 hL, ↓dP_67 hL, ↓reduceIte, ↓kq_bi, ↓kq_let, ↓kq_rz0, ↓kq_rz1, ↓kq_rzB, ↓Option.bind_some, kq_dvn, kt_lt, kf_lt, kt_eq, kf_eq, decide_true, decide_false, eq_self, Bool.false_eq_true, Bool.true_eq_false, not_true_eq_false, not_false_eq_true, jU_eq, jU_ne, jU_U, jV_eq, jV_ne, jV_V, kn_lit, kn_add, kn_mul, kn_sdm, kn_sub, kn_div, kn_nsdm, kn_lt, kn_eq, kn_pred, kn_m1, kn_m1', kn_a31, kn_shl, kn_shr, kn_bit, nB_0, nB_1, nB_t, nB_f, Nat.zero_add, Nat.add_zero, Nat.reduceAdd, Nat.reduceMul, Nat.reduceSub, Nat.reducePow]
             exact jW_s (hP J ⟨hJ, jXFc_r⟩))
        · simp (disch := omega) only [e2, F_Prog_runSteps_b186, ↓dR_64_1 hL, ↓dK_67 hL, ↓dG_67 hL, ↓dP_67 hL, ↓reduceIte, ↓kq_bi, ↓kq_let, ↓kq_rz0, ↓kq_rz1, ↓kq_rzB, ↓Option.bind_some, kq_dvn, kt_lt, kf_lt, kt_eq, kf_eq, decide_true, decide_false, eq_self, Bool.false_eq_true, Bool.true_eq_false, not_true_eq_false, not_false_eq_true, jU_eq, jU_ne, jU_U, jV_eq, jV_ne, jV_V, kn_lit, kn_add, kn_mul, kn_sdm, kn_sub, kn_div, kn_nsdm, kn_lt, kn_eq, kn_pred, kn_m1, kn_m1', kn_a31, kn_shl, kn_shr, kn_bit, nB_0, nB_1, nB_t, nB_f, Nat.zero_add, Nat.add_zero, Nat.reduceAdd, Nat.reduceMul, Nat.reduceSub, Nat.reducePow]
          exact jW_s (hP J ⟨hJ, jXFc_r⟩)
      · obtain ⟨F, rfl⟩ : ∃ F', F = F' + 1 := ⟨F - 1, by omega⟩
        have e2 := hJ.2.2.2.1
        show jW (F_Mod_goes_c2 RR (F_Mod_goes_l2 RR F) 205 (nI e) (nI s) (jz_I h J)) P
        unfold F_Mod_goes_c2
        by_cases h1 : s < e
        · first
          | (exfalso; omega)
          | (simp (disch := omega) only [e2, F_Mod_goes_b155, ↓dK_205 hL, ↓dG_205 hL, ↓dP_205 hL, ↓dZ_205 hL (x := nI 0) (Or.inl rfl), ↓dZ_205 hL (x := nI 1) (Or.inr rfl), ↓dZ_205 hL (Or.inl rfl), ↓dZ_205 hL (Or.inr rfl), ↓dZ_205 hL (nB_01 _), ↓reduceIte, ↓kq_bi, ↓kq_let, ↓kq_rz0, ↓kq_rz1, ↓kq_rzB, ↓Option.bind_some, kq_dvn, kt_lt, kf_lt, kt_eq, kf_eq, decide_true, decide_false, eq_self, Bool.false_eq_true, Bool.true_eq_false, not_true_eq_false, not_false_eq_true, jU_eq, jU_ne, jU_U, jV_eq, jV_ne, jV_V, kn_lit, kn_add, kn_mul, kn_sdm, kn_sub, kn_div, kn_nsdm, kn_lt, kn_eq, kn_pred, kn_m1, kn_m1', kn_a31, kn_shl, kn_shr, kn_bit, nB_0, nB_1, nB_t, nB_f, Nat.zero_add, Nat.add_zero, Nat.reduceAdd, Nat.reduceMul, Nat.reduceSub, Nat.reducePow]
             exact jW_s (hP J ⟨hJ, jXFm_r⟩))
        · simp (disch := omega) only [e2, F_Mod_goes_b155, ↓dK_205 hL, ↓dG_205 hL, ↓dP_205 hL, ↓dZ_205 hL (x := nI 0) (Or.inl rfl), ↓dZ_205 hL (x := nI 1) (Or.inr rfl), ↓dZ_205 hL (Or.inl rfl), ↓dZ_205 hL (Or.inr rfl), ↓dZ_205 hL (nB_01 _), ↓reduceIte, ↓kq_bi, ↓kq_let, ↓kq_rz0, ↓kq_rz1, ↓kq_rzB, ↓Option.bind_some, kq_dvn, kt_lt, kf_lt, kt_eq, kf_eq, decide_true, decide_false, eq_self, Bool.false_eq_true, Bool.true_eq_false, not_true_eq_false, not_false_eq_true, jU_eq, jU_ne, jU_U, jV_eq, jV_ne, jV_V, kn_lit, kn_add, kn_mul, kn_sdm, kn_sub, kn_div, kn_nsdm, kn_lt, kn_eq, kn_pred, kn_m1, kn_m1', kn_a31, kn_shl, kn_shr, kn_bit, nB_0, nB_1, nB_t, nB_f, Nat.zero_add, Nat.add_zero, Nat.reduceAdd, Nat.reduceMul, Nat.reduceSub, Nat.reducePow]
          exact jW_s (hP J ⟨hJ, jXFm_r⟩)
    have hc : s < e ∧ q.2.1 < 200 := Decidable.not_not.mp hc
    obtain ⟨hc1, hc2⟩ := hc
  · omega
  · obtain ⟨hx, ⟨p1, p2⟩, p3, p4, p5, p6, p7, p8⟩ := hp s (by omega)
    have hd3 : q.2.2.1 ≤ q.2.1 := hq.2.2.1
    have hd4 : q.2.2.2 ≤ q.2.1 := hq.2.2.2
    have hq1 : jXG τ (q.1, q.2.1 + 1, q.2.2.1, q.2.2.2) := ⟨hq.1, by show q.2.1 + 1 ≤ 200; omega, by show q.2.2.1 ≤ q.2.1 + 1; omega, by show q.2.2.2 ≤ q.2.1 + 1; omega⟩
    by_cases k3 : π.2 s 0 = 3
    · obtain ⟨b1, b2, b3⟩ := p8 k3
      have ho5 : o ≤ 5 := Nat.le_trans (hj s (Nat.le_refl _) hc1) b2
      have hos := hj s (Nat.le_refl _) hc1
      obtain ⟨q2, g2, aC, aM⟩ := x_again (Rc := Rc) (RR := RR) hπ (by omega) k3 hx (by omega) b1 ho (hR (s + 1) (π.2 s 3) ho5 (by omega) p3 (fun j j1 j2 => by have := b3 j (by omega) j2; omega)) (π.2 s 1) 0 _ (by omega) (by omega) hq1
      obtain ⟨q', g', lC, lM⟩ := ih (π.2 s 3) q2 (by omega) (by omega) (fun j j1 j2 => hj j (by omega) j2) g2
      refine ⟨q', g', fun t u l m b c h hL J hJ F hF => jE_n (fun P hP => ?_), fun t u l m b c h hL J hJ F hF => jE_n (fun P hP => ?_)⟩
      · obtain ⟨F, rfl⟩ : ∃ F', F = F' + 1 := ⟨F - 1, by omega⟩
        obtain ⟨w0, w1, w2, w3⟩ := hJ.2.2.1.2 s (by omega)
        have e3 := w3 k3 hx
        have e0 := w0
        rw [k3] at e0
        have e2 := hJ.2.2.2.1
        have J1 := jXC_67 (f := jV (J 67) 2 (nI (q.2.1 + 1))) hL hJ (jV_ne (by omega)) jV_eq ((jV_ne (by omega)).trans hJ.2.2.2.2.1) ((jV_ne (by omega)).trans hJ.2.2.2.2.2)
        have f1 := jXFc_67 (l := l) (J := J) (f := jV (J 67) 2 (nI (q.2.1 + 1))) (jV_ne (by omega))
        show jW (F_Prog_runSteps_c11 Rc (F_Prog_runSteps_l11 Rc F) 67 85 (nI (3 * e)) (nI o) (nI (3 * s)) (jz_I h J)) P
        unfold F_Prog_runSteps_c11
        have tail := aC t u l m b c h hL _ J1 jF (by show π.2 s 1 < 1000; omega) (F_Prog_runSteps_l11 Rc F) P e (fun K c1 c2 => by
          obtain ⟨M, eM, m1, m2⟩ := lC t u l m b c h hL K c1 F (by omega)
          exact jW_e eM (hP M ⟨m1, jXFc_trans f1 (jXFc_trans c2 m2)⟩))
        by_cases z : 3 * s + 3 < 3 * π.2 s 3
        · simp (disch := omega) only [e0, e2, e3, ↓dR_64_1 hL, ↓dK_67 hL, ↓dG_67 hL, ↓dP_67 hL, ↓dR_67_0 hL, dI_68 hL, dS_68 hL, ↓reduceIte, ↓kq_bi, ↓kq_let, ↓kq_rz0, ↓kq_rz1, ↓kq_rzB, ↓Option.bind_some, kq_dvn, kt_lt, kf_lt, kt_eq, kf_eq, decide_true, decide_false, eq_self, Bool.false_eq_true, Bool.true_eq_false, not_true_eq_false, not_false_eq_true, jU_eq, jU_ne, jU_U, jV_eq, jV_ne, jV_V, kn_lit, kn_add, kn_mul, kn_sdm, kn_sub, kn_div, kn_nsdm, kn_lt, kn_eq, kn_pred, kn_m1, kn_m1', kn_a31, kn_shl, kn_shr, kn_bit, nB_0, nB_1, nB_t, nB_f, Nat.zero_add, Nat.add_zero, Nat.reduceAdd, Nat.reduceMul, Nat.reduceSub, Nat.reducePow]
          exact tail
        · have z : π.2 s 3 = s + 1 := by omega
          rw [z, show 3 * (s + 1) = 3 * s + 3 by omega] at tail e3
          simp (disch := omega) only [e0, e2, e3, ↓dR_64_1 hL, ↓dK_67 hL, ↓dG_67 hL, ↓dP_67 hL, ↓dR_67_0 hL, dI_68 hL, dS_68 hL, ↓reduceIte, ↓kq_bi, ↓kq_let, ↓kq_rz0, ↓kq_rz1, ↓kq_rzB, ↓Option.bind_some, kq_dvn, kt_lt, kf_lt, kt_eq, kf_eq, decide_true, decide_false, eq_self, Bool.false_eq_true, Bool.true_eq_false, not_true_eq_false, not_false_eq_true, jU_eq, jU_ne, jU_U, jV_eq, jV_ne, jV_V, kn_lit, kn_add, kn_mul, kn_sdm, kn_sub, kn_div, kn_nsdm, kn_lt, kn_eq, kn_pred, kn_m1, kn_m1', kn_a31, kn_shl, kn_shr, kn_bit, nB_0, nB_1, nB_t, nB_f, Nat.zero_add, Nat.add_zero, Nat.reduceAdd, Nat.reduceMul, Nat.reduceSub, Nat.reducePow]
          exact tail
      · obtain ⟨F, rfl⟩ : ∃ F', F = F' + 1 := ⟨F - 1, by omega⟩
        obtain ⟨w0, w1, w2, w3⟩ := hJ.2.2.1 s (by omega)
        have e3 := w3 hx
        have e0 := w0
        rw [k3] at e0
        have e2 := hJ.2.2.2.1
        have J1 := jXM_205 (f := jV (J 205) 45 (nI (q.2.1 + 1))) hJ (jV_ne (by omega)) (jV_ne (by omega)) jV_eq ((jV_ne (by omega)).trans hJ.2.2.2.2.1) ((jV_ne (by omega)).trans hJ.2.2.2.2.2)
        have f1 := jXFm_205 (J := J) (f := jV (J 205) 45 (nI (q.2.1 + 1))) (fun g x1 x2 x3 => jV_ne x2)
        show jW (F_Mod_goes_c2 RR (F_Mod_goes_l2 RR F) 205 (nI e) (nI s) (jz_I h J)) P
        unfold F_Mod_goes_c2
        have tail := aM t u l m b c h hL _ J1 jF (by show π.2 s 1 < 1000; omega) (F_Mod_goes_l2 RR F) P e (fun K c1 c2 => by
          obtain ⟨M, eM, m1, m2⟩ := lM t u l m b c h hL K c1 F (by omega)
          exact jW_e eM (hP M ⟨m1, jXFm_trans f1 (jXFm_trans c2 m2)⟩))
        simp (disch := omega) only [e0, e2, e3, ↓dK_205 hL, ↓dG_205 hL, ↓dP_205 hL, ↓dZ_205 hL (x := nI 0) (Or.inl rfl), ↓dZ_205 hL (x := nI 1) (Or.inr rfl), ↓dZ_205 hL (Or.inl rfl), ↓dZ_205 hL (Or.inr rfl), ↓dZ_205 hL (nB_01 _), ↓dR_205_33 hL, dA_610 hL, dI_611 hL, dS_611 hL, ↓reduceIte, ↓kq_bi, ↓kq_let, ↓kq_rz0, ↓kq_rz1, ↓kq_rzB, ↓Option.bind_some, kq_dvn, kt_lt, kf_lt, kt_eq, kf_eq, decide_true, decide_false, eq_self, Bool.false_eq_true, Bool.true_eq_false, not_true_eq_false, not_false_eq_true, jU_eq, jU_ne, jU_U, jV_eq, jV_ne, jV_V, kn_lit, kn_add, kn_mul, kn_sdm, kn_sub, kn_div, kn_nsdm, kn_lt, kn_eq, kn_pred, kn_m1, kn_m1', kn_a31, kn_shl, kn_shr, kn_bit, nB_0, nB_1, nB_t, nB_f, Nat.zero_add, Nat.add_zero, Nat.reduceAdd, Nat.reduceMul, Nat.reduceSub, Nat.reducePow]
        exact tail
    · have ep : π.2 s 3 = s + 1 := p2 k3
      have hr := hq.1
      have g2 : jXG τ (s_doq (s_do τ ω q.1 (π.2 s)) q) := by
        refine ⟨s_do_g hT hr p6 p7, by show q.2.1 + 1 ≤ 200; omega, ?_, ?_⟩
        · show q.2.2.1 + (if (s_do τ ω q.1 (π.2 s)).1 = true then 1 else 0) ≤ q.2.1 + 1
          split <;> omega
        · show q.2.2.2 + (if (s_do τ ω q.1 (π.2 s)).1 = true then 0 else 1) ≤ q.2.1 + 1
          split <;> omega
      obtain ⟨q', g', lC, lM⟩ := ih (s + 1) _ (by omega) (by omega) (fun j j1 j2 => hj j (by omega) j2) g2
      refine ⟨q', g', fun t u l m b c h hL J hJ F hF => jE_n (fun P hP => ?_), fun t u l m b c h hL J hJ F hF => jE_n (fun P hP => ?_)⟩
      · obtain ⟨F, rfl⟩ : ∃ F', F = F' + 1 := ⟨F - 1, by omega⟩
        obtain ⟨w0, w1, w2, w3⟩ := hJ.2.2.1.2 s (by omega)
        have e2 := hJ.2.2.2.1
        have J1 := jXC_67 (f := jV (J 67) 2 (nI (q.2.1 + 1))) hL hJ (jV_ne (by omega)) jV_eq ((jV_ne (by omega)).trans hJ.2.2.2.2.1) ((jV_ne (by omega)).trans hJ.2.2.2.2.2)
        have f1 := jXFc_67 (l := l) (J := J) (f := jV (J 67) 2 (nI (q.2.1 + 1))) (jV_ne (by omega))
        show jW (F_Prog_runSteps_c11 Rc (F_Prog_runSteps_l11 Rc F) 67 85 (nI (3 * e)) (nI o) (nI (3 * s)) (jz_I h J)) P
        unfold F_Prog_runSteps_c11
        simp (disch := omega) only [w0, e2, ↓dR_64_1 hL, ↓dK_67 hL, ↓dG_67 hL, ↓dP_67 hL, ↓dR_67_0 hL, dI_68 hL, dS_68 hL, ↓reduceIte, ↓kq_bi, ↓kq_let, ↓kq_rz0, ↓kq_rz1, ↓kq_rzB, ↓Option.bind_some, kq_dvn, kt_lt, kf_lt, kt_eq, kf_eq, decide_true, decide_false, eq_self, Bool.false_eq_true, Bool.true_eq_false, not_true_eq_false, not_false_eq_true, jU_eq, jU_ne, jU_U, jV_eq, jV_ne, jV_V, kn_lit, kn_add, kn_mul, kn_sdm, kn_sub, kn_div, kn_nsdm, kn_lt, kn_eq, kn_pred, kn_m1, kn_m1', kn_a31, kn_shl, kn_shr, kn_bit, nB_0, nB_1, nB_t, nB_f, Nat.zero_add, Nat.add_zero, Nat.reduceAdd, Nat.reduceMul, Nat.reduceSub, Nat.reducePow]
        refine jW_bi (c_do hL J1.1 J1.2.1 hr (by omega) p6 p7 w1 w2) (fun K hK => ?_)
        have K1 := jXC_Sc hL J1 hK.1 hK.2
        have fK := jXFc_Sc hL hK.2
        have k3' : K 67 3 = nI q.2.2.1 := K1.2.2.2.2.1
        have k4' : K 67 4 = nI q.2.2.2 := K1.2.2.2.2.2
        have k2' : K 67 2 = nI (q.2.1 + 1) := K1.2.2.2.1
        have lC' := fun M hM => lC t u l m b c h hL M hM F (by omega)
        rw [show 3 * (s + 1) = 3 * s + 3 by omega] at lC'
        cases hd : (s_do τ ω q.1 (π.2 s)).1
        · simp (disch := omega) only [k4', F_Prog_runSteps_b179, ↓dR_64_1 hL, ↓dK_67 hL, ↓dG_67 hL, ↓dP_67 hL, ↓reduceIte, ↓kq_bi, ↓kq_let, ↓kq_rz0, ↓kq_rz1, ↓kq_rzB, ↓Option.bind_some, kq_dvn, kt_lt, kf_lt, kt_eq, kf_eq, decide_true, decide_false, eq_self, Bool.false_eq_true, Bool.true_eq_false, not_true_eq_false, not_false_eq_true, jU_eq, jU_ne, jU_U, jV_eq, jV_ne, jV_V, kn_lit, kn_add, kn_mul, kn_sdm, kn_sub, kn_div, kn_nsdm, kn_lt, kn_eq, kn_pred, kn_m1, kn_m1', kn_a31, kn_shl, kn_shr, kn_bit, nB_0, nB_1, nB_t, nB_f, Nat.zero_add, Nat.add_zero, Nat.reduceAdd, Nat.reduceMul, Nat.reduceSub, Nat.reducePow]
          have K2 := jXC_67 (f := jV (K 67) 4 (nI (q.2.2.2 + 1))) hL K1 (jV_ne (by omega)) ((jV_ne (by omega)).trans k2') ((jV_ne (by omega)).trans k3') jV_eq
          have fK2 := jXFc_67 (l := l) (J := K) (f := jV (K 67) 4 (nI (q.2.2.2 + 1))) (jV_ne (by omega))
          obtain ⟨M, eM, m1, m2⟩ := lC' _ (by unfold s_doq; rw [hd]; exact K2)
          exact jW_e eM (hP M ⟨m1, jXFc_trans f1 (jXFc_trans fK (jXFc_trans fK2 m2))⟩)
        · simp (disch := omega) only [k3', F_Prog_runSteps_b179, ↓dR_64_1 hL, ↓dK_67 hL, ↓dG_67 hL, ↓dP_67 hL, ↓reduceIte, ↓kq_bi, ↓kq_let, ↓kq_rz0, ↓kq_rz1, ↓kq_rzB, ↓Option.bind_some, kq_dvn, kt_lt, kf_lt, kt_eq, kf_eq, decide_true, decide_false, eq_self, Bool.false_eq_true, Bool.true_eq_false, not_true_eq_false, not_false_eq_true, jU_eq, jU_ne, jU_U, jV_eq, jV_ne, jV_V, kn_lit, kn_add, kn_mul, kn_sdm, kn_sub, kn_div, kn_nsdm, kn_lt, kn_eq, kn_pred, kn_m1, kn_m1', kn_a31, kn_shl, kn_shr, kn_bit, nB_0, nB_1, nB_t, nB_f, Nat.zero_add, Nat.add_zero, Nat.reduceAdd, Nat.reduceMul, Nat.reduceSub, Nat.reducePow]
          have K2 := jXC_67 (f := jV (K 67) 3 (nI (q.2.2.1 + 1))) hL K1 (jV_ne (by omega)) ((jV_ne (by omega)).trans k2') jV_eq ((jV_ne (by omega)).trans k4')
          have fK2 := jXFc_67 (l := l) (J := K) (f := jV (K 67) 3 (nI (q.2.2.1 + 1))) (jV_ne (by omega))
          obtain ⟨M, eM, m1, m2⟩ := lC' _ (by unfold s_doq; rw [hd]; exact K2)
          exact jW_e eM (hP M ⟨m1, jXFc_trans f1 (jXFc_trans fK (jXFc_trans fK2 m2))⟩)
      · obtain ⟨F, rfl⟩ : ∃ F', F = F' + 1 := ⟨F - 1, by omega⟩
        obtain ⟨w0, w1, w2, w3⟩ := hJ.2.2.1 s (by omega)
        have e3 := w3 hx
        rw [ep] at e3
        have e2 := hJ.2.2.2.1
        have J1 := jXM_205 (f := jV (J 205) 45 (nI (q.2.1 + 1))) hJ (jV_ne (by omega)) (jV_ne (by omega)) jV_eq ((jV_ne (by omega)).trans hJ.2.2.2.2.1) ((jV_ne (by omega)).trans hJ.2.2.2.2.2)
        have f1 := jXFm_205 (J := J) (f := jV (J 205) 45 (nI (q.2.1 + 1))) (fun g x1 x2 x3 => jV_ne x2)
        show jW (F_Mod_goes_c2 RR (F_Mod_goes_l2 RR F) 205 (nI e) (nI s) (jz_I h J)) P
        unfold F_Mod_goes_c2
        simp (disch := omega) only [w0, e2, ↓dK_205 hL, ↓dG_205 hL, ↓dP_205 hL, ↓dZ_205 hL (x := nI 0) (Or.inl rfl), ↓dZ_205 hL (x := nI 1) (Or.inr rfl), ↓dZ_205 hL (Or.inl rfl), ↓dZ_205 hL (Or.inr rfl), ↓dZ_205 hL (nB_01 _), ↓dR_205_33 hL, dA_610 hL, dI_611 hL, dS_611 hL, ↓dR_205_35 hL, dI_691 hL, dS_691 hL, ↓reduceIte, ↓kq_bi, ↓kq_let, ↓kq_rz0, ↓kq_rz1, ↓kq_rzB, ↓Option.bind_some, kq_dvn, kt_lt, kf_lt, kt_eq, kf_eq, decide_true, decide_false, eq_self, Bool.false_eq_true, Bool.true_eq_false, not_true_eq_false, not_false_eq_true, jU_eq, jU_ne, jU_U, jV_eq, jV_ne, jV_V, kn_lit, kn_add, kn_mul, kn_sdm, kn_sub, kn_div, kn_nsdm, kn_lt, kn_eq, kn_pred, kn_m1, kn_m1', kn_a31, kn_shl, kn_shr, kn_bit, nB_0, nB_1, nB_t, nB_f, Nat.zero_add, Nat.add_zero, Nat.reduceAdd, Nat.reduceMul, Nat.reduceSub, Nat.reducePow]
        have E0 : (jU J 205 (jV (J 205) 45 (nI (q.2.1 + 1)))) (611 + s) = J (611 + s) := jU_ne (by omega)
        refine jW_bi (m_do hL J1.1 J1.2.1 hr (by omega) (by omega) p6 p7 (by rw [E0]; exact w0) (by rw [E0]; exact w1) (by rw [E0]; exact w2)) (fun K hK => ?_)
        have K1 := jXM_S3 (by omega) J1 hK.1 hK.2
        have fK := jXFm_S3 hK.2
        have k3' : K 205 46 = nI q.2.2.1 := K1.2.2.2.2.1
        have k4' : K 205 41 = nI q.2.2.2 := K1.2.2.2.2.2
        have k2' : K 205 45 = nI (q.2.1 + 1) := K1.2.2.2.1
        have ke3 : K (611 + s) 3 = nI (s + 1) := by rw [hK.2 (611 + s) (by omega) (by omega) (by omega), E0]; exact e3
        cases hd : (s_do τ ω q.1 (π.2 s)).1
        · simp (disch := omega) only [k3', k4', ke3, F_Mod_goes_b120, F_Mod_goes_b139, F_Mod_goes_b143, ↓dK_205 hL, ↓dG_205 hL, ↓dP_205 hL, ↓dZ_205 hL (x := nI 0) (Or.inl rfl), ↓dZ_205 hL (x := nI 1) (Or.inr rfl), ↓dZ_205 hL (Or.inl rfl), ↓dZ_205 hL (Or.inr rfl), ↓dZ_205 hL (nB_01 _), ↓dR_205_33 hL, dA_610 hL, dI_611 hL, dS_611 hL, ↓reduceIte, ↓kq_bi, ↓kq_let, ↓kq_rz0, ↓kq_rz1, ↓kq_rzB, ↓Option.bind_some, kq_dvn, kt_lt, kf_lt, kt_eq, kf_eq, decide_true, decide_false, eq_self, Bool.false_eq_true, Bool.true_eq_false, not_true_eq_false, not_false_eq_true, jU_eq, jU_ne, jU_U, jV_eq, jV_ne, jV_V, kn_lit, kn_add, kn_mul, kn_sdm, kn_sub, kn_div, kn_nsdm, kn_lt, kn_eq, kn_pred, kn_m1, kn_m1', kn_a31, kn_shl, kn_shr, kn_bit, nB_0, nB_1, nB_t, nB_f, Nat.zero_add, Nat.add_zero, Nat.reduceAdd, Nat.reduceMul, Nat.reduceSub, Nat.reducePow]
          have K2 := jXM_205 (f := jV (jV (K 205) 46 (nI q.2.2.1)) 41 (nI (q.2.2.2 + 1))) K1 ((jV_ne (by omega)).trans (jV_ne (by omega))) ((jV_ne (by omega)).trans (jV_ne (by omega))) (((jV_ne (by omega)).trans (jV_ne (by omega))).trans k2') ((jV_ne (by omega)).trans jV_eq) jV_eq
          have fK2 := jXFm_205 (J := K) (f := jV (jV (K 205) 46 (nI q.2.2.1)) 41 (nI (q.2.2.2 + 1))) (fun g x1 x2 x3 => (jV_ne x1).trans (jV_ne x3))
          obtain ⟨M, eM, m1, m2⟩ := lM t u l m b c h hL _ (by unfold s_doq; rw [hd]; exact K2) F (by omega)
          exact jW_e eM (hP M ⟨m1, jXFm_trans f1 (jXFm_trans fK (jXFm_trans fK2 m2))⟩)
        · simp (disch := omega) only [k3', k4', ke3, F_Mod_goes_b120, F_Mod_goes_b139, F_Mod_goes_b143, ↓dK_205 hL, ↓dG_205 hL, ↓dP_205 hL, ↓dZ_205 hL (x := nI 0) (Or.inl rfl), ↓dZ_205 hL (x := nI 1) (Or.inr rfl), ↓dZ_205 hL (Or.inl rfl), ↓dZ_205 hL (Or.inr rfl), ↓dZ_205 hL (nB_01 _), ↓dR_205_33 hL, dA_610 hL, dI_611 hL, dS_611 hL, ↓reduceIte, ↓kq_bi, ↓kq_let, ↓kq_rz0, ↓kq_rz1, ↓kq_rzB, ↓Option.bind_some, kq_dvn, kt_lt, kf_lt, kt_eq, kf_eq, decide_true, decide_false, eq_self, Bool.false_eq_true, Bool.true_eq_false, not_true_eq_false, not_false_eq_true, jU_eq, jU_ne, jU_U, jV_eq, jV_ne, jV_V, kn_lit, kn_add, kn_mul, kn_sdm, kn_sub, kn_div, kn_nsdm, kn_lt, kn_eq, kn_pred, kn_m1, kn_m1', kn_a31, kn_shl, kn_shr, kn_bit, nB_0, nB_1, nB_t, nB_f, Nat.zero_add, Nat.add_zero, Nat.reduceAdd, Nat.reduceMul, Nat.reduceSub, Nat.reducePow]
          have K2 := jXM_205 (f := jV (jV (K 205) 46 (nI (q.2.2.1 + 1))) 41 (nI q.2.2.2)) K1 ((jV_ne (by omega)).trans (jV_ne (by omega))) ((jV_ne (by omega)).trans (jV_ne (by omega))) (((jV_ne (by omega)).trans (jV_ne (by omega))).trans k2') ((jV_ne (by omega)).trans jV_eq) jV_eq
          have fK2 := jXFm_205 (J := K) (f := jV (jV (K 205) 46 (nI (q.2.2.1 + 1))) 41 (nI q.2.2.2)) (fun g x1 x2 x3 => (jV_ne x1).trans (jV_ne x3))
          obtain ⟨M, eM, m1, m2⟩ := lM t u l m b c h hL _ (by unfold s_doq; rw [hd]; exact K2) F (by omega)
          exact jW_e eM (hP M ⟨m1, jXFm_trans f1 (jXFm_trans fK (jXFm_trans fK2 m2))⟩)
theorem x_goes (hT : jTOK τ) (hπ : π.1 ≤ 50) (hp : ∀ i, i < π.1 → ¬ π.2 i 3 = 0 ∧ jPok τ π.2 π.1 i) : ∀ d o s e, o ≤ 6 → 7 ≤ o + d → e ≤ π.1 → s ≤ 50 → (∀ j, s ≤ j → j < e → o ≤ π.2 j 4) → jXR τ ω π (F_Prog_runSteps d) (F_Mod_goes d) o s e
  | 0, o, s, e, h1, h2, _, _, _ => by omega
  | d + 1, o, s, e, h1, h2, h3, h4, h5 => fun q hq => by
    obtain ⟨q', g', lC, lM⟩ := x_runs (ω := ω) (Rc := F_Prog_runSteps d) (RR := F_Mod_goes d) hT hπ hp h1 h3 (fun s' e' o5 z he hj => x_goes hT hπ hp d (o + 1) s' e' (by omega) (by omega) he z hj) (e - s) s q (Nat.le_refl _) h4 h5 hq
    refine ⟨q', g', fun t u l m b c h hL J hJ => ?_, fun t u l m b c h hL J hJ => lM t u l m b c h hL J hJ jF (by show e - s < 1000; omega)⟩
    have := lC t u l m b c h hL J hJ jF (by show e - s < 1000; omega)
    show ∃ K, E_Prog_runSteps (F_Prog_runSteps d) 67 85 (nI (3 * s)) (nI (3 * e)) (nI o) (jz_I h J) = _ ∧ _
    unfold E_Prog_runSteps
    rw [if_neg (show ¬ (6 : Int32) < nI o by show ¬ nI 6 < nI o; rw [kn_lt (by omega) (by omega)]; omega)]
    exact this
end

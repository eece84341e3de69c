/-! PLAIN LEAN: work; the call -/
section
variable {t u l m b c : Nat} {h : LH} {I J K : Nat → Nat → Int32} {A A' : JA} {N : Nat} {τ : JTn} {ω π : JLw} {r r' : JRw} {β : JBk} {H H' : JHs} {E : JIm} {Tp : Nat × (Nat → Nat)} {p p' : Int32} {rf rf' c0 c1 : Nat} {w : Nat}
theorem jCC_W (hL : jLay t u l m b c h) (hC : jCC h I t l b (τ, ω, r, β, H, E, Tp, p, rf, c0, c1)) (hA : jAG N (τ, ω, r, β, H, E, Tp, p, rf, c0, c1)) (hF : ∀ a, ¬ a = 64 → ¬ a = 65 → ¬ a = 67 → ¬ a = 68 → ¬ (85 ≤ a ∧ a < 90) → ¬ (106 ≤ a ∧ a < 124) → ¬ a = l + 2 → J a = I a) (hS : jCS J 85 τ false r') (hH : jcH J H') (e65 : J 65 1 = nI 0) (e3 : J 65 3 = p') (e64 : ∀ f, ¬ f = 15 → J 64 f = I 64 f) (e15 : J 64 15 = nI rf') : jCC h J t l b (τ, ω, r', β, H', E, (0, Tp.2), p', rf', c0, c1) := by
  have ht := jLay_t hL
  have hl := jLay_l hL
  have hb := jLay_b hL
  obtain ⟨⟨a1, a2⟩, -, a4, -, a7, -, ⟨-, a13, a14⟩, a15⟩ := hC
  obtain ⟨-, -, -, -, -, ⟨b2, b3⟩, -⟩ := hA
  exact ⟨⟨jCT_congr (fun i hi => hF _ (by omega) (by omega) (by omega) (by omega) (by omega) (by omega) (by omega)) a1, jCL_cg (fun a ha => hF a (by omega) (by omega) (by omega) (by omega) (by omega) (by omega) (by omega)) a2⟩, hS, jCB_cg (fun a ha => hF a (by omega) (by omega) (by omega) (by omega) (by omega) (by omega) (by omega)) a4, hH, jcE_cg b2 (fun e he => (b3 e he).2.1) (e64 14 (by omega)) (fun a x1 x2 => hF a (by omega) (by omega) (by omega) (by omega) (by omega) (by omega) (by omega)) a7, ⟨e65, e3, fun k hk => absurd hk (Nat.not_lt_zero k)⟩, ⟨e15, (e64 16 (by omega)).trans a13, (e64 17 (by omega)).trans a14⟩, jStr_eq a15 (fun a ha => hF a (by omega) (by omega) (by omega) (by omega) (by omega) (by omega) (by omega))⟩
theorem jMM_W (hC : jMM I (τ, ω, r, β, H, E, Tp, p, rf, c0, c1)) (hA : jAG N (τ, ω, r, β, H, E, Tp, p, rf, c0, c1)) (hF : ∀ a, ¬ a = 205 → ¬ (598 ≤ a ∧ a < 711) → J a = I a) (hf : ∀ f, 9 ≤ f → ¬ f = 34 → ¬ f = 40 → ¬ f = 41 → ¬ f = 45 → ¬ f = 46 → J 205 f = I 205 f) (e1 : J 205 1 = nI 0) (e3 : J 205 3 = p') (hR : jMR J 691 r') (hH : jmH J H') (e41 : J 205 41 = nI rf') : jMM J (τ, ω, r', β, H', E, (0, Tp.2), p', rf', c0, c1) := by
  obtain ⟨⟨a1, a2, a3⟩, -, a5, -, a8, -, -, a14, a15⟩ := hC
  obtain ⟨o1, o2, -, ⟨o3, -⟩, -, ⟨b2, -⟩, -⟩ := hA
  have hg : ∀ f, f = 25 ∨ f = 39 ∨ f = 42 ∨ f = 44 → J 205 f = I 205 f := fun f hx => hf f (by omega) (by omega) (by omega) (by omega) (by omega) (by omega)
  exact ⟨⟨jMT_congr (fun a x1 x2 => hF a (by omega) (by omega)) o1 a1, jML_congr (fun a x1 x2 => hF a (by omega) (by omega)) (hg 25 (by omega)) o2 a2, (hg 44 (by omega)).trans a3⟩, hR, jMB_cg o3 (hg 39 (by omega)) (fun a x1 x2 => hF a (by omega) (by omega)) a5, hH, jmE_cg b2 (hg 42 (by omega)) (fun a x1 x2 => hF a (by omega) (by omega)) a8, ⟨e1, e3, fun k hk => absurd hk (Nat.not_lt_zero k)⟩, e41, by rw [hF 207 (by omega) (by omega)]; exact a14, by rw [hF 207 (by omega) (by omega)]; exact a15⟩
theorem c_push (hL : jLay t u l m b c h) (e : I 106 1 = nI w) (hw : w < 16) (hS : jCS I 85 τ false r) (hr : jROK τ r) : ∃ J, F_Hist_push 106 85 (jz_I h I) = some (jz_I h J) ∧ J 106 = jV (I 106) 1 (nI (w + 1)) ∧ jCR J (108 + w) r ∧ ∀ a, ¬ a = 106 → ¬ a = 108 + w → J a = I a := by
  refine jE_n (fun P hP => ?_)
  unfold F_Hist_push
  simp (disch := omega) only [e, ↓dR_64_7 hL, ↓dK_106 hL, ↓dG_106 hL, ↓dP_106 hL, ↓dR_106_0 hL, dA_107 hL, dI_108 hL, dS_108 hL, ↓dR_64_2 hL, ↓dK_85 hL, ↓dG_85 hL, ↓dP_85 hL, ↓dZ_85 hL (x := nI 0) (Or.inl rfl), ↓dZ_85 hL (x := nI 1) (Or.inr rfl), ↓dZ_85 hL (Or.inl rfl), ↓dZ_85 hL (Or.inr rfl), ↓dZ_85 hL (nB_01 _), ↓reduceIte, ↓kq_bi, ↓kq_let, ↓kq_rz0, ↓kq_rz1, ↓kq_rzB, ↓Option.bind_some, kq_dvn, kt_lt, kf_lt, kt_eq, kf_eq, decide_true, decide_false, eq_self, Bool.false_eq_true, Bool.true_eq_false, not_true_eq_false, not_false_eq_true, jU_eq, jU_ne, jU_U, jV_eq, jV_ne, jV_V, kn_lit, kn_add, kn_mul, kn_sdm, kn_sub, kn_div, kn_nsdm, kn_lt, kn_eq, kn_pred, kn_m1, kn_m1', kn_a31, kn_shl, kn_shr, kn_bit, nB_0, nB_1, nB_t, nB_f, Nat.zero_add, Nat.add_zero, Nat.reduceAdd, Nat.reduceMul, Nat.reduceSub, Nat.reducePow]
  refine jW_bn (c_saveTo hL (Or.inl rfl) (lk_108 hL hw) (ll_108 hL hw) (by omega) (by omega) hS.1 hr) (fun K hK => ?_)
  have k106 : K 106 = I 106 := hK.2 106 (by omega)
  have k1 : K 106 1 = nI w := by rw [k106]; exact e
  simp (disch := omega) only [k1, F_Hist_push_b32, ↓dR_64_7 hL, ↓dK_106 hL, ↓dG_106 hL, ↓dP_106 hL, ↓reduceIte, ↓kq_bi, ↓kq_let, ↓kq_rz0, ↓kq_rz1, ↓kq_rzB, ↓Option.bind_some, kq_dvn, kt_lt, kf_lt, kt_eq, kf_eq, decide_true, decide_false, eq_self, Bool.false_eq_true, Bool.true_eq_false, not_true_eq_false, not_false_eq_true, jU_eq, jU_ne, jU_U, jV_eq, jV_ne, jV_V, kn_lit, kn_add, kn_mul, kn_sdm, kn_sub, kn_div, kn_nsdm, kn_lt, kn_eq, kn_pred, kn_m1, kn_m1', kn_a31, kn_shl, kn_shr, kn_bit, nB_0, nB_1, nB_t, nB_f, Nat.zero_add, Nat.add_zero, Nat.reduceAdd, Nat.reduceMul, Nat.reduceSub, Nat.reducePow]
  refine jW_s (hP _ ⟨by rw [jU_eq, k106], jCR_congr (jU_ne (by omega)) hK.1, fun a x1 x2 => by rw [jU_ne x1, hK.2 a x2]⟩)
theorem x_run (hT : jTOK τ) (hπ : π.1 ≤ 50) (hp : ∀ i, i < π.1 → ¬ π.2 i 3 = 0 ∧ jPok τ π.2 π.1 i) (hr : jRG τ r) : ∃ q', jXG τ q' ∧ (∀ t u l m b c h, jLay t u l m b c h → ∀ J, jCE J t l τ ω → jCS J 85 τ false r → (J 67 1 = nI (3 * π.1) ∧ ∀ i, i < π.1 → jPsC J π.2 i) → ∃ K, F_Prog_run 67 85 (jz_I h J) = some (jz_I h K) ∧ jXC K t l τ ω π q' ∧ jXFc l J K) ∧ ∀ t u l m b c h, jLay t u l m b c h → ∀ J, jXM J τ ω π (r, 0, 0, 0) → ∃ K, F_Mod_goes jE 205 (nI 0) (nI π.1) (jz_I h J) = some (jz_I h K) ∧ jXM K τ ω π q' ∧ jXFm J K := by
  obtain ⟨q', g', rC, rM⟩ := x_goes (ω := ω) hT hπ hp 20 0 0 π.1 (by omega) (by omega) (Nat.le_refl _) (by omega) (fun _ _ _ => Nat.zero_le _) (r, 0, 0, 0) ⟨hr, by show 0 ≤ 200; omega, Nat.le_refl _, Nat.le_refl _⟩
  refine ⟨q', g', fun t u l m b c h hL J hE hS hs => jE_n (fun P hP => ?_), rM⟩
  have ht := jLay_t hL
  have hl := jLay_l hL
  have J0 : jXC (jU J 67 (jV (jV (jV (J 67) 2 (nI 0)) 3 (nI 0)) 4 (nI 0))) t l τ ω π (r, 0, 0, 0) := by
    obtain ⟨a1, a2, a3, a4⟩ := hE
    refine ⟨⟨jCT_congr (fun i hi => jU_ne (by omega)) a1, a2, jCL_cg (fun a ha => jU_ne (by omega)) a3, a4⟩, jCS_cg (fun a x1 x2 => jU_ne (by omega)) hS, ⟨?_, fun i hi => ?_⟩, ?_, ?_, ?_⟩
    · simp (disch := omega) only [jU_eq, jV_ne]; exact hs.1
    · have := hs.2 i hi
      unfold jPsC at this ⊢
      rw [jU_ne (by omega)]
      exact this
    · simp (disch := omega) only [jU_eq, jV_ne, jV_eq]
    · simp (disch := omega) only [jU_eq, jV_ne, jV_eq]
    · simp (disch := omega) only [jU_eq, jV_eq]
  have F0 : jXFc l J (jU J 67 (jV (jV (jV (J 67) 2 (nI 0)) 3 (nI 0)) 4 (nI 0))) := jXFc_67 (by simp (disch := omega) only [jV_ne])
  obtain ⟨K, e, k1, k2⟩ := rC t u l m b c h hL _ J0
  have e : F_Prog_runSteps jE 67 85 (nI 0) (nI (3 * π.1)) (nI 0) (jz_I h (jU J 67 (jV (jV (jV (J 67) 2 (nI 0)) 3 (nI 0)) 4 (nI 0)))) = some (jz_I h K) := e
  unfold F_Prog_run
  have e1 := hs.1
  simp (disch := omega) only [e1, ↓dR_64_1 hL, ↓dK_67 hL, ↓dG_67 hL, ↓dP_67 hL, ↓reduceIte, ↓kq_bi, ↓kq_let, ↓kq_rz0, ↓kq_rz1, ↓kq_rzB, ↓Option.bind_some, kq_dvn, kt_lt, kf_lt, kt_eq, kf_eq, decide_true, decide_false, eq_self, Bool.false_eq_true, Bool.true_eq_false, not_true_eq_false, not_false_eq_true, jU_eq, jU_ne, jU_U, jV_eq, jV_ne, jV_V, kn_lit, kn_add, kn_mul, kn_sdm, kn_sub, kn_div, kn_nsdm, kn_lt, kn_eq, kn_pred, kn_m1, kn_m1', kn_a31, kn_shl, kn_shr, kn_bit, nB_0, nB_1, nB_t, nB_f, Nat.zero_add, Nat.add_zero, Nat.reduceAdd, Nat.reduceMul, Nat.reduceSub, Nat.reducePow]
  rw [e]
  exact jW_s (hP K ⟨k1, jXFc_trans F0 k2⟩)
theorem x_workC (hA : jAG N A) (x : Int32) : jDo cdI (fun g => F_SG_work 64 x g) (fun g => F_Mod_work 205 x g) N A := by
  obtain ⟨τ, ω, r, β, ⟨w, B⟩, E, ⟨q, tp⟩, p, rf, c0, c1⟩ := A
  obtain ⟨hq, h256⟩ : q ≤ 600 ∧ ∀ k, tp k < 256 := hA.2.2.2.2.2.2.1
  obtain ⟨b1, b2⟩ : w ≤ 16 ∧ ∀ i, i < w → jRG τ (B i) := hA.2.2.2.2.1
  by_cases gx : jTn x 150 q
  · obtain ⟨n, hn5, hn, rfl⟩ := gx
    by_cases hw : ¬ w < 16
    · have hw6 : w = 16 := by omega
      refine ⟨.inl (-nI 20), (τ, ω, r, β, (w, B), E, (0, tp), -nI 1, rf, c0, c1), ⟨fun t u l m b c h I hL hC => ?_, fun t u l m b c h I hL hC => ?_⟩, jAG_flt hA, fun k e => by cases e⟩
      · have hl := jLay_l hL
        obtain ⟨e1, e3, etp⟩ : I 65 1 = nI q ∧ I 65 3 = p ∧ ∀ k, k < q → I 66 k = nS (tp k) := hC.2.2.2.2.2.1
        have e106 : I 106 1 = nI w := hC.2.2.2.1.1
        suffices hW : ∀ P : JOut → Prop, (∀ J, jCC h J t l b (τ, ω, r, β, (w, B), E, (0, tp), -nI 1, rf, c0, c1) → (∀ a, a < 64 ∨ 205 ≤ a → J a = I a) → P (jo_i (-nI 20, jz_I h J))) → jW (F_SG_work 64 (nI n) (jz_I h I)) P by
          obtain ⟨o, e, J, rfl, z1, z2⟩ := hW (fun o => ∃ J, o = jo_i (-nI 20, jz_I h J) ∧ jCC h J t l b (τ, ω, r, β, (w, B), E, (0, tp), -nI 1, rf, c0, c1) ∧ (∀ a, a < 64 ∨ 205 ≤ a → J a = I a)) (fun J a1 a2 => ⟨J, rfl, a1, a2⟩)
          exact ⟨t, u, l, m, b, c, h, J, e, hL, z1, z2, Or.inl rfl, rfl⟩
        intro P hP
        unfold F_SG_work
        rw [dK_64 hL]
        refine jW_th (c_openG hL (most := 150) (by omega) hq e1 hn5 hn etp h256) (fun K hK => ?_)
        obtain ⟨k1, kT⟩ := hK
        have k106 : K 106 1 = nI w := by rw [kT.2 106 (by omega)]; exact e106
        have hCf := jCC_flt hL hC hA k1 (fun a x1 x2 => kT.2 a x1)
        simp (disch := omega) only [k106, c_close hL, ↓dK_64 hL, ↓dG_64 hL, ↓dP_64 hL, ↓dR_64_0 hL, ↓dK_65 hL, ↓dG_65 hL, ↓dP_65 hL, ↓dR_64_7 hL, ↓dK_106 hL, ↓dG_106 hL, ↓dP_106 hL, ↓reduceIte, ↓kq_bi, ↓kq_let, ↓kq_rz0, ↓kq_rz1, ↓kq_rzB, ↓Option.bind_some, kq_dvn, kt_lt, kf_lt, kt_eq, kf_eq, decide_true, decide_false, eq_self, Bool.false_eq_true, Bool.true_eq_false, not_true_eq_false, not_false_eq_true, jU_eq, jU_ne, jU_U, jV_eq, jV_ne, jV_V, kn_lit, kn_add, kn_mul, kn_sdm, kn_sub, kn_div, kn_nsdm, kn_lt, kn_eq, kn_pred, kn_m1, kn_m1', kn_a31, kn_shl, kn_shr, kn_bit, nB_0, nB_1, nB_t, nB_f, Nat.zero_add, Nat.add_zero, Nat.reduceAdd, Nat.reduceMul, Nat.reduceSub, Nat.reducePow]
        exact jW_s (hP _ hCf (fun a ha => by rw [jU_ne (by omega)]; exact kT.2 a (by omega)))
      · obtain ⟨e1, e3, etp⟩ : I 205 1 = nI q ∧ I 205 3 = p ∧ ∀ k, k < q → I 206 k = nI (tp k) := hC.2.2.2.2.2.1
        have e40 : I 205 40 = nI w := hC.2.2.2.1.1
        refine ⟨-nI 20, jU I 205 (jV (jV (jV (I 205) 0 (nI 0)) 1 (nI 0)) 3 (-nI 1)), ?_, ?_, fun w hw => by cases hw; rfl, ?_, fun a ha => jU_ne (by omega)⟩
        · show F_Mod_work 205 (nI n) (jz_I h I) = _
          have hb0 := m_bad0 hL (J := jU I 205 (jV (I 205) 0 (nI 0))) (by rw [jU_eq, jV_eq]) (x := nI 1) (y := nI 1)
          unfold F_Mod_work
          simp (disch := omega) only [e1, e40, m_in1, F_Mod_work_b30, hb0, ↓dK_205 hL, ↓dG_205 hL, ↓dP_205 hL, ↓dZ_205 hL (x := nI 0) (Or.inl rfl), ↓dZ_205 hL (x := nI 1) (Or.inr rfl), ↓dZ_205 hL (Or.inl rfl), ↓dZ_205 hL (Or.inr rfl), ↓dZ_205 hL (nB_01 _), ↓reduceIte, ↓kq_bi, ↓kq_let, ↓kq_rz0, ↓kq_rz1, ↓kq_rzB, ↓Option.bind_some, kq_dvn, kt_lt, kf_lt, kt_eq, kf_eq, decide_true, decide_false, eq_self, Bool.false_eq_true, Bool.true_eq_false, not_true_eq_false, not_false_eq_true, jU_eq, jU_ne, jU_U, jV_eq, jV_ne, jV_V, kn_lit, kn_add, kn_mul, kn_sdm, kn_sub, kn_div, kn_nsdm, kn_lt, kn_eq, kn_pred, kn_m1, kn_m1', kn_a31, kn_shl, kn_shr, kn_bit, nB_0, nB_1, nB_t, nB_f, Nat.zero_add, Nat.add_zero, Nat.reduceAdd, Nat.reduceMul, Nat.reduceSub, Nat.reducePow]
        · simp (disch := omega) only [jU_eq, jV_ne, jV_eq]; rfl
        · exact jMM_flt hC hA (fun a x1 _ _ _ => jU_ne x1) (fun f f1 _ _ => by simp (disch := omega) only [jU_eq, jV_ne]) (by simp (disch := omega) only [jU_eq, jV_ne, jV_eq]) (by simp (disch := omega) only [jU_eq, jV_eq])
    have hw : w < 16 := Decidable.not_not.mp hw
    have hT := hA.1
    have hr := hA.2.2.1
    obtain ⟨y, π, hok, hy, hc, hm⟩ := x_prog (tp := tp) hT hn5
    have hy2 : y.2.1 ≤ 3 := hy.2.1
    have pre : ∀ t u l m b c h I, jLay t u l m b c h → jMM I (τ, ω, r, β, (w, B), E, (q, tp), p, rf, c0, c1) → ∀ P : Int32 × LH → Prop, (∀ K, jPM K tp n 0 (y, π) → (K 205 0 = nI 0 ∧ K 205 1 = nI 0) → (∀ f, 9 ≤ f → ¬ f = 34 → K 205 f = I 205 f) → (∀ a, ¬ a = 205 → ¬ (611 ≤ a ∧ a < 691) → K a = I a) → jW (F_Mod_work_b101 205 (jz_I h K)) P) → jW (F_Mod_work 205 (nI n) (jz_I h I)) P := by
      intro t u l m b c h I hL hC P hP
      obtain ⟨e1, e3, etp⟩ : I 205 1 = nI q ∧ I 205 3 = p ∧ ∀ k, k < q → I 206 k = nI (tp k) := hC.2.2.2.2.2.1
      have e40 : I 205 40 = nI w := hC.2.2.2.1.1
      have hb0 := m_bad0 hL (J := jU I 205 (jV (I 205) 0 (nI 0))) (by rw [jU_eq, jV_eq]) (x := nI 1) (y := nI 1)
      unfold F_Mod_work
      simp (disch := omega) only [e1, e40, m_in1, F_Mod_work_b30, hb0, ↓dK_205 hL, ↓dG_205 hL, ↓dP_205 hL, ↓dZ_205 hL (x := nI 0) (Or.inl rfl), ↓dZ_205 hL (x := nI 1) (Or.inr rfl), ↓dZ_205 hL (Or.inl rfl), ↓dZ_205 hL (Or.inr rfl), ↓dZ_205 hL (nB_01 _), ↓reduceIte, ↓kq_bi, ↓kq_let, ↓kq_rz0, ↓kq_rz1, ↓kq_rzB, ↓Option.bind_some, kq_dvn, kt_lt, kf_lt, kt_eq, kf_eq, decide_true, decide_false, eq_self, Bool.false_eq_true, Bool.true_eq_false, not_true_eq_false, not_false_eq_true, jU_eq, jU_ne, jU_U, jV_eq, jV_ne, jV_V, kn_lit, kn_add, kn_mul, kn_sdm, kn_sub, kn_div, kn_nsdm, kn_lt, kn_eq, kn_pred, kn_m1, kn_m1', kn_a31, kn_shl, kn_shr, kn_bit, nB_0, nB_1, nB_t, nB_f, Nat.zero_add, Nat.add_zero, Nat.reduceAdd, Nat.reduceMul, Nat.reduceSub, Nat.reducePow]
      refine jW_bn (m_startsX hL (n := n) (by omega) (tp := tp) (fun k hk => by rw [jU_ne (by omega)]; exact etp k (by omega)) h256) (fun K hK => ?_)
      obtain ⟨k1, ⟨k2, k3, k4, k5⟩, k6, k7⟩ := hK
      simp (disch := omega) only [↓dK_205 hL, ↓dG_205 hL, ↓dP_205 hL, ↓dZ_205 hL (x := nI 0) (Or.inl rfl), ↓dZ_205 hL (x := nI 1) (Or.inr rfl), ↓dZ_205 hL (Or.inl rfl), ↓dZ_205 hL (Or.inr rfl), ↓dZ_205 hL (nB_01 _), ↓reduceIte, ↓kq_bi, ↓kq_let, ↓kq_rz0, ↓kq_rz1, ↓kq_rzB, ↓Option.bind_some, kq_dvn, kt_lt, kf_lt, kt_eq, kf_eq, decide_true, decide_false, eq_self, Bool.false_eq_true, Bool.true_eq_false, not_true_eq_false, not_false_eq_true, jU_eq, jU_ne, jU_U, jV_eq, jV_ne, jV_V, kn_lit, kn_add, kn_mul, kn_sdm, kn_sub, kn_div, kn_nsdm, kn_lt, kn_eq, kn_pred, kn_m1, kn_m1', kn_a31, kn_shl, kn_shr, kn_bit, nB_0, nB_1, nB_t, nB_f, Nat.zero_add, Nat.add_zero, Nat.reduceAdd, Nat.reduceMul, Nat.reduceSub, Nat.reducePow]
      refine hm t u l m b c h hL _ (jMT_congr (fun a x1 x2 => by rw [jU_ne (by omega), k7 a (by omega), jU_ne (by omega)]) hT hC.1.1) (jTM_eq k1 (fun f hf => by rw [jU_eq, jV_ne (by omega)]) (jU_ne (by omega))) (by rw [jU_eq, jV_ne (by omega)]; exact k4) (by rw [jU_eq, jV_eq]) (by rw [jU_eq, jV_ne (by omega)]; exact k5) P (fun K2 hK2 hF2 => hP K2 hK2 ⟨?_, ?_⟩ (fun f f1 f2 => ?_) (fun a a1 a2 => ?_))
      · rw [hF2.1 0 (by omega) (by omega) (by omega) (by omega) (by omega), jU_eq, jV_ne (by omega), k6 0 (by omega), jU_eq, jV_eq]
      · rw [hF2.1 1 (by omega) (by omega) (by omega) (by omega) (by omega), jU_eq, jV_ne (by omega)]; exact k2
      · rw [hF2.1 f (by omega) (by omega) (by omega) (by omega) (by omega), jU_eq, jV_ne (by omega), k6 f (by omega), jU_eq, jV_ne (by omega)]
      · rw [hF2.2 a a1 a2, jU_ne a1, k7 a a1, jU_ne a1]
    by_cases h0 : ¬ y.2.1 = 0
    · refine ⟨.inl (nI y.2.1 - nI 10), (τ, ω, r, β, (w, B), E, (0, tp), nF y, rf, c0, c1), ⟨fun t u l m b c h I hL hC => ?_, fun t u l m b c h I hL hC => ?_⟩, jAG_flt hA, fun k e => by cases e⟩
      · have ht := jLay_t hL
        have hl := jLay_l hL
        obtain ⟨e1, e3, etp⟩ : I 65 1 = nI q ∧ I 65 3 = p ∧ ∀ k, k < q → I 66 k = nS (tp k) := hC.2.2.2.2.2.1
        have e106 : I 106 1 = nI w := hC.2.2.2.1.1
        have hS := hC.2.2.2.2.2.2.2
        suffices hW : ∀ P : JOut → Prop, (∀ J, jCC h J t l b (τ, ω, r, β, (w, B), E, (0, tp), nF y, rf, c0, c1) → (∀ a, a < 64 ∨ 205 ≤ a → J a = I a) → P (jo_i (nI y.2.1 - nI 10, jz_I h J))) → jW (F_SG_work 64 (nI n) (jz_I h I)) P by
          obtain ⟨o, e, J, rfl, z1, z2⟩ := hW (fun o => ∃ J, o = jo_i (nI y.2.1 - nI 10, jz_I h J) ∧ jCC h J t l b (τ, ω, r, β, (w, B), E, (0, tp), nF y, rf, c0, c1) ∧ (∀ a, a < 64 ∨ 205 ≤ a → J a = I a)) (fun J a1 a2 => ⟨J, rfl, a1, a2⟩)
          exact ⟨t, u, l, m, b, c, h, J, e, hL, z1, z2, Or.inl rfl, rfl⟩
        intro P hP
        unfold F_SG_work
        rw [dK_64 hL]
        refine jW_th (c_openG hL (most := 150) (by omega) hq e1 hn5 hn etp h256) (fun K hK => ?_)
        obtain ⟨k1, kT⟩ := hK
        have k106 : K 106 1 = nI w := by rw [kT.2 106 (by omega)]; exact e106
        simp (disch := omega) only [k106, ↓dR_85_1 hL, ↓dK_64 hL, ↓dG_64 hL, ↓dP_64 hL, ↓dR_64_0 hL, ↓dK_65 hL, ↓dG_65 hL, ↓dP_65 hL, ↓dR_64_1 hL, ↓dK_67 hL, ↓dG_67 hL, ↓dP_67 hL, ↓dR_64_2 hL, ↓dK_85 hL, ↓dG_85 hL, ↓dP_85 hL, ↓dZ_85 hL (x := nI 0) (Or.inl rfl), ↓dZ_85 hL (x := nI 1) (Or.inr rfl), ↓dZ_85 hL (Or.inl rfl), ↓dZ_85 hL (Or.inr rfl), ↓dZ_85 hL (nB_01 _), ↓dR_64_7 hL, ↓dK_106 hL, ↓dG_106 hL, ↓dP_106 hL, ↓reduceIte, ↓kq_bi, ↓kq_let, ↓kq_rz0, ↓kq_rz1, ↓kq_rzB, ↓Option.bind_some, kq_dvn, kt_lt, kf_lt, kt_eq, kf_eq, decide_true, decide_false, eq_self, Bool.false_eq_true, Bool.true_eq_false, not_true_eq_false, not_false_eq_true, jU_eq, jU_ne, jU_U, jV_eq, jV_ne, jV_V, kn_lit, kn_add, kn_mul, kn_sdm, kn_sub, kn_div, kn_nsdm, kn_lt, kn_eq, kn_pred, kn_m1, kn_m1', kn_a31, kn_shl, kn_shr, kn_bit, nB_0, nB_1, nB_t, nB_f, Nat.zero_add, Nat.add_zero, Nat.reduceAdd, Nat.reduceMul, Nat.reduceSub, Nat.reducePow]
        refine jW_bn (hc t u l m b c h hL K (jStr_T1 hS kT) (jCT_congr (fun i hi => kT.2 _ (by omega)) hC.1.1) k1) (fun L hL' => ?_)
        obtain ⟨l1, l2⟩ := hL'
        have lX : jTX L tp n y := l1.2.1
        have l65 : L 65 2 = nI y.2.1 := lX.1.1
        have l3 : L 65 3 = nF y := lX.1.2.1
        have lF : ∀ a, ¬ a = 65 → ¬ a = 67 → ¬ a = 68 → L a = I a := fun a x1 x2 x3 => (l2.2 a x1 x2 x3).trans (kT.2 a x1)
        simp (disch := omega) only [c_close hL, ↓dK_64 hL, ↓dG_64 hL, ↓dP_64 hL, ↓dR_64_0 hL, ↓dK_65 hL, ↓dG_65 hL, ↓dP_65 hL, ↓reduceIte, ↓kq_bi, ↓kq_let, ↓kq_rz0, ↓kq_rz1, ↓kq_rzB, ↓Option.bind_some, kq_dvn, kt_lt, kf_lt, kt_eq, kf_eq, decide_true, decide_false, eq_self, Bool.false_eq_true, Bool.true_eq_false, not_true_eq_false, not_false_eq_true, jU_eq, jU_ne, jU_U, jV_eq, jV_ne, jV_V, kn_lit, kn_add, kn_mul, kn_sdm, kn_sub, kn_div, kn_nsdm, kn_lt, kn_eq, kn_pred, kn_m1, kn_m1', kn_a31, kn_shl, kn_shr, kn_bit, nB_0, nB_1, nB_t, nB_f, Nat.zero_add, Nat.add_zero, Nat.reduceAdd, Nat.reduceMul, Nat.reduceSub, Nat.reducePow]
        simp (disch := omega) only [l65, ↓dK_64 hL, ↓dG_64 hL, ↓dP_64 hL, ↓dR_64_0 hL, ↓dK_65 hL, ↓dG_65 hL, ↓dP_65 hL, ↓reduceIte, ↓kq_bi, ↓kq_let, ↓kq_rz0, ↓kq_rz1, ↓kq_rzB, ↓Option.bind_some, kq_dvn, kt_lt, kf_lt, kt_eq, kf_eq, decide_true, decide_false, eq_self, Bool.false_eq_true, Bool.true_eq_false, not_true_eq_false, not_false_eq_true, jU_eq, jU_ne, jU_U, jV_eq, jV_ne, jV_V, kn_lit, kn_add, kn_mul, kn_sdm, kn_sub, kn_div, kn_nsdm, kn_lt, kn_eq, kn_pred, kn_m1, kn_m1', kn_a31, kn_shl, kn_shr, kn_bit, nB_0, nB_1, nB_t, nB_f, Nat.zero_add, Nat.add_zero, Nat.reduceAdd, Nat.reduceMul, Nat.reduceSub, Nat.reducePow]
        refine jW_s (hP _ (jCC_W hL hC hA (fun a _ x2 x3 x4 _ _ _ => by rw [jU_ne x2]; exact lF a x2 x3 x4) (jCS_cg (fun a x1 x2 => by rw [jU_ne (by omega)]; exact lF a (by omega) (by omega) (by omega)) hC.2.1) (jcH_cg b1 (fun a x1 x2 => by rw [jU_ne (by omega)]; exact lF a (by omega) (by omega) (by omega)) hC.2.2.2.1) (by rw [jU_eq, jV_eq]) (by rw [jU_eq, jV_ne (by omega)]; exact l3) (fun f _ => by rw [jU_ne (by omega), lF 64 (by omega) (by omega) (by omega)]) (by rw [jU_ne (by omega), lF 64 (by omega) (by omega) (by omega)]; exact hC.2.2.2.2.2.2.1.1)) (fun a ha => by rw [jU_ne (by omega)]; exact lF a (by omega) (by omega) (by omega)))
      · obtain ⟨J, e, z0, z1, z2⟩ : ∃ J, F_Mod_work 205 (nI n) (jz_I h I) = some (nI y.2.1 - nI 10, jz_I h J) ∧ J 205 0 = nI 0 ∧ jMM J (τ, ω, r, β, (w, B), E, (0, tp), nF y, rf, c0, c1) ∧ ∀ a, a < 205 → J a = I a := by
          refine jE_i (fun P hP => ?_)
          refine pre t u l m b c h I hL hC P (fun K k1 k2 k3 k4 => ?_)
          have kT : jTM K tp n y := k1.1
          have k5 : K 205 5 = nI y.2.1 := kT.2.2.1.1
          have he := m_ends hL kT
          unfold F_Mod_work_b101
          simp (disch := omega) only [k5, he, ↓dK_205 hL, ↓dG_205 hL, ↓dP_205 hL, ↓dZ_205 hL (x := nI 0) (Or.inl rfl), ↓dZ_205 hL (x := nI 1) (Or.inr rfl), ↓dZ_205 hL (Or.inl rfl), ↓dZ_205 hL (Or.inr rfl), ↓dZ_205 hL (nB_01 _), ↓reduceIte, ↓kq_bi, ↓kq_let, ↓kq_rz0, ↓kq_rz1, ↓kq_rzB, ↓Option.bind_some, kq_dvn, kt_lt, kf_lt, kt_eq, kf_eq, decide_true, decide_false, eq_self, Bool.false_eq_true, Bool.true_eq_false, not_true_eq_false, not_false_eq_true, jU_eq, jU_ne, jU_U, jV_eq, jV_ne, jV_V, kn_lit, kn_add, kn_mul, kn_sdm, kn_sub, kn_div, kn_nsdm, kn_lt, kn_eq, kn_pred, kn_m1, kn_m1', kn_a31, kn_shl, kn_shr, kn_bit, nB_0, nB_1, nB_t, nB_f, Nat.zero_add, Nat.add_zero, Nat.reduceAdd, Nat.reduceMul, Nat.reduceSub, Nat.reducePow]
          refine jW_s (hP _ ⟨by rw [jU_eq, jV_ne (by omega)]; exact k2.1, ?_, fun a ha => by rw [jU_ne (by omega)]; exact k4 a (by omega) (by omega)⟩)
          exact jMM_flt hC hA (fun a x1 _ _ x4 => by rw [jU_ne x1]; exact k4 a x1 (by omega)) (fun f f1 f2 f3 => by rw [jU_eq, jV_ne (by omega)]; exact k3 f f1 f3) (by rw [jU_eq, jV_ne (by omega)]; exact k2.2) (by rw [jU_eq, jV_eq])
        exact ⟨_, J, e, z0, fun w hw => by cases hw; rfl, z1, z2⟩
    have h0 : y.2.1 = 0 := Decidable.not_not.mp h0
    obtain ⟨hπ, hp⟩ := hok h0
    obtain ⟨q', g', rC, rM⟩ := x_run (ω := ω) hT hπ hp hr
    have g4 : q'.2.2.2 ≤ q'.2.1 := g'.2.2.2
    have g5 : q'.2.1 ≤ 200 := g'.2.1
    have hA2 : jAG (N + 1) (τ, ω, q'.1, β, (w + 1, fun i => if i = w then r else B i), E, (0, tp), -nI 1, q'.2.2.2, c0, c1) := by
      obtain ⟨a1, a2, a3, a4, a5, a6, a7, a8, a9, a10⟩ := hA
      refine ⟨a1, a2, g'.1, a4, ⟨by show w + 1 ≤ 16; omega, fun i hi => ?_⟩, a6, ⟨Nat.zero_le _, a7.2⟩, by show q'.2.2.2 < 100000; omega, Nat.le_succ_of_le a9, Nat.le_succ_of_le a10⟩
      have hi : i < w + 1 := hi
      show jRG τ (if i = w then r else B i)
      split
      · exact a3
      · exact b2 i (by omega)
    refine ⟨.inl (nI q'.2.2.1), (τ, ω, q'.1, β, (w + 1, fun i => if i = w then r else B i), E, (0, tp), -nI 1, q'.2.2.2, c0, c1), ⟨fun t u l m b c h I hL hC => ?_, fun t u l m b c h I hL hC => ?_⟩, hA2, fun k e => by cases e⟩
    · have ht := jLay_t hL
      have hl := jLay_l hL
      obtain ⟨e1, e3, etp⟩ : I 65 1 = nI q ∧ I 65 3 = p ∧ ∀ k, k < q → I 66 k = nS (tp k) := hC.2.2.2.2.2.1
      have e106 : I 106 1 = nI w := hC.2.2.2.1.1
      have hS := hC.2.2.2.2.2.2.2
      suffices hW : ∀ P : JOut → Prop, (∀ J, jCC h J t l b (τ, ω, q'.1, β, (w + 1, fun i => if i = w then r else B i), E, (0, tp), -nI 1, q'.2.2.2, c0, c1) → (∀ a, a < 64 ∨ 205 ≤ a → J a = I a) → P (jo_i (nI q'.2.2.1, jz_I h J))) → jW (F_SG_work 64 (nI n) (jz_I h I)) P by
        obtain ⟨o, e, J, rfl, z1, z2⟩ := hW (fun o => ∃ J, o = jo_i (nI q'.2.2.1, jz_I h J) ∧ jCC h J t l b (τ, ω, q'.1, β, (w + 1, fun i => if i = w then r else B i), E, (0, tp), -nI 1, q'.2.2.2, c0, c1) ∧ (∀ a, a < 64 ∨ 205 ≤ a → J a = I a)) (fun J a1 a2 => ⟨J, rfl, a1, a2⟩)
        exact ⟨t, u, l, m, b, c, h, J, e, hL, z1, z2, Or.inl rfl, rfl⟩
      intro P hP
      unfold F_SG_work
      rw [dK_64 hL]
      refine jW_th (c_openG hL (most := 150) (by omega) hq e1 hn5 hn etp h256) (fun K hK => ?_)
      obtain ⟨k1, kT⟩ := hK
      have k106 : K 106 1 = nI w := by rw [kT.2 106 (by omega)]; exact e106
      simp (disch := omega) only [k106, ↓dR_85_1 hL, ↓dK_64 hL, ↓dG_64 hL, ↓dP_64 hL, ↓dR_64_0 hL, ↓dK_65 hL, ↓dG_65 hL, ↓dP_65 hL, ↓dR_64_1 hL, ↓dK_67 hL, ↓dG_67 hL, ↓dP_67 hL, ↓dR_64_2 hL, ↓dK_85 hL, ↓dG_85 hL, ↓dP_85 hL, ↓dZ_85 hL (x := nI 0) (Or.inl rfl), ↓dZ_85 hL (x := nI 1) (Or.inr rfl), ↓dZ_85 hL (Or.inl rfl), ↓dZ_85 hL (Or.inr rfl), ↓dZ_85 hL (nB_01 _), ↓dR_64_7 hL, ↓dK_106 hL, ↓dG_106 hL, ↓dP_106 hL, ↓reduceIte, ↓kq_bi, ↓kq_let, ↓kq_rz0, ↓kq_rz1, ↓kq_rzB, ↓Option.bind_some, kq_dvn, kt_lt, kf_lt, kt_eq, kf_eq, decide_true, decide_false, eq_self, Bool.false_eq_true, Bool.true_eq_false, not_true_eq_false, not_false_eq_true, jU_eq, jU_ne, jU_U, jV_eq, jV_ne, jV_V, kn_lit, kn_add, kn_mul, kn_sdm, kn_sub, kn_div, kn_nsdm, kn_lt, kn_eq, kn_pred, kn_m1, kn_m1', kn_a31, kn_shl, kn_shr, kn_bit, nB_0, nB_1, nB_t, nB_f, Nat.zero_add, Nat.add_zero, Nat.reduceAdd, Nat.reduceMul, Nat.reduceSub, Nat.reducePow]
      refine jW_bn (hc t u l m b c h hL K (jStr_T1 hS kT) (jCT_congr (fun i hi => kT.2 _ (by omega)) hC.1.1) k1) (fun L hL' => ?_)
      obtain ⟨l1, l2⟩ := hL'
      have lX : jTX L tp n y := l1.2.1
      have l65 : L 65 2 = nI y.2.1 := lX.1.1
      have l3 : L 65 3 = nF y := lX.1.2.1
      rw [h0] at l65
      rw [show nF y = -nI 1 from if_pos h0] at l3
      obtain ⟨kk, -, lk1, lk2⟩ := l1.2.2
      obtain ⟨lk3, lk4⟩ := lk2 h0
      have lk3 : kk = π.1 := lk3
      subst lk3
      have lF : ∀ a, ¬ a = 65 → ¬ a = 67 → ¬ a = 68 → L a = I a := fun a x1 x2 x3 => (l2.2 a x1 x2 x3).trans (kT.2 a x1)
      simp (disch := omega) only [c_close hL, ↓dK_64 hL, ↓dG_64 hL, ↓dP_64 hL, ↓dR_64_0 hL, ↓dK_65 hL, ↓dG_65 hL, ↓dP_65 hL, ↓reduceIte, ↓kq_bi, ↓kq_let, ↓kq_rz0, ↓kq_rz1, ↓kq_rzB, ↓Option.bind_some, kq_dvn, kt_lt, kf_lt, kt_eq, kf_eq, decide_true, decide_false, eq_self, Bool.false_eq_true, Bool.true_eq_false, not_true_eq_false, not_false_eq_true, jU_eq, jU_ne, jU_U, jV_eq, jV_ne, jV_V, kn_lit, kn_add, kn_mul, kn_sdm, kn_sub, kn_div, kn_nsdm, kn_lt, kn_eq, kn_pred, kn_m1, kn_m1', kn_a31, kn_shl, kn_shr, kn_bit, nB_0, nB_1, nB_t, nB_f, Nat.zero_add, Nat.add_zero, Nat.reduceAdd, Nat.reduceMul, Nat.reduceSub, Nat.reducePow]
      simp (disch := omega) only [l65, ↓dK_64 hL, ↓dG_64 hL, ↓dP_64 hL, ↓dR_64_0 hL, ↓dK_65 hL, ↓dG_65 hL, ↓dP_65 hL, ↓dR_64_1 hL, ↓dK_67 hL, ↓dG_67 hL, ↓dP_67 hL, ↓dR_64_2 hL, ↓dK_85 hL, ↓dG_85 hL, ↓dP_85 hL, ↓dZ_85 hL (x := nI 0) (Or.inl rfl), ↓dZ_85 hL (x := nI 1) (Or.inr rfl), ↓dZ_85 hL (Or.inl rfl), ↓dZ_85 hL (Or.inr rfl), ↓dZ_85 hL (nB_01 _), ↓dR_64_7 hL, ↓dK_106 hL, ↓dG_106 hL, ↓dP_106 hL, ↓reduceIte, ↓kq_bi, ↓kq_let, ↓kq_rz0, ↓kq_rz1, ↓kq_rzB, ↓Option.bind_some, kq_dvn, kt_lt, kf_lt, kt_eq, kf_eq, decide_true, decide_false, eq_self, Bool.false_eq_true, Bool.true_eq_false, not_true_eq_false, not_false_eq_true, jU_eq, jU_ne, jU_U, jV_eq, jV_ne, jV_V, kn_lit, kn_add, kn_mul, kn_sdm, kn_sub, kn_div, kn_nsdm, kn_lt, kn_eq, kn_pred, kn_m1, kn_m1', kn_a31, kn_shl, kn_shr, kn_bit, nB_0, nB_1, nB_t, nB_f, Nat.zero_add, Nat.add_zero, Nat.reduceAdd, Nat.reduceMul, Nat.reduceSub, Nat.reducePow]
      have L1 : ∀ a, ¬ a = 65 → (jU L 65 (jV (L 65) 1 (nI 0))) a = L a := fun a ha => jU_ne ha
      have LS : jCS (jU L 65 (jV (L 65) 1 (nI 0))) 85 τ false r := jCS_cg (fun a x1 x2 => by rw [jU_ne (by omega)]; exact lF a (by omega) (by omega) (by omega)) hC.2.1
      refine jW_bn (c_push hL (w := w) (by rw [jU_ne (by omega), lF 106 (by omega) (by omega) (by omega)]; exact e106) hw LS hr.1) (fun M hM => ?_)
      obtain ⟨m1, m2, m3⟩ := hM
      have mF : ∀ a, ¬ a = 65 → ¬ a = 67 → ¬ a = 68 → ¬ a = 106 → ¬ a = 108 + w → M a = I a := fun a x1 x2 x3 x4 x5 => by rw [m3 a x4 x5, jU_ne x1]; exact lF a x1 x2 x3
      have m65 : M 65 = jV (L 65) 1 (nI 0) := by rw [m3 65 (by omega) (by omega), jU_eq]
      have m67 : M 67 = L 67 := by rw [m3 67 (by omega) (by omega), jU_ne (by omega)]
      have m68 : M 68 = L 68 := by rw [m3 68 (by omega) (by omega), jU_ne (by omega)]
      simp (disch := omega) only [↓dK_64 hL, ↓dG_64 hL, ↓dP_64 hL, ↓dR_64_1 hL, ↓dK_67 hL, ↓dG_67 hL, ↓dP_67 hL, ↓dR_64_2 hL, ↓dK_85 hL, ↓dG_85 hL, ↓dP_85 hL, ↓dZ_85 hL (x := nI 0) (Or.inl rfl), ↓dZ_85 hL (x := nI 1) (Or.inr rfl), ↓dZ_85 hL (Or.inl rfl), ↓dZ_85 hL (Or.inr rfl), ↓dZ_85 hL (nB_01 _), ↓reduceIte, ↓kq_bi, ↓kq_let, ↓kq_rz0, ↓kq_rz1, ↓kq_rzB, ↓Option.bind_some, kq_dvn, kt_lt, kf_lt, kt_eq, kf_eq, decide_true, decide_false, eq_self, Bool.false_eq_true, Bool.true_eq_false, not_true_eq_false, not_false_eq_true, jU_eq, jU_ne, jU_U, jV_eq, jV_ne, jV_V, kn_lit, kn_add, kn_mul, kn_sdm, kn_sub, kn_div, kn_nsdm, kn_lt, kn_eq, kn_pred, kn_m1, kn_m1', kn_a31, kn_shl, kn_shr, kn_bit, nB_0, nB_1, nB_t, nB_f, Nat.zero_add, Nat.add_zero, Nat.reduceAdd, Nat.reduceMul, Nat.reduceSub, Nat.reducePow]
      refine jW_bn (rC t u l m b c h hL M ⟨jCT_congr (fun i hi => mF _ (by omega) (by omega) (by omega) (by omega) (by omega)) hC.1.1, hT, jCL_cg (fun a ha => mF a (by omega) (by omega) (by omega) (by omega) (by omega)) hC.1.2, hA.2.1⟩ (jCS_cg (fun a x1 x2 => m3 a (by omega) (by omega)) LS) ⟨by rw [m67]; exact lk1, fun i hi => by have := lk4 i hi; unfold jPsC at this ⊢; rw [m68]; exact this⟩) (fun R hR => ?_)
      obtain ⟨r1, r2⟩ := hR
      have n3 : R 67 3 = nI q'.2.2.1 := r1.2.2.2.2.1
      have n4 : R 67 4 = nI q'.2.2.2 := r1.2.2.2.2.2
      have rF : ∀ a, ¬ (85 ≤ a ∧ a < 90) → ¬ a = l + 2 → ¬ a = 67 → R a = M a := r2.2
      simp (disch := omega) only [n3, n4, ↓dK_64 hL, ↓dG_64 hL, ↓dP_64 hL, ↓dR_64_1 hL, ↓dK_67 hL, ↓dG_67 hL, ↓dP_67 hL, ↓reduceIte, ↓kq_bi, ↓kq_let, ↓kq_rz0, ↓kq_rz1, ↓kq_rzB, ↓Option.bind_some, kq_dvn, kt_lt, kf_lt, kt_eq, kf_eq, decide_true, decide_false, eq_self, Bool.false_eq_true, Bool.true_eq_false, not_true_eq_false, not_false_eq_true, jU_eq, jU_ne, jU_U, jV_eq, jV_ne, jV_V, kn_lit, kn_add, kn_mul, kn_sdm, kn_sub, kn_div, kn_nsdm, kn_lt, kn_eq, kn_pred, kn_m1, kn_m1', kn_a31, kn_shl, kn_shr, kn_bit, nB_0, nB_1, nB_t, nB_f, Nat.zero_add, Nat.add_zero, Nat.reduceAdd, Nat.reduceMul, Nat.reduceSub, Nat.reducePow]
      refine jW_s (hP _ (jCC_W hL hC hA (fun a x1 x2 x3 x4 x5 x6 x7 => by rw [jU_ne x1, rF a x5 x7 x3]; exact mF a x2 x3 x4 (by omega) (by omega)) (jCS_cg (fun a x1 x2 => jU_ne (by omega)) r1.2.1) ⟨?_, fun i hi => ?_⟩ ?_ ?_ (fun f hf => ?_) ?_) (fun a ha => ?_))
      · rw [jU_ne (by omega), rF 106 (by omega) (by omega) (by omega), m1, jV_eq]
      · have hi : i < w + 1 := hi
        show jCR _ (108 + i) (if i = w then r else B i)
        by_cases z : i = w
        · rw [if_pos z, z]
          exact jCR_congr (by rw [jU_ne (by omega), rF _ (by omega) (by omega) (by omega)]) m2
        · rw [if_neg z]
          exact jCR_congr (by rw [jU_ne (by omega), rF _ (by omega) (by omega) (by omega)]; exact mF _ (by omega) (by omega) (by omega) (by omega) (by omega)) (hC.2.2.2.1.2 i (show i < w by omega))
      · rw [jU_ne (by omega), rF 65 (by omega) (by omega) (by omega), m65, jV_eq]
      · rw [jU_ne (by omega), rF 65 (by omega) (by omega) (by omega), m65, jV_ne (by omega)]; exact l3
      · rw [jU_eq, jV_ne hf, rF 64 (by omega) (by omega) (by omega), mF 64 (by omega) (by omega) (by omega) (by omega) (by omega)]
      · rw [jU_eq, jV_eq]
      · rw [jU_ne (by omega), rF a (by omega) (by omega) (by omega)]; exact mF a (by omega) (by omega) (by omega) (by omega) (by omega)
    · have hRr := hC.2.1
      have e40 : I 205 40 = nI w := hC.2.2.2.1.1
      obtain ⟨J, e, z0, z1, z2⟩ : ∃ J, F_Mod_work 205 (nI n) (jz_I h I) = some (nI q'.2.2.1, jz_I h J) ∧ J 205 0 = nI 0 ∧ jMM J (τ, ω, q'.1, β, (w + 1, fun i => if i = w then r else B i), E, (0, tp), -nI 1, q'.2.2.2, c0, c1) ∧ ∀ a, a < 205 → J a = I a := by
        refine jE_i (fun P hP => ?_)
        refine pre t u l m b c h I hL hC P (fun K k1 k2 k3 k4 => ?_)
        have kT : jTM K tp n y := k1.1
        have k5 : K 205 5 = nI y.2.1 := kT.2.2.1.1
        rw [h0] at k5
        obtain ⟨⟨k34, -⟩, kS⟩ := k1.2 h0
        have k34 : K 205 34 = nI π.1 := k34
        have k40 : K 205 40 = nI w := (k3 40 (by omega) (by omega)).trans e40
        unfold F_Mod_work_b101
        simp (disch := omega) only [k5, k40, ↓dK_205 hL, ↓dG_205 hL, ↓dP_205 hL, ↓dZ_205 hL (x := nI 0) (Or.inl rfl), ↓dZ_205 hL (x := nI 1) (Or.inr rfl), ↓dZ_205 hL (Or.inl rfl), ↓dZ_205 hL (Or.inr rfl), ↓dZ_205 hL (nB_01 _), ↓dR_205_35 hL, dI_691 hL, dS_691 hL, ↓dR_205_37 hL, dA_693 hL, dI_694 hL, dS_694 hL, ↓reduceIte, ↓kq_bi, ↓kq_let, ↓kq_rz0, ↓kq_rz1, ↓kq_rzB, ↓Option.bind_some, kq_dvn, kt_lt, kf_lt, kt_eq, kf_eq, decide_true, decide_false, eq_self, Bool.false_eq_true, Bool.true_eq_false, not_true_eq_false, not_false_eq_true, jU_eq, jU_ne, jU_U, jV_eq, jV_ne, jV_V, kn_lit, kn_add, kn_mul, kn_sdm, kn_sub, kn_div, kn_nsdm, kn_lt, kn_eq, kn_pred, kn_m1, kn_m1', kn_a31, kn_shl, kn_shr, kn_bit, nB_0, nB_1, nB_t, nB_f, Nat.zero_add, Nat.add_zero, Nat.reduceAdd, Nat.reduceMul, Nat.reduceSub, Nat.reducePow]
        refine jW_bn (m_copies (lk_691 hL) (ll_691 hL) (lk_694 hL (k := w) hw) (ll_694 hL (k := w) hw) (by omega) (by omega)) (fun M hM => ?_)
        obtain ⟨m1, m2⟩ := hM
        have m205 : M 205 = jV (K 205) 3 (-nI 1) := by rw [m2 205 (by omega), jU_eq]
        have n40 : M 205 40 = nI w := by rw [m205, jV_ne (by omega)]; exact k40
        have n34 : M 205 34 = nI π.1 := by rw [m205, jV_ne (by omega)]; exact k34
        simp (disch := omega) only [n40, n34, ↓dK_205 hL, ↓dG_205 hL, ↓dP_205 hL, ↓dZ_205 hL (x := nI 0) (Or.inl rfl), ↓dZ_205 hL (x := nI 1) (Or.inr rfl), ↓dZ_205 hL (Or.inl rfl), ↓dZ_205 hL (Or.inr rfl), ↓dZ_205 hL (nB_01 _), ↓reduceIte, ↓kq_bi, ↓kq_let, ↓kq_rz0, ↓kq_rz1, ↓kq_rzB, ↓Option.bind_some, kq_dvn, kt_lt, kf_lt, kt_eq, kf_eq, decide_true, decide_false, eq_self, Bool.false_eq_true, Bool.true_eq_false, not_true_eq_false, not_false_eq_true, jU_eq, jU_ne, jU_U, jV_eq, jV_ne, jV_V, kn_lit, kn_add, kn_mul, kn_sdm, kn_sub, kn_div, kn_nsdm, kn_lt, kn_eq, kn_pred, kn_m1, kn_m1', kn_a31, kn_shl, kn_shr, kn_bit, nB_0, nB_1, nB_t, nB_f, Nat.zero_add, Nat.add_zero, Nat.reduceAdd, Nat.reduceMul, Nat.reduceSub, Nat.reducePow]
        have mF : ∀ a, ¬ a = 205 → ¬ a = 694 + w → M a = K a := fun a x1 x2 => by rw [m2 a x2, jU_ne x1]
        have mg : ∀ f, ¬ f = 3 → M 205 f = K 205 f := fun f hf => by rw [m205, jV_ne hf]
        have kn : ∀ k, k < 134 → M (694 + w) k = nI (r k) := fun k hk => by rw [m1 k hk, jU_ne (by omega), k4 691 (by omega) (by omega)]; exact hRr k hk
        refine jW_bn (rM t u l m b c h hL _ ⟨⟨jMT_congr (fun a x1 x2 => ?_) hT hC.1.1, hT, jML_congr (fun a x1 x2 => ?_) ?_ hA.2.1 hC.1.2.1, hA.2.1, ?_⟩, fun k hk => ?_, fun i hi => ?_, ?_, ?_, ?_⟩) (fun R hR => ?_)
        · rw [jU_ne (by omega), mF a (by omega) (by omega)]; exact k4 a (by omega) (by omega)
        · rw [jU_ne (by omega), mF a (by omega) (by omega)]; exact k4 a (by omega) (by omega)
        · simp (disch := omega) only [jU_eq, jV_ne]; rw [mg 25 (by omega)]; exact k3 25 (by omega) (by omega)
        · simp (disch := omega) only [jU_eq, jV_ne]; rw [mg 44 (by omega), k3 44 (by omega) (by omega)]; exact hC.1.2.2
        · rw [jU_ne (by omega), mF 691 (by omega) (by omega), k4 691 (by omega) (by omega)]; exact hRr k hk
        · have hi : i < π.1 := hi
          have := kS i hi
          unfold jPsM at this ⊢
          rw [jU_ne (by omega), mF (611 + i) (by omega) (by omega)]
          exact this
        · simp (disch := omega) only [jU_eq, jV_ne, jV_eq]
        · simp (disch := omega) only [jU_eq, jV_ne, jV_eq]
        · simp (disch := omega) only [jU_eq, jV_ne, jV_eq]
        obtain ⟨r1, r2, r3⟩ := hR
        have n46 : R 205 46 = nI q'.2.2.1 := r1.2.2.2.2.1
        simp (disch := omega) only [n46, ↓dK_205 hL, ↓dG_205 hL, ↓dP_205 hL, ↓dZ_205 hL (x := nI 0) (Or.inl rfl), ↓dZ_205 hL (x := nI 1) (Or.inr rfl), ↓dZ_205 hL (Or.inl rfl), ↓dZ_205 hL (Or.inr rfl), ↓dZ_205 hL (nB_01 _), ↓reduceIte, ↓kq_bi, ↓kq_let, ↓kq_rz0, ↓kq_rz1, ↓kq_rzB, ↓Option.bind_some, kq_dvn, kt_lt, kf_lt, kt_eq, kf_eq, decide_true, decide_false, eq_self, Bool.false_eq_true, Bool.true_eq_false, not_true_eq_false, not_false_eq_true, jU_eq, jU_ne, jU_U, jV_eq, jV_ne, jV_V, kn_lit, kn_add, kn_mul, kn_sdm, kn_sub, kn_div, kn_nsdm, kn_lt, kn_eq, kn_pred, kn_m1, kn_m1', kn_a31, kn_shl, kn_shr, kn_bit, nB_0, nB_1, nB_t, nB_f, Nat.zero_add, Nat.add_zero, Nat.reduceAdd, Nat.reduceMul, Nat.reduceSub, Nat.reducePow]
        have rf : ∀ f, ¬ f = 3 → ¬ f = 40 → ¬ f = 41 → ¬ f = 45 → ¬ f = 46 → R 205 f = K 205 f := fun f x0 x1 x2 x3 x4 => by
          rw [r2 f x2 x3 x4]
          simp (disch := omega) only [jU_eq, jV_ne]
          exact mg f x0
        have rF : ∀ a, ¬ a = 205 → ¬ (598 ≤ a ∧ a < 711) → R a = I a := fun a x1 x2 => by rw [r3 a x1 (by omega) (by omega) (by omega), jU_ne x1, mF a x1 (by omega)]; exact k4 a x1 (by omega)
        refine jW_s (hP R ⟨(rf 0 (by omega) (by omega) (by omega) (by omega) (by omega)).trans k2.1, jMM_W hC hA rF (fun f f1 f2 f3 f4 f5 f6 => (rf f (by omega) f3 f4 f5 f6).trans (k3 f f1 f2)) ((rf 1 (by omega) (by omega) (by omega) (by omega) (by omega)).trans k2.2) ?_ r1.2.1 ⟨?_, fun i hi => ?_⟩ r1.2.2.2.2.2, fun a ha => rF a (by omega) (by omega)⟩)
        · rw [r2 3 (by omega) (by omega) (by omega)]
          simp (disch := omega) only [jU_eq, jV_ne]
          rw [m205, jV_eq]
        · rw [r2 40 (by omega) (by omega) (by omega)]
          simp (disch := omega) only [jU_eq, jV_ne, jV_eq]
        · have hi : i < w + 1 := hi
          show jMR R (694 + i) (if i = w then r else B i)
          intro k hk
          rw [r3 (694 + i) (by omega) (by omega) (by omega) (by omega), jU_ne (by omega)]
          by_cases z : i = w
          · rw [if_pos z, z]; exact kn k hk
          · rw [if_neg z, mF _ (by omega) (by omega), k4 _ (by omega) (by omega)]
            exact hC.2.2.2.1.2 i (show i < w by omega) k hk
      exact ⟨_, J, e, z0, fun w hw => by cases hw; rfl, z1, z2⟩
  · refine jDo_b (k := 1) (by omega) (by decide) hA (fun t u l m b c h I hL hC => ?_) (fun t u l m b c h I hL hC => ?_)
    · have e1 : I 65 1 = nI q := hC.2.2.2.2.2.1.1
      show F_SG_work 64 x (jz_I h I) = _
      unfold F_SG_work
      exact c_openX hL (by omega) hq e1 gx
    · have e1 : I 205 1 = nI q := hC.2.2.2.2.2.1.1
      show ∃ J, F_Mod_work 205 x (jz_I h I) = _ ∧ _
      unfold F_Mod_work
      by_cases gx' : jRg x 0 q
      · obtain ⟨k, -, k2, rfl⟩ := gx'
        have k5 : 150 < k := by
          by_cases z : 150 < k
          · exact z
          · exact absurd ⟨k, by omega, k2, rfl⟩ gx
        simp (disch := omega) only [e1, m_in1, F_Mod_work_b25, ↓dK_205 hL, ↓dG_205 hL, ↓dP_205 hL, ↓dZ_205 hL (x := nI 0) (Or.inl rfl), ↓dZ_205 hL (x := nI 1) (Or.inr rfl), ↓dZ_205 hL (Or.inl rfl), ↓dZ_205 hL (Or.inr rfl), ↓dZ_205 hL (nB_01 _), ↓reduceIte, ↓kq_bi, ↓kq_let, ↓kq_rz0, ↓kq_rz1, ↓kq_rzB, ↓Option.bind_some, kq_dvn, kt_lt, kf_lt, kt_eq, kf_eq, decide_true, decide_false, eq_self, Bool.false_eq_true, Bool.true_eq_false, not_true_eq_false, not_false_eq_true, jU_eq, jU_ne, jU_U, jV_eq, jV_ne, jV_V, kn_lit, kn_add, kn_mul, kn_sdm, kn_sub, kn_div, kn_nsdm, kn_lt, kn_eq, kn_pred, kn_m1, kn_m1', kn_a31, kn_shl, kn_shr, kn_bit, nB_0, nB_1, nB_t, nB_f, Nat.zero_add, Nat.add_zero, Nat.reduceAdd, Nat.reduceMul, Nat.reduceSub, Nat.reducePow]
        unfold F_Mod_work_b30
        exact m_bdF hL (f := 1) (i := 1) (by omega) (by omega) (by omega) (fun g => (if_neg (by decide)).trans rfl)
      · simp (disch := omega) only [e1, m_inX (lo := 0) (hi := q) (by omega) (by omega) gx', F_Mod_work_b25, ↓dK_205 hL, ↓dG_205 hL, ↓dP_205 hL, ↓dZ_205 hL (x := nI 0) (Or.inl rfl), ↓dZ_205 hL (x := nI 1) (Or.inr rfl), ↓dZ_205 hL (Or.inl rfl), ↓dZ_205 hL (Or.inr rfl), ↓dZ_205 hL (nB_01 _), ↓reduceIte, ↓kq_bi, ↓kq_let, ↓kq_rz0, ↓kq_rz1, ↓kq_rzB, ↓Option.bind_some, kq_dvn, kt_lt, kf_lt, kt_eq, kf_eq, decide_true, decide_false, eq_self, Bool.false_eq_true, Bool.true_eq_false, not_true_eq_false, not_false_eq_true, jU_eq, jU_ne, jU_U, jV_eq, jV_ne, jV_V, kn_lit, kn_add, kn_mul, kn_sdm, kn_sub, kn_div, kn_nsdm, kn_lt, kn_eq, kn_pred, kn_m1, kn_m1', kn_a31, kn_shl, kn_shr, kn_bit, nB_0, nB_1, nB_t, nB_f, Nat.zero_add, Nat.add_zero, Nat.reduceAdd, Nat.reduceMul, Nat.reduceSub, Nat.reducePow]
        unfold F_Mod_work_b30
        exact m_bdF hL (f := 1) (i := 1) (by omega) (by omega) (by omega) (fun g => (if_neg (by decide)).trans rfl)
end

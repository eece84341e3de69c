/-! PLAIN LEAN: town -/
section
variable {t u l m b c : Nat} {h : LH} {I J K : Nat → Nat → Int32} {A : JA} {N : Nat} {τ : JTn} {ω : JLw} {r : JRw} {β : JBk} {H : JHs} {E : JIm} {Tp : Nat × (Nat → Nat)} {p : Int32} {rf c0 c1 : Nat} {v : Int32} {tp : Nat → Nat} {n q : Nat} {y : JTs} {x : Int32}
theorem jMT_cg2 (hF : ∀ a, 209 ≤ a → a < 266 → ¬ jDA a → J a = I a) (ho : jTOK τ) (hT : jMT I τ) : jMT J τ := by
  obtain ⟨h1, h2, h3, h4, h5, h6, h7⟩ := hT
  obtain ⟨o0, o1, o2, o3, o4, o5, -⟩ := ho
  unfold jDA at hF
  exact ⟨fun k hk => by rw [hF 209 (by omega) (by omega) (by omega)]; exact h1 k hk, fun k hk => by rw [hF 211 (by omega) (by omega) (by omega)]; exact h2 k hk, fun k hk => by rw [hF 213 (by omega) (by omega) (by omega)]; exact h3 k hk, fun k hk => by rw [hF 215 (by omega) (by omega) (by omega)]; exact h4 k hk, fun w j hw hj => by rw [hF (224 + w) (by omega) (by omega) (by omega)]; exact h5 w j hw hj, fun w j hw hj => by rw [hF (242 + w) (by omega) (by omega) (by omega)]; exact h6 w j hw hj, fun w j hw hj => by rw [hF (260 + w) (by omega) (by omega) (by omega)]; exact h7 w j hw hj⟩
/-- a text that could not be read: the reference's side -/
theorem jMM_flt {p' : Int32} (hC : jMM I (τ, ω, r, β, H, E, Tp, p, rf, c0, c1)) (hA : jAG N (τ, ω, r, β, H, E, Tp, p, rf, c0, c1)) (hF : ∀ a, ¬ a = 205 → ¬ jDA a → ¬ (428 ≤ a ∧ a < 588) → ¬ (598 ≤ a ∧ a < 691) → J a = I a) (hf : ∀ f, 9 ≤ f → ¬ f = 26 → ¬ f = 34 → J 205 f = I 205 f) (e1 : J 205 1 = nI 0) (e3 : J 205 3 = p') : jMM J (τ, ω, r, β, H, E, (0, Tp.2), p', rf, c0, c1) := by
  obtain ⟨⟨a1, a2, a3⟩, a4, a5, a6, a8, -, a13, a14, a15⟩ := hC
  obtain ⟨o1, o2, -, ⟨o3, -⟩, ⟨b1, -⟩, ⟨b2, -⟩, -⟩ := hA
  unfold jDA at hF
  exact ⟨⟨jMT_cg2 (fun a x1 x2 x3 => hF a (by omega) (by unfold jDA at x3; exact x3) (by omega) (by omega)) o1 a1, jML_congr (fun a x1 x2 => hF a (by omega) (by omega) (by omega) (by omega)) (hf 25 (by omega) (by omega) (by omega)) o2 a2, (hf 44 (by omega) (by omega) (by omega)).trans a3⟩, fun k hk => by rw [hF 691 (by omega) (by omega) (by omega) (by omega)]; exact a4 k hk, jMB_cg o3 (hf 39 (by omega) (by omega) (by omega)) (fun a x1 x2 => hF a (by omega) (by omega) (by omega) (by omega)) a5, jmH_cg b1 (hf 40 (by omega) (by omega) (by omega)) (fun a x1 x2 => hF a (by omega) (by omega) (by omega) (by omega)) a6, jmE_cg b2 (hf 42 (by omega) (by omega) (by omega)) (fun a x1 x2 => hF a (by omega) (by omega) (by omega) (by omega)) a8, ⟨e1, e3, fun k hk => absurd hk (Nat.not_lt_zero k)⟩, (hf 41 (by omega) (by omega) (by omega)).trans a13, by rw [hF 207 (by omega) (by omega) (by omega) (by omega)]; exact a14, by rw [hF 207 (by omega) (by omega) (by omega) (by omega)]; exact a15⟩
theorem s_r0_g (ho : jTOK τ) : jRG τ (s_r0 τ) := by
  have o1 : τ 0 1 ≤ 6 := ho.2.1
  have r0 : ∀ k, ¬ (117 ≤ k ∧ k < 117 + τ 0 1) → s_r0 τ k = 0 := fun k hk => if_neg hk
  exact ⟨s_r0_ok ho, fun c hc h0 => absurd (r0 (123 + c) (by omega)) h0, by rw [r0 133 (by omega)]; omega⟩
/-- what a new town begins with -/
def s_anew (δ : JTn) (tp : Nat → Nat) (c0 c1 : Nat) : JA := (δ, s_plain, s_r0 δ, (0, fun _ _ => 0), (0, fun _ => s_r0 δ), (0, fun _ => (s_r0 δ, 0, fun _ => s_r0 δ)), (0, tp), -nI 1, 0, c0, c1)
theorem s_anew_g {δ : JTn} (ho : jTOK δ) (h256 : ∀ k, tp k < 256) (h0 : c0 ≤ N) (h1 : c1 ≤ N) : jAG N (s_anew δ tp c0 c1) := ⟨ho, s_plain_ok, s_r0_g ho, ⟨Nat.zero_le _, fun k hk => absurd hk (Nat.not_lt_zero k)⟩, ⟨Nat.zero_le _, fun k hk => absurd hk (Nat.not_lt_zero k)⟩, ⟨Nat.zero_le _, fun k hk => absurd hk (Nat.not_lt_zero k)⟩, ⟨Nat.zero_le _, h256⟩, by omega, h0, h1⟩
theorem c_townG (hL : jLay t u l m b c h) (hC : jCC h I t l b (τ, ω, r, β, H, E, (q, tp), p, rf, c0, c1)) (hA : jAG N (τ, ω, r, β, H, E, (q, tp), p, rf, c0, c1)) (hn : n ≤ q) : ∃ t' u' l' m' b' c' h' J, F_SG_town 64 (nI n) (jz_I h I) = some (jo_i (if (s_town tp n).2.2.1 = 0 then nI ((s_town tp n).1 0 0) else nI (s_town tp n).2.2.1 - nI 10, jz_I h' J)) ∧ jLay t' u' l' m' b' c' h' ∧ jCC h' J t' l' b' (if (s_town tp n).2.2.1 = 0 then s_anew (s_town tp n).1 tp c0 c1 else (τ, ω, r, β, H, E, (0, tp), nF (s_town tp n).2, rf, c0, c1)) ∧ (∀ a, a < 64 ∨ 205 ≤ a → J a = I a) ∧ jHp h h' := by
  have ht := jLay_t hL
  have hu := jLay_u hL
  have htu : ¬ t = u := by have := hL.2.2.2.2.1; omega
  have hl := jLay_l hL
  have hb := jLay_b hL
  obtain ⟨hq, h256⟩ : q ≤ 600 ∧ ∀ k, tp k < 256 := hA.2.2.2.2.2.2.1
  obtain ⟨e1, e3, etp⟩ : I 65 1 = nI q ∧ I 65 3 = p ∧ ∀ k, k < q → I 66 k = nS (tp k) := hC.2.2.2.2.2.1
  have hS := hC.2.2.2.2.2.2.2
  suffices hW : ∀ P : JOut → Prop, (∀ t' u' l' m' b' c' h' J, jLay t' u' l' m' b' c' h' → jCC h' J t' l' b' (if (s_town tp n).2.2.1 = 0 then s_anew (s_town tp n).1 tp c0 c1 else (τ, ω, r, β, H, E, (0, tp), nF (s_town tp n).2, rf, c0, c1)) → (∀ a, a < 64 ∨ 205 ≤ a → J a = I a) → jHp h h' → P (jo_i (if (s_town tp n).2.2.1 = 0 then nI ((s_town tp n).1 0 0) else nI (s_town tp n).2.2.1 - nI 10, jz_I h' J))) → jW (F_SG_town 64 (nI n) (jz_I h I)) P by
    obtain ⟨o, e, t', u', l', m', b', c', h', J, rfl, z⟩ := hW (fun o => ∃ t' u' l' m' b' c' h' J, o = jo_i (if (s_town tp n).2.2.1 = 0 then nI ((s_town tp n).1 0 0) else nI (s_town tp n).2.2.1 - nI 10, jz_I h' J) ∧ jLay t' u' l' m' b' c' h' ∧ jCC h' J t' l' b' (if (s_town tp n).2.2.1 = 0 then s_anew (s_town tp n).1 tp c0 c1 else (τ, ω, r, β, H, E, (0, tp), nF (s_town tp n).2, rf, c0, c1)) ∧ (∀ a, a < 64 ∨ 205 ≤ a → J a = I a) ∧ jHp h h') (fun t' u' l' m' b' c' h' J a1 a2 a3 a4 => ⟨t', u', l', m', b', c', h', J, rfl, a1, a2, a3, a4⟩)
    exact ⟨t', u', l', m', b', c', h', J, e, z⟩
  intro P hP
  unfold F_SG_town
  rw [dK_64 hL]
  refine jW_th (c_openG hL (most := 600) (by omega) hq e1 (by omega) hn etp h256) (fun K hK => ?_)
  obtain ⟨k1, kT⟩ := hK
  simp (disch := omega) only [↓dR_64_10 hL, ↓dK_T hL hu, ↓dK_64 hL, ↓dG_64 hL, ↓dP_64 hL, ↓dR_64_0 hL, ↓dK_65 hL, ↓dG_65 hL, ↓dP_65 hL, ↓reduceIte, ↓kq_bi, ↓kq_let, ↓kq_rz0, ↓kq_rz1, ↓kq_rzB, ↓Option.bind_some, kq_dvn, kt_lt, kf_lt, kt_eq, kf_eq, decide_true, decide_false, eq_self, Bool.false_eq_true, Bool.true_eq_false, not_true_eq_false, not_false_eq_true, jU_eq, jU_ne, jU_U, jV_eq, jV_ne, jV_V, kn_lit, kn_add, kn_mul, kn_sdm, kn_sub, kn_div, kn_nsdm, kn_lt, kn_eq, kn_pred, kn_m1, kn_m1', kn_a31, kn_shl, kn_shr, kn_bit, nB_0, nB_1, nB_t, nB_f, Nat.zero_add, Nat.add_zero, Nat.reduceAdd, Nat.reduceMul, Nat.reduceSub, Nat.reducePow]
  refine jW_bn (c_readFrom hL hu (jStr_T1 hS kT) k1) (fun L hL' => ?_)
  obtain ⟨l1, l2, l3, l4⟩ := hL'
  have l65 : L 65 2 = nI (s_town tp n).2.2.1 := l1.1.1
  have hy2 : (s_town tp n).2.2.1 ≤ 3 := l1.2.1.2.1
  have lF : ∀ a, ¬ a = 65 → ¬ (u ≤ a ∧ a < u + 13) → L a = I a := fun a x1 x2 => (l4.2 a x1 x2).trans (kT.2 a x1)
  simp (disch := omega) only [c_close hL, ↓dK_64 hL, ↓dG_64 hL, ↓dP_64 hL, ↓dR_64_0 hL, ↓dK_65 hL, ↓dG_65 hL, ↓dP_65 hL, ↓reduceIte, ↓kq_bi, ↓kq_let, ↓kq_rz0, ↓kq_rz1, ↓kq_rzB, ↓Option.bind_some, kq_dvn, kt_lt, kf_lt, kt_eq, kf_eq, decide_true, decide_false, eq_self, Bool.false_eq_true, Bool.true_eq_false, not_true_eq_false, not_false_eq_true, jU_eq, jU_ne, jU_U, jV_eq, jV_ne, jV_V, kn_lit, kn_add, kn_mul, kn_sdm, kn_sub, kn_div, kn_nsdm, kn_lt, kn_eq, kn_pred, kn_m1, kn_m1', kn_a31, kn_shl, kn_shr, kn_bit, nB_0, nB_1, nB_t, nB_f, Nat.zero_add, Nat.add_zero, Nat.reduceAdd, Nat.reduceMul, Nat.reduceSub, Nat.reducePow]
  by_cases h0 : (s_town tp n).2.2.1 = 0
  · rw [if_pos h0, if_pos h0] at hP
    rw [h0] at l65
    have hO := s_town_ok h0
    simp (disch := omega) only [↓dK_64 hL, ↓dG_64 hL, ↓dP_64 hL, ↓dR_64_0 hL, ↓dK_65 hL, ↓dG_65 hL, ↓dP_65 hL, ↓dR_64_2 hL, ↓dK_85 hL, ↓dG_85 hL, ↓dP_85 hL, ↓dZ_85 hL (x := nI 0) (Or.inl rfl), ↓dZ_85 hL (x := nI 1) (Or.inr rfl), ↓dZ_85 hL (Or.inl rfl), ↓dZ_85 hL (Or.inr rfl), ↓dZ_85 hL (nB_01 _), kn_lit, l65, jU_eq, jV_ne, ↓reduceIte, ↓dR_85_1 hL, ↓dR_64_10 hL]
    rw [c_swT hL]
    have hL2 := jLay_sw hL
    simp (disch := omega) only [↓dK_64 hL2, ↓dG_64 hL2, ↓dP_64 hL2, ↓dR_64_2 hL2, ↓dK_85 hL2, ↓dG_85 hL2, ↓dP_85 hL2, ↓dZ_85 hL2 (x := nI 0) (Or.inl rfl), ↓dZ_85 hL2 (x := nI 1) (Or.inr rfl), ↓dZ_85 hL2 (Or.inl rfl), ↓dZ_85 hL2 (Or.inr rfl), ↓dZ_85 hL2 (nB_01 _), ↓dR_85_2 hL2, ↓dK_L hL2 hl]
    refine jW_bn (c_setPlain hL2 hl) (fun M1 hM1 => ?_)
    obtain ⟨m1, m2⟩ := hM1
    simp (disch := omega) only [↓dK_64 hL2, ↓dG_64 hL2, ↓dP_64 hL2, ↓dR_64_12 hL2, ↓dK_B hL2 hb]
    refine jW_bn (c_clear hL2 hb (f := fun _ _ => 0)) (fun M2 hM2 => ?_)
    obtain ⟨n1, n2⟩ := hM2
    simp (disch := omega) only [↓dK_64 hL2, ↓dG_64 hL2, ↓dP_64 hL2, ↓dR_64_2 hL2, ↓dK_85 hL2, ↓dG_85 hL2, ↓dP_85 hL2, ↓dZ_85 hL2 (x := nI 0) (Or.inl rfl), ↓dZ_85 hL2 (x := nI 1) (Or.inr rfl), ↓dZ_85 hL2 (Or.inl rfl), ↓dZ_85 hL2 (Or.inr rfl), ↓dZ_85 hL2 (nB_01 _)]
    have hCT : jCT M2 u (s_town tp n).1 := jCT_congr (fun i hi => by rw [n2 _ (by omega) (by omega), m2 _ (by omega) (by omega), jU_ne (by omega)]) (jCD_CT l2)
    refine jW_bn (c_begin hL2 (Or.inl rfl) hO hCT) (fun M3 hM3 => ?_)
    obtain ⟨p1, -, -, p4⟩ := hM3
    have F3 : ∀ a, ¬ a = 65 → ¬ (u ≤ a ∧ a < u + 13) → ¬ a = l → ¬ a = l + 1 → ¬ a = b → ¬ a = b + 1 → ¬ a = 85 → ¬ a = 86 → M3 a = I a := fun a x1 x2 x3 x4 x5 x6 x7 x8 => by rw [p4 a x7 x8, n2 a x5 x6, m2 a x3 x4, jU_ne x1]; exact lF a x1 x2
    have hCT3 : jCT M3 u (s_town tp n).1 := jCT_congr (fun i hi => p4 _ (by omega) (by omega)) hCT
    have m0 : M3 u 0 = nI ((s_town tp n).1 0 0) := hCT3.1
    have e65 : M3 65 = jV (L 65) 1 (nI 0) := by rw [p4 65 (by omega) (by omega), n2 65 (by omega) (by omega), m2 65 (by omega) (by omega), jU_eq]
    simp (disch := omega) only [↓dK_64 hL2, ↓dG_64 hL2, ↓dP_64 hL2, ↓dR_64_7 hL2, ↓dK_106 hL2, ↓dG_106 hL2, ↓dP_106 hL2, ↓dR_64_2 hL2, ↓dK_85 hL2, ↓dG_85 hL2, ↓dP_85 hL2, ↓dZ_85 hL2 (x := nI 0) (Or.inl rfl), ↓dZ_85 hL2 (x := nI 1) (Or.inr rfl), ↓dZ_85 hL2 (Or.inl rfl), ↓dZ_85 hL2 (Or.inr rfl), ↓dZ_85 hL2 (nB_01 _), kn_lit, ↓dR_85_1 hL2, ↓dG_T hL2 hu, jU_U, jU_eq, jU_ne, jV_ne, m0]
    refine jW_s (hP u t l m b c (jSwT h t u) _ hL2 ?_ (fun a ha => ?_) ⟨Or.inl rfl, rfl⟩)
    · refine ⟨⟨jCT_congr (fun i hi => ?_) hCT3, jCL_cg (fun a ha => ?_) m1⟩, jCS_cg (fun a x1 x2 => ?_) p1, jCB_cg (fun a ha => ?_) n1, ⟨?_, fun i hi => absurd hi (Nat.not_lt_zero i)⟩, ⟨?_, fun i hi => absurd hi (Nat.not_lt_zero i)⟩, ⟨?_, ?_, fun i hi => absurd hi (Nat.not_lt_zero i)⟩, ⟨?_, ?_, ?_⟩, jStr_sw (jStr_eq hS (fun a ha => ?_))⟩
      · rw [jU_ne (by omega), jU_ne (by omega)]
      · rw [jU_ne (by omega), jU_ne (by omega), p4 a (by omega) (by omega), n2 a (by omega) (by omega)]
      · rw [jU_ne (by omega), jU_ne (by omega)]
      · rw [jU_ne (by omega), jU_ne (by omega), p4 a (by omega) (by omega)]
      · rw [jU_ne (by omega), jU_eq, jV_eq]
      · rw [jU_eq, jV_ne (by omega), jV_eq]
      · rw [jU_ne (by omega), jU_ne (by omega), e65, jV_eq]
      · rw [jU_ne (by omega), jU_ne (by omega), e65, jV_ne (by omega), l1.1.2.1]; unfold nF; rw [if_pos h0]
      · rw [jU_eq, jV_eq]
      · rw [jU_eq, jV_ne (by omega), jV_ne (by omega), F3 64 (by omega) (by omega) (by omega) (by omega) (by omega) (by omega) (by omega) (by omega)]; exact hC.2.2.2.2.2.2.1.2.1
      · rw [jU_eq, jV_ne (by omega), jV_ne (by omega), F3 64 (by omega) (by omega) (by omega) (by omega) (by omega) (by omega) (by omega) (by omega)]; exact hC.2.2.2.2.2.2.1.2.2
      · rw [jU_ne (by omega), jU_ne (by omega)]; exact F3 a (by omega) (by omega) (by omega) (by omega) (by omega) (by omega) (by omega) (by omega)
    · rw [jU_ne (by omega), jU_ne (by omega)]; exact F3 a (by omega) (by omega) (by omega) (by omega) (by omega) (by omega) (by omega) (by omega)
  · rw [if_neg h0, if_neg h0] at hP
    simp (disch := omega) only [l65, ↓dK_64 hL, ↓dG_64 hL, ↓dP_64 hL, ↓dR_64_0 hL, ↓dK_65 hL, ↓dG_65 hL, ↓dP_65 hL, ↓reduceIte, ↓kq_bi, ↓kq_let, ↓kq_rz0, ↓kq_rz1, ↓kq_rzB, ↓Option.bind_some, kq_dvn, kt_lt, kf_lt, kt_eq, kf_eq, decide_true, decide_false, eq_self, Bool.false_eq_true, Bool.true_eq_false, not_true_eq_false, not_false_eq_true, jU_eq, jU_ne, jU_U, jV_eq, jV_ne, jV_V, kn_lit, kn_add, kn_mul, kn_sdm, kn_sub, kn_div, kn_nsdm, kn_lt, kn_eq, kn_pred, kn_m1, kn_m1', kn_a31, kn_shl, kn_shr, kn_bit, nB_0, nB_1, nB_t, nB_f, Nat.zero_add, Nat.add_zero, Nat.reduceAdd, Nat.reduceMul, Nat.reduceSub, Nat.reducePow]
    refine jW_s (hP t u l m b c h (jU L 65 (jV (L 65) 1 (nI 0))) hL ?_ (fun a ha => by rw [jU_ne (by omega)]; exact lF a (by omega) (by omega)) ⟨Or.inl rfl, rfl⟩)
    exact jCC_flt hL hC hA l1 (fun a x1 x2 => lF a x1 (by omega))
end

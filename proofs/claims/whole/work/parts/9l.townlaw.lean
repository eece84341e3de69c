/-! PLAIN LEAN: town and law, as calls -/
section
variable {t u l m b c : Nat} {h : LH} {I J K : Nat → Nat → Int32} {A : JA} {N : Nat} {τ : JTn} {ω ω' : JLw} {r : JRw} {β : JBk} {H : JHs} {E : JIm} {Tp : Nat × (Nat → Nat)} {p : Int32} {rf c0 c1 : Nat} {v : Int32} {tp : Nat → Nat} {n q : Nat} {y : JTs} {x : Int32}
theorem m_townG (hL : jLay t u l m b c h) (hC : jMM I (τ, ω, r, β, H, E, (q, tp), p, rf, c0, c1)) (hA : jAG N (τ, ω, r, β, H, E, (q, tp), p, rf, c0, c1)) (hn : n ≤ q) : ∃ J, F_Mod_town 205 (nI n) (jz_I h I) = some (if (s_town tp n).2.2.1 = 0 then nI ((s_town tp n).1 0 0) else nI (s_town tp n).2.2.1 - nI 10, jz_I h J) ∧ J 205 0 = nI 0 ∧ jMM J (if (s_town tp n).2.2.1 = 0 then s_anew (s_town tp n).1 tp c0 c1 else (τ, ω, r, β, H, E, (0, tp), nF (s_town tp n).2, rf, c0, c1)) ∧ ∀ a, a < 205 → J a = I a := by
  obtain ⟨hq, h256⟩ : q ≤ 600 ∧ ∀ k, tp k < 256 := hA.2.2.2.2.2.2.1
  obtain ⟨e1, e3, etp⟩ : I 205 1 = nI q ∧ I 205 3 = p ∧ ∀ k, k < q → I 206 k = nI (tp k) := hC.2.2.2.2.2.1
  refine jE_i (fun P hP => ?_)
  unfold F_Mod_town
  simp (disch := omega) only [e1, m_in1, ↓dK_205 hL, ↓dG_205 hL, ↓dP_205 hL, ↓dZ_205 hL (x := nI 0) (Or.inl rfl), ↓dZ_205 hL (x := nI 1) (Or.inr rfl), ↓dZ_205 hL (Or.inl rfl), ↓dZ_205 hL (Or.inr rfl), ↓dZ_205 hL (nB_01 _), ↓reduceIte, ↓kq_bi, ↓kq_let, ↓kq_rz0, ↓kq_rz1, ↓kq_rzB, ↓Option.bind_some, kq_dvn, kt_lt, kf_lt, kt_eq, kf_eq, decide_true, decide_false, eq_self, Bool.false_eq_true, Bool.true_eq_false, not_true_eq_false, not_false_eq_true, jU_eq, jU_ne, jU_U, jV_eq, jV_ne, jV_V, kn_lit, kn_add, kn_mul, kn_sdm, kn_sub, kn_div, kn_nsdm, kn_lt, kn_eq, kn_pred, kn_m1, kn_m1', kn_a31, kn_shl, kn_shr, kn_bit, nB_0, nB_1, nB_t, nB_f, Nat.zero_add, Nat.add_zero, Nat.reduceAdd, Nat.reduceMul, Nat.reduceSub, Nat.reducePow]
  unfold F_Mod_town_b23
  have z0 : (jU I 205 (jV (I 205) 0 (nI 0))) 205 0 = nI 0 := by rw [jU_eq, jV_eq]
  simp (disch := omega) only [m_bad0 hL z0, ↓dK_205 hL, ↓dG_205 hL, ↓dP_205 hL, ↓dZ_205 hL (x := nI 0) (Or.inl rfl), ↓dZ_205 hL (x := nI 1) (Or.inr rfl), ↓dZ_205 hL (Or.inl rfl), ↓dZ_205 hL (Or.inr rfl), ↓dZ_205 hL (nB_01 _), ↓reduceIte, ↓kq_bi, ↓kq_let, ↓kq_rz0, ↓kq_rz1, ↓kq_rzB, ↓Option.bind_some, kq_dvn, kt_lt, kf_lt, kt_eq, kf_eq, decide_true, decide_false, eq_self, Bool.false_eq_true, Bool.true_eq_false, not_true_eq_false, not_false_eq_true, jU_eq, jU_ne, jU_U, jV_eq, jV_ne, jV_V, kn_lit, kn_add, kn_mul, kn_sdm, kn_sub, kn_div, kn_nsdm, kn_lt, kn_eq, kn_pred, kn_m1, kn_m1', kn_a31, kn_shl, kn_shr, kn_bit, nB_0, nB_1, nB_t, nB_f, Nat.zero_add, Nat.add_zero, Nat.reduceAdd, Nat.reduceMul, Nat.reduceSub, Nat.reducePow]
  refine jW_bn (m_startsX hL (n := n) (tp := tp) (by omega) (fun k hk => by rw [jU_ne (by omega)]; exact etp k (by omega)) h256) (fun S hS => ?_)
  obtain ⟨s1, ⟨s2, s3, s4, s5⟩, s6, s7⟩ := hS
  have F1 : ∀ f, ¬ f = 0 → (f = 3 ∨ 9 ≤ f) → S 205 f = I 205 f := fun f f0 hf => by rw [s6 f (by omega), jU_eq, jV_ne f0]
  have F0 : S 205 0 = nI 0 := by rw [s6 0 (by omega)]; exact z0
  have FA : ∀ a, ¬ a = 205 → S a = I a := fun a ha => by rw [s7 a ha, jU_ne ha]
  refine m_townZ hL s1 s5 s3 (fun D hD => ?_)
  obtain ⟨d1, d2, d3, d4⟩ := hD
  have dF : ∀ f, ¬ f = 4 → ¬ f = 5 → ¬ f = 6 → ¬ f = 7 → D 205 f = S 205 f := d4.1
  have d5 := d1.2.2.1.1
  have hy2 : (s_town tp n).2.2.1 ≤ 3 := d1.2.1.2.1
  unfold F_Mod_town_b88
  by_cases h0 : (s_town tp n).2.2.1 = 0
  · rw [if_pos h0, if_pos h0] at hP
    rw [h0] at d5
    have hO := s_town_ok h0
    have hMD := d2 h0
    simp (disch := omega) only [d5, ↓dK_205 hL, ↓dG_205 hL, ↓dP_205 hL, ↓dZ_205 hL (x := nI 0) (Or.inl rfl), ↓dZ_205 hL (x := nI 1) (Or.inr rfl), ↓dZ_205 hL (Or.inl rfl), ↓dZ_205 hL (Or.inr rfl), ↓dZ_205 hL (nB_01 _), ↓reduceIte, ↓kq_bi, ↓kq_let, ↓kq_rz0, ↓kq_rz1, ↓kq_rzB, ↓Option.bind_some, kq_dvn, kt_lt, kf_lt, kt_eq, kf_eq, decide_true, decide_false, eq_self, Bool.false_eq_true, Bool.true_eq_false, not_true_eq_false, not_false_eq_true, jU_eq, jU_ne, jU_U, jV_eq, jV_ne, jV_V, kn_lit, kn_add, kn_mul, kn_sdm, kn_sub, kn_div, kn_nsdm, kn_lt, kn_eq, kn_pred, kn_m1, kn_m1', kn_a31, kn_shl, kn_shr, kn_bit, nB_0, nB_1, nB_t, nB_f, Nat.zero_add, Nat.add_zero, Nat.reduceAdd, Nat.reduceMul, Nat.reduceSub, Nat.reducePow]
    have hMD' : jMD (jU D 205 (jV (D 205) 3 (-nI 1))) (s_town tp n).1 := ⟨fun i hi => by rw [jU_ne (by omega)]; exact hMD.1 i hi, fun c k x1 x2 x3 => by
      have := s_ma_rg x1 x2 (Nat.lt_of_lt_of_le x3 (d3 _ (s_kd_lt c (by omega))))
      rw [jU_ne (by omega)]; exact hMD.2 c k x1 x2 x3⟩
    refine jW_bn (m_beginsAnew hL hMD' d3) (fun K hK => ?_)
    obtain ⟨k1, k2, ⟨k25, k39, k40, k41, k42⟩, k3, k4⟩ := hK
    have t0 : K 209 0 = nI ((s_town tp n).1 0 0) := k1.1 0 (by omega)
    have kF : ∀ f, ¬ f = 3 → ¬ f = 4 → ¬ f = 5 → ¬ f = 6 → ¬ f = 7 → ¬ f = 25 → ¬ f = 39 → ¬ f = 40 → ¬ f = 41 → ¬ f = 42 → K 205 f = S 205 f := fun f x1 x2 x3 x4 x5 x6 x7 x8 x9 x10 => by rw [k3 f x6 x7 x8 x9 x10, jU_eq, jV_ne x1, dF f x2 x3 x4 x5]
    simp (disch := omega) only [t0, ↓dK_205 hL, ↓dG_205 hL, ↓dP_205 hL, ↓dZ_205 hL (x := nI 0) (Or.inl rfl), ↓dZ_205 hL (x := nI 1) (Or.inr rfl), ↓dZ_205 hL (Or.inl rfl), ↓dZ_205 hL (Or.inr rfl), ↓dZ_205 hL (nB_01 _), ↓dR_205_12 hL, dI_209 hL, dS_209 hL, ↓reduceIte, ↓kq_bi, ↓kq_let, ↓kq_rz0, ↓kq_rz1, ↓kq_rzB, ↓Option.bind_some, kq_dvn, kt_lt, kf_lt, kt_eq, kf_eq, decide_true, decide_false, eq_self, Bool.false_eq_true, Bool.true_eq_false, not_true_eq_false, not_false_eq_true, jU_eq, jU_ne, jU_U, jV_eq, jV_ne, jV_V, kn_lit, kn_add, kn_mul, kn_sdm, kn_sub, kn_div, kn_nsdm, kn_lt, kn_eq, kn_pred, kn_m1, kn_m1', kn_a31, kn_shl, kn_shr, kn_bit, nB_0, nB_1, nB_t, nB_f, Nat.zero_add, Nat.add_zero, Nat.reduceAdd, Nat.reduceMul, Nat.reduceSub, Nat.reducePow]
    refine jW_s (hP K ⟨?_, ⟨⟨k1, Or.inl ⟨k25, rfl⟩, ?_⟩, k2, ⟨k39, fun k j hk => absurd hk (Nat.not_lt_zero k)⟩, ⟨k40, fun k hk => absurd hk (Nat.not_lt_zero k)⟩, ⟨k42, fun k hk => absurd hk (Nat.not_lt_zero k)⟩, ⟨?_, ?_, fun k hk => absurd hk (Nat.not_lt_zero k)⟩, k41, ?_, ?_⟩, fun a ha => ?_⟩)
    · rw [kF 0 (by omega) (by omega) (by omega) (by omega) (by omega) (by omega) (by omega) (by omega) (by omega) (by omega)]; exact F0
    · rw [kF 44 (by omega) (by omega) (by omega) (by omega) (by omega) (by omega) (by omega) (by omega) (by omega) (by omega), F1 44 (by omega) (by omega)]; exact hC.1.2.2
    · rw [kF 1 (by omega) (by omega) (by omega) (by omega) (by omega) (by omega) (by omega) (by omega) (by omega) (by omega)]; exact s2
    · rw [k3 3 (by omega) (by omega) (by omega) (by omega) (by omega), jU_eq, jV_eq]
    · rw [k4 207 (by unfold jBA; omega), jU_ne (by omega), d4.2 207 (by omega) (by unfold jDA; omega), FA 207 (by omega)]; exact hC.2.2.2.2.2.2.2.1
    · rw [k4 207 (by unfold jBA; omega), jU_ne (by omega), d4.2 207 (by omega) (by unfold jDA; omega), FA 207 (by omega)]; exact hC.2.2.2.2.2.2.2.2
    · rw [k4 a (by unfold jBA; omega), jU_ne (by omega), d4.2 a (by omega) (by unfold jDA; omega), FA a (by omega)]
  · rw [if_neg h0, if_neg h0] at hP
    simp (disch := omega) only [d5, ↓m_ends hL d1, ↓dK_205 hL, ↓dG_205 hL, ↓dP_205 hL, ↓dZ_205 hL (x := nI 0) (Or.inl rfl), ↓dZ_205 hL (x := nI 1) (Or.inr rfl), ↓dZ_205 hL (Or.inl rfl), ↓dZ_205 hL (Or.inr rfl), ↓dZ_205 hL (nB_01 _), ↓reduceIte, ↓kq_bi, ↓kq_let, ↓kq_rz0, ↓kq_rz1, ↓kq_rzB, ↓Option.bind_some, kq_dvn, kt_lt, kf_lt, kt_eq, kf_eq, decide_true, decide_false, eq_self, Bool.false_eq_true, Bool.true_eq_false, not_true_eq_false, not_false_eq_true, jU_eq, jU_ne, jU_U, jV_eq, jV_ne, jV_V, kn_lit, kn_add, kn_mul, kn_sdm, kn_sub, kn_div, kn_nsdm, kn_lt, kn_eq, kn_pred, kn_m1, kn_m1', kn_a31, kn_shl, kn_shr, kn_bit, nB_0, nB_1, nB_t, nB_f, Nat.zero_add, Nat.add_zero, Nat.reduceAdd, Nat.reduceMul, Nat.reduceSub, Nat.reducePow]
    refine jW_s (hP _ ⟨?_, jMM_flt hC hA (fun a x1 x2 x3 x4 => ?_) (fun f x1 x2 x3 => ?_) ?_ ?_, fun a ha => ?_⟩)
    · rw [jU_eq, jV_ne (by omega), dF 0 (by omega) (by omega) (by omega) (by omega)]; exact F0
    · rw [jU_ne x1, d4.2 a x1 x2, FA a x1]
    · rw [jU_eq, jV_ne (by omega), dF f (by omega) (by omega) (by omega) (by omega), F1 f (by omega) (by omega)]
    · rw [jU_eq, jV_ne (by omega), dF 1 (by omega) (by omega) (by omega) (by omega)]; exact s2
    · rw [jU_eq, jV_eq]
    · rw [jU_ne (by omega), d4.2 a (by omega) (by unfold jDA; omega), FA a (by omega)]
theorem x_town (hA : jAG N A) (x : Int32) : jDo cdI (fun g => F_SG_town 64 x g) (fun g => F_Mod_town 205 x g) N A := by
  obtain ⟨τ, ω, r, β, H, E, ⟨q, tp⟩, p, rf, c0, c1⟩ := A
  obtain ⟨hq, h256⟩ : q ≤ 600 ∧ ∀ k, tp k < 256 := hA.2.2.2.2.2.2.1
  by_cases gx : jTn x 600 q
  · obtain ⟨n, -, hn, rfl⟩ := gx
    refine ⟨.inl _, _, ⟨fun t u l m b c h I hL hC => c_townG hL hC hA hn, fun t u l m b c h I hL hC => ?_⟩, ?_, fun k e => by cases e⟩
    · obtain ⟨J, e, j0, j1, j2⟩ := m_townG hL hC hA hn
      exact ⟨_, J, e, j0, fun w hw => by cases hw; rfl, j1, j2⟩
    · split
      · rename_i h0
        obtain ⟨-, -, -, -, -, -, -, -, a9, a10⟩ := hA
        exact s_anew_g (s_town_ok h0) h256 (Nat.le_succ_of_le a9) (Nat.le_succ_of_le a10)
      · exact jAG_flt hA
  · refine jDo_b (k := 1) (by omega) (by decide) hA (fun t u l m b c h I hL hC => ?_) (fun t u l m b c h I hL hC => ?_)
    · have e1 : I 65 1 = nI q := hC.2.2.2.2.2.1.1
      show F_SG_town 64 x (jz_I h I) = _
      unfold F_SG_town
      exact c_openX hL (by omega) hq e1 gx
    · have e1 : I 205 1 = nI q := hC.2.2.2.2.2.1.1
      have gx' : ¬ jRg x 0 q := fun ⟨k, _, k2, k3⟩ => gx ⟨k, by omega, k2, k3⟩
      show ∃ J, F_Mod_town 205 x (jz_I h I) = _ ∧ _
      unfold F_Mod_town
      simp (disch := omega) only [e1, m_inX (lo := 0) (hi := q) (by omega) (by omega) gx', ↓dK_205 hL, ↓dG_205 hL, ↓dP_205 hL, ↓dZ_205 hL (x := nI 0) (Or.inl rfl), ↓dZ_205 hL (x := nI 1) (Or.inr rfl), ↓dZ_205 hL (Or.inl rfl), ↓dZ_205 hL (Or.inr rfl), ↓dZ_205 hL (nB_01 _), ↓reduceIte, ↓kq_bi, ↓kq_let, ↓kq_rz0, ↓kq_rz1, ↓kq_rzB, ↓Option.bind_some, kq_dvn, kt_lt, kf_lt, kt_eq, kf_eq, decide_true, decide_false, eq_self, Bool.false_eq_true, Bool.true_eq_false, not_true_eq_false, not_false_eq_true, jU_eq, jU_ne, jU_U, jV_eq, jV_ne, jV_V, kn_lit, kn_add, kn_mul, kn_sdm, kn_sub, kn_div, kn_nsdm, kn_lt, kn_eq, kn_pred, kn_m1, kn_m1', kn_a31, kn_shl, kn_shr, kn_bit, nB_0, nB_1, nB_t, nB_f, Nat.zero_add, Nat.add_zero, Nat.reduceAdd, Nat.reduceMul, Nat.reduceSub, Nat.reducePow]
      unfold F_Mod_town_b23
      exact m_bdF hL (f := 1) (i := 1) (by omega) (by omega) (by omega) (fun g => (if_neg (by decide)).trans rfl)
theorem x_lawC (hA : jAG N A) (x : Int32) : jDo cdI (fun g => F_SG_law 64 x g) (fun g => F_Mod_law 205 x g) N A := by
  obtain ⟨τ, ω, r, β, H, E, ⟨q, tp⟩, p, rf, c0, c1⟩ := A
  obtain ⟨hq, h256⟩ : q ≤ 600 ∧ ∀ k, tp k < 256 := hA.2.2.2.2.2.2.1
  by_cases gx : jTn x 150 q
  · obtain ⟨n, hn5, hn, rfl⟩ := gx
    obtain ⟨y, ω', hok, hy, hc, hm⟩ := x_law (tp := tp) hn5 h256
    have hy2 : y.2.1 ≤ 3 := hy.2.1
    have hA2 : jAG (N + 1) (τ, (if y.2.1 = 0 then ω' else ω), r, β, H, E, (0, tp), nF y, rf, c0, c1) := by
      obtain ⟨a1, a2, a3⟩ := jAG_flt (p' := nF y) hA
      refine ⟨a1, ?_, a3⟩
      split
      · rename_i h0; exact hok h0
      · exact a2
    refine ⟨.inl (if y.2.1 = 0 then nI 1 else nI y.2.1 - nI 10), (τ, (if y.2.1 = 0 then ω' else ω), r, β, H, E, (0, tp), nF y, rf, c0, c1), ⟨fun t u l m b c h I hL hC => ?_, fun t u l m b c h I hL hC => ?_⟩, hA2, fun k e => by cases e⟩
    · have hl := jLay_l hL
      have hlm := jLay_m hL
      have hml : ¬ l = m := by have := hL.2.2.2.2.2.1; omega
      have ht := jLay_t hL
      have hb := jLay_b hL
      obtain ⟨e1, e3, etp⟩ : I 65 1 = nI q ∧ I 65 3 = p ∧ ∀ k, k < q → I 66 k = nS (tp k) := hC.2.2.2.2.2.1
      have hS := hC.2.2.2.2.2.2.2
      suffices hW : ∀ P : JOut → Prop, (∀ t' u' l' m' b' c' h' J, jLay t' u' l' m' b' c' h' → jCC h' J t' l' b' (τ, (if y.2.1 = 0 then ω' else ω), r, β, H, E, (0, tp), nF y, rf, c0, c1) → (∀ a, a < 64 ∨ 205 ≤ a → J a = I a) → jHp h h' → P (jo_i (if y.2.1 = 0 then nI 1 else nI y.2.1 - nI 10, jz_I h' J))) → jW (F_SG_law 64 (nI n) (jz_I h I)) P by
        obtain ⟨o, e, t', u', l', m', b', c', h', J, rfl, z⟩ := hW (fun o => ∃ t' u' l' m' b' c' h' J, o = jo_i (if y.2.1 = 0 then nI 1 else nI y.2.1 - nI 10, jz_I h' J) ∧ jLay t' u' l' m' b' c' h' ∧ jCC h' J t' l' b' (τ, (if y.2.1 = 0 then ω' else ω), r, β, H, E, (0, tp), nF y, rf, c0, c1) ∧ (∀ a, a < 64 ∨ 205 ≤ a → J a = I a) ∧ jHp h h') (fun t' u' l' m' b' c' h' J a1 a2 a3 a4 => ⟨t', u', l', m', b', c', h', J, rfl, a1, a2, a3, a4⟩)
        exact ⟨t', u', l', m', b', c', h', J, e, z⟩
      intro P hP
      unfold F_SG_law
      rw [dK_64 hL]
      refine jW_th (c_openG hL (most := 150) (by omega) hq e1 hn5 hn etp h256) (fun K hK => ?_)
      obtain ⟨k1, kT⟩ := hK
      simp (disch := omega) only [↓dR_64_11 hL, ↓dK_L hL hlm, ↓dK_64 hL, ↓dG_64 hL, ↓dP_64 hL, ↓dR_64_0 hL, ↓dK_65 hL, ↓dG_65 hL, ↓dP_65 hL, ↓reduceIte, ↓kq_bi, ↓kq_let, ↓kq_rz0, ↓kq_rz1, ↓kq_rzB, ↓Option.bind_some, kq_dvn, kt_lt, kf_lt, kt_eq, kf_eq, decide_true, decide_false, eq_self, Bool.false_eq_true, Bool.true_eq_false, not_true_eq_false, not_false_eq_true, jU_eq, jU_ne, jU_U, jV_eq, jV_ne, jV_V, kn_lit, kn_add, kn_mul, kn_sdm, kn_sub, kn_div, kn_nsdm, kn_lt, kn_eq, kn_pred, kn_m1, kn_m1', kn_a31, kn_shl, kn_shr, kn_bit, nB_0, nB_1, nB_t, nB_f, Nat.zero_add, Nat.add_zero, Nat.reduceAdd, Nat.reduceMul, Nat.reduceSub, Nat.reducePow]
      refine jW_bn (hc t u l m b c h m hL hlm K (jStr_T1 hS kT) k1) (fun L hL' => ?_)
      obtain ⟨l1, l2, l3⟩ := hL'
      have l65 : L 65 2 = nI y.2.1 := l1.1.1
      have lF : ∀ a, ¬ a = 65 → ¬ a = m → ¬ a = m + 1 → L a = I a := fun a x1 x2 x3 => (l3.2 a x1 x2 x3).trans (kT.2 a x1)
      have hCf := jCC_flt hL hC hA l1 (fun a x1 x2 => lF a x1 (by omega) (by omega))
      simp (disch := omega) only [c_close hL, ↓dK_64 hL, ↓dG_64 hL, ↓dP_64 hL, ↓dR_64_0 hL, ↓dK_65 hL, ↓dG_65 hL, ↓dP_65 hL, ↓reduceIte, ↓kq_bi, ↓kq_let, ↓kq_rz0, ↓kq_rz1, ↓kq_rzB, ↓Option.bind_some, kq_dvn, kt_lt, kf_lt, kt_eq, kf_eq, decide_true, decide_false, eq_self, Bool.false_eq_true, Bool.true_eq_false, not_true_eq_false, not_false_eq_true, jU_eq, jU_ne, jU_U, jV_eq, jV_ne, jV_V, kn_lit, kn_add, kn_mul, kn_sdm, kn_sub, kn_div, kn_nsdm, kn_lt, kn_eq, kn_pred, kn_m1, kn_m1', kn_a31, kn_shl, kn_shr, kn_bit, nB_0, nB_1, nB_t, nB_f, Nat.zero_add, Nat.add_zero, Nat.reduceAdd, Nat.reduceMul, Nat.reduceSub, Nat.reducePow]
      by_cases h0 : y.2.1 = 0
      · rw [if_pos h0, if_pos h0] at hP
        rw [h0] at l65
        simp (disch := omega) only [↓dK_64 hL, ↓dG_64 hL, ↓dP_64 hL, ↓dR_64_0 hL, ↓dK_65 hL, ↓dG_65 hL, ↓dP_65 hL, ↓dR_64_2 hL, ↓dK_85 hL, ↓dG_85 hL, ↓dP_85 hL, ↓dZ_85 hL (x := nI 0) (Or.inl rfl), ↓dZ_85 hL (x := nI 1) (Or.inr rfl), ↓dZ_85 hL (Or.inl rfl), ↓dZ_85 hL (Or.inr rfl), ↓dZ_85 hL (nB_01 _), kn_lit, l65, jU_eq, jV_ne, ↓reduceIte, ↓dR_85_2 hL, ↓dR_64_11 hL]
        rw [c_swL hL]
        refine jW_s (hP t u m l b c (jSwL h l m) _ (jLay_sl hL) ?_ (fun a ha => by rw [jU_ne (by omega)]; exact lF a (by omega) (by omega) (by omega)) ⟨Or.inl rfl, rfl⟩)
        obtain ⟨⟨f1, -⟩, f3⟩ := hCf
        exact ⟨⟨f1, jCL_cg (fun a ha => jU_ne (by omega)) (l2 h0)⟩, f3⟩
      · rw [if_neg h0, if_neg h0] at hP
        simp (disch := omega) only [l65, ↓dK_64 hL, ↓dG_64 hL, ↓dP_64 hL, ↓dR_64_0 hL, ↓dK_65 hL, ↓dG_65 hL, ↓dP_65 hL, ↓reduceIte, ↓kq_bi, ↓kq_let, ↓kq_rz0, ↓kq_rz1, ↓kq_rzB, ↓Option.bind_some, kq_dvn, kt_lt, kf_lt, kt_eq, kf_eq, decide_true, decide_false, eq_self, Bool.false_eq_true, Bool.true_eq_false, not_true_eq_false, not_false_eq_true, jU_eq, jU_ne, jU_U, jV_eq, jV_ne, jV_V, kn_lit, kn_add, kn_mul, kn_sdm, kn_sub, kn_div, kn_nsdm, kn_lt, kn_eq, kn_pred, kn_m1, kn_m1', kn_a31, kn_shl, kn_shr, kn_bit, nB_0, nB_1, nB_t, nB_f, Nat.zero_add, Nat.add_zero, Nat.reduceAdd, Nat.reduceMul, Nat.reduceSub, Nat.reducePow]
        exact jW_s (hP t u l m b c h (jU L 65 (jV (L 65) 1 (nI 0))) hL hCf (fun a ha => by rw [jU_ne (by omega)]; exact lF a (by omega) (by omega) (by omega)) ⟨Or.inl rfl, rfl⟩)
    · obtain ⟨e1, e3, etp⟩ : I 205 1 = nI q ∧ I 205 3 = p ∧ ∀ k, k < q → I 206 k = nI (tp k) := hC.2.2.2.2.2.1
      obtain ⟨K, e, ⟨k0, k1, k3⟩, k4, k5, k6, k7⟩ := hm t u l m b c h hL (jU I 205 (jV (I 205) 0 (nI 0))) (by rw [jU_eq, jV_eq]) (fun k hk => by rw [jU_ne (by omega)]; exact etp k (by omega))
      have kA : ∀ a, ¬ a = 205 → ¬ (267 ≤ a ∧ a < 427) → ¬ (428 ≤ a ∧ a < 588) → K a = I a := fun a x1 x2 x3 => by rw [k7 a x1 x2 x3, jU_ne x1]
      have kf : ∀ f, 9 ≤ f → ¬ f = 25 → ¬ f = 26 → K 205 f = I 205 f := fun f x1 x2 x3 => by rw [k6 f x1 x2 x3, jU_eq, jV_ne (by omega)]
      refine ⟨if y.2.1 = 0 then nI 1 else nI y.2.1 - nI 10, K, ?_, k0, fun w hw => by cases hw; rfl, ?_, fun a ha => kA a (by omega) (by omega) (by omega)⟩
      · show F_Mod_law 205 (nI n) (jz_I h I) = _
        rw [← e]
        unfold F_Mod_law
        simp (disch := omega) only [e1, m_in1, ↓dK_205 hL, ↓dG_205 hL, ↓dP_205 hL, ↓dZ_205 hL (x := nI 0) (Or.inl rfl), ↓dZ_205 hL (x := nI 1) (Or.inr rfl), ↓dZ_205 hL (Or.inl rfl), ↓dZ_205 hL (Or.inr rfl), ↓dZ_205 hL (nB_01 _), ↓reduceIte, ↓kq_bi, ↓kq_let, ↓kq_rz0, ↓kq_rz1, ↓kq_rzB, ↓Option.bind_some, kq_dvn, kt_lt, kf_lt, kt_eq, kf_eq, decide_true, decide_false, eq_self, Bool.false_eq_true, Bool.true_eq_false, not_true_eq_false, not_false_eq_true, jU_eq, jU_ne, jU_U, jV_eq, jV_ne, jV_V, kn_lit, kn_add, kn_mul, kn_sdm, kn_sub, kn_div, kn_nsdm, kn_lt, kn_eq, kn_pred, kn_m1, kn_m1', kn_a31, kn_shl, kn_shr, kn_bit, nB_0, nB_1, nB_t, nB_f, Nat.zero_add, Nat.add_zero, Nat.reduceAdd, Nat.reduceMul, Nat.reduceSub, Nat.reducePow]
      · obtain ⟨⟨a1, a2, a3⟩, a4, a5, a6, a8, -, a13, a14, a15⟩ := hC
        obtain ⟨o1, o2, -, ⟨o3, -⟩, ⟨b1, -⟩, ⟨b2, -⟩, -⟩ := hA
        refine ⟨⟨jMT_congr (fun a x1 x2 => kA a (by omega) (by omega) (by omega)) o1 a1, ?_, (kf 44 (by omega) (by omega) (by omega)).trans a3⟩, fun k hk => by rw [kA 691 (by omega) (by omega) (by omega)]; exact a4 k hk, jMB_cg o3 (kf 39 (by omega) (by omega) (by omega)) (fun a x1 x2 => kA a (by omega) (by omega) (by omega)) a5, jmH_cg b1 (kf 40 (by omega) (by omega) (by omega)) (fun a x1 x2 => kA a (by omega) (by omega) (by omega)) a6, jmE_cg b2 (kf 42 (by omega) (by omega) (by omega)) (fun a x1 x2 => kA a (by omega) (by omega) (by omega)) a8, ⟨k1, k3, fun k hk => absurd hk (Nat.not_lt_zero k)⟩, (kf 41 (by omega) (by omega) (by omega)).trans a13, by rw [kA 207 (by omega) (by omega) (by omega)]; exact a14, by rw [kA 207 (by omega) (by omega) (by omega)]; exact a15⟩
        by_cases h0 : y.2.1 = 0
        · rw [if_pos h0]; exact k4 h0
        · rw [if_neg h0]
          obtain ⟨q1, q2⟩ := k5 h0
          exact jML_congr (fun a x1 x2 => by rw [q2 a x1 x2, jU_ne (by omega)]) (by rw [q1, jU_eq, jV_ne (by omega)]) o2 a2
  · refine jDo_b (k := 1) (by omega) (by decide) hA (fun t u l m b c h I hL hC => ?_) (fun t u l m b c h I hL hC => ?_)
    · have e1 : I 65 1 = nI q := hC.2.2.2.2.2.1.1
      show F_SG_law 64 x (jz_I h I) = _
      unfold F_SG_law
      exact c_openX hL (by omega) hq e1 gx
    · have e1 : I 205 1 = nI q := hC.2.2.2.2.2.1.1
      show ∃ J, F_Mod_law 205 x (jz_I h I) = _ ∧ _
      unfold F_Mod_law
      by_cases gx' : jRg x 0 q
      · obtain ⟨k, -, k2, rfl⟩ := gx'
        have k5 : 150 < k := by
          by_cases z : 150 < k
          · exact z
          · exact absurd ⟨k, by omega, k2, rfl⟩ gx
        simp (disch := omega) only [e1, m_in1, F_Mod_law_b25, ↓dK_205 hL, ↓dG_205 hL, ↓dP_205 hL, ↓dZ_205 hL (x := nI 0) (Or.inl rfl), ↓dZ_205 hL (x := nI 1) (Or.inr rfl), ↓dZ_205 hL (Or.inl rfl), ↓dZ_205 hL (Or.inr rfl), ↓dZ_205 hL (nB_01 _), ↓reduceIte, ↓kq_bi, ↓kq_let, ↓kq_rz0, ↓kq_rz1, ↓kq_rzB, ↓Option.bind_some, kq_dvn, kt_lt, kf_lt, kt_eq, kf_eq, decide_true, decide_false, eq_self, Bool.false_eq_true, Bool.true_eq_false, not_true_eq_false, not_false_eq_true, jU_eq, jU_ne, jU_U, jV_eq, jV_ne, jV_V, kn_lit, kn_add, kn_mul, kn_sdm, kn_sub, kn_div, kn_nsdm, kn_lt, kn_eq, kn_pred, kn_m1, kn_m1', kn_a31, kn_shl, kn_shr, kn_bit, nB_0, nB_1, nB_t, nB_f, Nat.zero_add, Nat.add_zero, Nat.reduceAdd, Nat.reduceMul, Nat.reduceSub, Nat.reducePow]
        unfold F_Mod_law_b30
        exact m_bdF hL (f := 1) (i := 1) (by omega) (by omega) (by omega) (fun g => (if_neg (by decide)).trans rfl)
      · simp (disch := omega) only [e1, m_inX (lo := 0) (hi := q) (by omega) (by omega) gx', F_Mod_law_b25, ↓dK_205 hL, ↓dG_205 hL, ↓dP_205 hL, ↓dZ_205 hL (x := nI 0) (Or.inl rfl), ↓dZ_205 hL (x := nI 1) (Or.inr rfl), ↓dZ_205 hL (Or.inl rfl), ↓dZ_205 hL (Or.inr rfl), ↓dZ_205 hL (nB_01 _), ↓reduceIte, ↓kq_bi, ↓kq_let, ↓kq_rz0, ↓kq_rz1, ↓kq_rzB, ↓Option.bind_some, kq_dvn, kt_lt, kf_lt, kt_eq, kf_eq, decide_true, decide_false, eq_self, Bool.false_eq_true, Bool.true_eq_false, not_true_eq_false, not_false_eq_true, jU_eq, jU_ne, jU_U, jV_eq, jV_ne, jV_V, kn_lit, kn_add, kn_mul, kn_sdm, kn_sub, kn_div, kn_nsdm, kn_lt, kn_eq, kn_pred, kn_m1, kn_m1', kn_a31, kn_shl, kn_shr, kn_bit, nB_0, nB_1, nB_t, nB_f, Nat.zero_add, Nat.add_zero, Nat.reduceAdd, Nat.reduceMul, Nat.reduceSub, Nat.reducePow]
        unfold F_Mod_law_b30
        exact m_bdF hL (f := 1) (i := 1) (by omega) (by omega) (by omega) (fun g => (if_neg (by decide)).trans rfl)
end

/-! PLAIN LEAN: calls that never refuse -/
def jCallN (Fc Fm : LH → Option (Int32 × LH)) (A A' : JA) (v : Int32) : Prop := (∀ t u l m b c h I, jLay t u l m b c h → jCC h I t l b A → ∃ J, Fc (jz_I h I) = some (v, jz_I h J) ∧ jCC h J t l b A' ∧ ∀ a, a < 64 ∨ 205 ≤ a → J a = I a) ∧ ∀ t u l m b c h I, jLay t u l m b c h → jMM I A → ∃ J, Fm (jz_I h I) = some (v, jz_I h J) ∧ jMM J A' ∧ ∀ a, a < 205 → J a = I a
def jDoN (Fc Fm : LH → Option (Int32 × LH)) (N : Nat) (A : JA) : Prop := ∃ v A', jCallN Fc Fm A A' v ∧ jAG (N + 1) A'
def jcH (I : Nat → Nat → Int32) (H : JHs) : Prop := I 106 1 = nI H.1 ∧ ∀ i, i < H.1 → jCR I (108 + i) (H.2 i)
def jcE (I : Nat → Nat → Int32) (E : JIm) : Prop := I 64 14 = nI E.1 ∧ ∀ e, e < E.1 → jCR I (180 + e) (E.2 e).1 ∧ I (125 + 18 * e) 1 = nI (E.2 e).2.1 ∧ ∀ i, i < (E.2 e).2.1 → jCR I (127 + 18 * e + i) ((E.2 e).2.2 i)
def jmH (I : Nat → Nat → Int32) (H : JHs) : Prop := I 205 40 = nI H.1 ∧ ∀ i, i < H.1 → jMR I (694 + i) (H.2 i)
def jmE (I : Nat → Nat → Int32) (E : JIm) : Prop := I 205 42 = nI E.1 ∧ ∀ e, e < E.1 → I (711 + e) 0 = nI (E.2 e).2.1 ∧ (∀ k, k < 134 → I (711 + e) (1 + k) = nI ((E.2 e).1 k)) ∧ ∀ i k, i < (E.2 e).2.1 → k < 134 → I (711 + e) (135 + (134 * i + k)) = nI ((E.2 e).2.2 i k)
section
variable {t u l m b c : Nat} {h : LH} {I J K : Nat → Nat → Int32} {A A' : JA} {N : Nat} {τ : JTn} {ω : JLw} {r : JRw} {β : JBk} {H : JHs} {E : JIm} {Tp : Nat × (Nat → Nat)} {p : Int32} {rf c0 c1 : Nat} {Fc Fm : LH → Option (Int32 × LH)} {v : Int32}
theorem jcH_cg (hH : H.1 ≤ 16) (hF : ∀ a, 106 ≤ a → a < 124 → J a = I a) (hx : jcH I H) : jcH J H := ⟨by rw [hF 106 (by omega) (by omega)]; exact hx.1, fun i hi => jCR_congr (hF _ (by omega) (by omega)) (hx.2 i hi)⟩
theorem jcE_cg (hE : E.1 ≤ 3) (hE2 : ∀ e, e < E.1 → (E.2 e).2.1 ≤ 16) (h64 : J 64 14 = I 64 14) (hF : ∀ a, 124 ≤ a → a < 183 → J a = I a) (hx : jcE I E) : jcE J E := by
  refine ⟨h64.trans hx.1, fun e he => ?_⟩
  obtain ⟨q1, q2, q3⟩ := hx.2 e he
  have d1 := hE2 e he
  exact ⟨jCR_congr (hF _ (by omega) (by omega)) q1, by rw [hF _ (by omega) (by omega)]; exact q2, fun i hi => jCR_congr (hF _ (by omega) (by omega)) (q3 i hi)⟩
theorem jmH_cg (hH : H.1 ≤ 16) (h40 : J 205 40 = I 205 40) (hF : ∀ a, 694 ≤ a → a < 710 → J a = I a) (hx : jmH I H) : jmH J H := ⟨h40.trans hx.1, fun i hi k hk => by rw [hF _ (by omega) (by omega)]; exact hx.2 i hi k hk⟩
theorem jmE_cg (hE : E.1 ≤ 3) (h42 : J 205 42 = I 205 42) (hF : ∀ a, 711 ≤ a → a < 714 → J a = I a) (hx : jmE I E) : jmE J E := ⟨h42.trans hx.1, fun e he => by rw [hF _ (by omega) (by omega)]; exact hx.2 e he⟩
theorem jMB_cg (hB : β.1 ≤ 9) (h39 : J 205 39 = I 205 39) (hF : ∀ a, 589 ≤ a → a < 598 → J a = I a) (hx : jMB I β) : jMB J β := ⟨h39.trans hx.1, fun k j hk hj => by rw [hF _ (by omega) (by omega)]; exact hx.2 k j hk hj⟩
theorem jCB_cg (hF : ∀ a, a = b ∨ a = b + 1 → J a = I a) (hx : jCB I b β) : jCB J b β := ⟨by rw [hF b (by omega)]; exact hx.1, fun g hg => by rw [hF (b + 1) (by omega)]; exact hx.2 g hg⟩
theorem jCL_cg (hF : ∀ a, a = l ∨ a = l + 1 → J a = I a) (hx : jCL I l ω) : jCL J l ω := ⟨by rw [hF l (by omega)]; exact hx.1, fun k hk => by rw [hF (l + 1) (by omega)]; exact hx.2 k hk⟩
theorem jDoN_q (hA : jAG N (τ, ω, r, β, H, E, Tp, p, rf, c0, c1)) (hc : ∀ t u l m b c h I, jLay t u l m b c h → jCC h I t l b (τ, ω, r, β, H, E, Tp, p, rf, c0, c1) → Fc (jz_I h I) = some (v, jz_I h I)) (hm : ∀ t u l m b c h I, jLay t u l m b c h → jMM I (τ, ω, r, β, H, E, Tp, p, rf, c0, c1) → ∃ J, Fm (jz_I h I) = some (v, jz_I h J) ∧ jN I J) : jDoN Fc Fm N (τ, ω, r, β, H, E, Tp, p, rf, c0, c1) := by
  refine ⟨v, (τ, ω, r, β, H, E, Tp, p, rf, c0, c1), ⟨fun t u l m b c h I hL hC => ⟨I, hc t u l m b c h I hL hC, hC, fun _ _ => rfl⟩, fun t u l m b c h I hL hC => ?_⟩, jAG_mono hA⟩
  obtain ⟨J, e, hN⟩ := hm t u l m b c h I hL hC
  exact ⟨J, e, jMM_N hC hA hN, fun a ha => hN.1 a (by omega) (by omega) (by omega) (by omega) (by omega)⟩
theorem x_closest (hA : jAG N A) : jDoN (fun g => F_SG_closest 64 g) (fun g => F_Mod_closest 205 g) N A := by
  obtain ⟨τ, ω, r, β, H, E, Tp, p, rf, c0, c1⟩ := A
  exact jDoN_q hA (fun t u l m b c h I hL hC => c_closest hL (jCC_Q hC hA)) (fun t u l m b c h I hL hC => m_closest hL (jMM_Q hC hA))
theorem x_seems (hA : jAG N A) : jDoN (fun g => F_SG_seems 64 g) (fun g => F_Mod_seems 205 g) N A := by
  obtain ⟨τ, ω, r, β, H, E, Tp, p, rf, c0, c1⟩ := A
  exact jDoN_q hA (fun t u l m b c h I hL hC => c_seems hL (jCC_Q hC hA)) (fun t u l m b c h I hL hC => m_seems hL (jMM_Q hC hA))
theorem x_burnsOut (hA : jAG N A) : jDoN (fun g => F_SG_burnsOut 64 g) (fun g => F_Mod_burnsOut 205 g) N A := by
  obtain ⟨τ, ω, r, β, H, E, Tp, p, rf, c0, c1⟩ := A
  exact jDoN_q hA (fun t u l m b c h I hL hC => c_burnsOut hL (jCC_Q hC hA)) (fun t u l m b c h I hL hC => m_burnsOut hL (jMM_Q hC hA))
theorem x_fault (hA : jAG N A) : jDoN (fun g => F_SG_fault 64 g) (fun g => F_Mod_fault 205 g) N A := by
  obtain ⟨τ, ω, r, β, H, E, Tp, p, rf, c0, c1⟩ := A
  refine jDoN_q (v := p) hA (fun t u l m b c h I hL hC => ?_) (fun t u l m b c h I hL hC => ?_)
  · have e : I 65 3 = p := hC.2.2.2.2.2.1.2.1
    show F_SG_fault 64 (jz_I h I) = _
    unfold F_SG_fault
    simp (disch := omega) only [e, ↓dK_64 hL, ↓dG_64 hL, ↓dP_64 hL, ↓dR_64_0 hL, ↓dK_65 hL, ↓dG_65 hL, ↓dP_65 hL, ↓reduceIte, ↓kq_bi, ↓kq_let, ↓kq_rz0, ↓kq_rz1, ↓kq_rzB, ↓Option.bind_some, kq_dvn, kt_lt, kf_lt, kt_eq, kf_eq, decide_true, decide_false, eq_self, Bool.false_eq_true, Bool.true_eq_false, not_true_eq_false, not_false_eq_true, jU_eq, jU_ne, jU_U, jV_eq, jV_ne, jV_V, kn_lit, kn_add, kn_mul, kn_sdm, kn_sub, kn_div, kn_nsdm, kn_lt, kn_eq, kn_pred, kn_m1, kn_m1', kn_a31, kn_shl, kn_shr, kn_bit, nB_0, nB_1, nB_t, nB_f, Nat.zero_add, Nat.add_zero, Nat.reduceAdd, Nat.reduceMul, Nat.reduceSub, Nat.reducePow]
  · have e : I 205 3 = p := hC.2.2.2.2.2.1.2.1
    refine ⟨_, ?_, jN_0 (jMM_Q hC hA)⟩
    show F_Mod_fault 205 (jz_I h I) = _
    unfold F_Mod_fault
    simp (disch := omega) only [e, ↓dK_205 hL, ↓dG_205 hL, ↓dP_205 hL, ↓dZ_205 hL (x := nI 0) (Or.inl rfl), ↓dZ_205 hL (x := nI 1) (Or.inr rfl), ↓dZ_205 hL (Or.inl rfl), ↓dZ_205 hL (Or.inr rfl), ↓dZ_205 hL (nB_01 _), ↓reduceIte, ↓kq_bi, ↓kq_let, ↓kq_rz0, ↓kq_rz1, ↓kq_rzB, ↓Option.bind_some, kq_dvn, kt_lt, kf_lt, kt_eq, kf_eq, decide_true, decide_false, eq_self, Bool.false_eq_true, Bool.true_eq_false, not_true_eq_false, not_false_eq_true, jU_eq, jU_ne, jU_U, jV_eq, jV_ne, jV_V, kn_lit, kn_add, kn_mul, kn_sdm, kn_sub, kn_div, kn_nsdm, kn_lt, kn_eq, kn_pred, kn_m1, kn_m1', kn_a31, kn_shl, kn_shr, kn_bit, nB_0, nB_1, nB_t, nB_f, Nat.zero_add, Nat.add_zero, Nat.reduceAdd, Nat.reduceMul, Nat.reduceSub, Nat.reducePow]
theorem x_status (hA : jAG N A) (x : Int32) : jDoN (fun g => F_SG_status 64 x g) (fun g => F_Mod_status 205 x g) N A := by
  obtain ⟨τ, ω, r, β, H, E, Tp, p, rf, c0, c1⟩ := A
  by_cases gx : jBl x
  · obtain ⟨w, rfl⟩ := gx
    refine jDoN_q (v := if w = true then nI c1 else nI c0) hA (fun t u l m b c h I hL hC => ?_) (fun t u l m b c h I hL hC => ?_)
    · obtain ⟨-, e1, e2⟩ := hC.2.2.2.2.2.2.1
      show F_SG_status 64 (nB w) (jz_I h I) = _
      unfold F_SG_status F_SG_status_b24
      cases w
      · simp (disch := omega) only [e1, ↓dK_64 hL, ↓dG_64 hL, ↓dP_64 hL, ↓reduceIte, ↓kq_bi, ↓kq_let, ↓kq_rz0, ↓kq_rz1, ↓kq_rzB, ↓Option.bind_some, kq_dvn, kt_lt, kf_lt, kt_eq, kf_eq, decide_true, decide_false, eq_self, Bool.false_eq_true, Bool.true_eq_false, not_true_eq_false, not_false_eq_true, jU_eq, jU_ne, jU_U, jV_eq, jV_ne, jV_V, kn_lit, kn_add, kn_mul, kn_sdm, kn_sub, kn_div, kn_nsdm, kn_lt, kn_eq, kn_pred, kn_m1, kn_m1', kn_a31, kn_shl, kn_shr, kn_bit, nB_0, nB_1, nB_t, nB_f, Nat.zero_add, Nat.add_zero, Nat.reduceAdd, Nat.reduceMul, Nat.reduceSub, Nat.reducePow]
      · simp (disch := omega) only [e2, ↓dK_64 hL, ↓dG_64 hL, ↓dP_64 hL, ↓reduceIte, ↓kq_bi, ↓kq_let, ↓kq_rz0, ↓kq_rz1, ↓kq_rzB, ↓Option.bind_some, kq_dvn, kt_lt, kf_lt, kt_eq, kf_eq, decide_true, decide_false, eq_self, Bool.false_eq_true, Bool.true_eq_false, not_true_eq_false, not_false_eq_true, jU_eq, jU_ne, jU_U, jV_eq, jV_ne, jV_V, kn_lit, kn_add, kn_mul, kn_sdm, kn_sub, kn_div, kn_nsdm, kn_lt, kn_eq, kn_pred, kn_m1, kn_m1', kn_a31, kn_shl, kn_shr, kn_bit, nB_0, nB_1, nB_t, nB_f, Nat.zero_add, Nat.add_zero, Nat.reduceAdd, Nat.reduceMul, Nat.reduceSub, Nat.reducePow]
    · obtain ⟨-, e1, e2⟩ := hC.2.2.2.2.2.2
      refine ⟨_, ?_, jN_0 (jMM_Q hC hA)⟩
      show F_Mod_status 205 (nB w) (jz_I h I) = _
      unfold F_Mod_status F_Mod_status_b24
      cases w
      · simp (disch := omega) only [m_in1, e1, ↓dK_205 hL, ↓dG_205 hL, ↓dP_205 hL, ↓dZ_205 hL (x := nI 0) (Or.inl rfl), ↓dZ_205 hL (x := nI 1) (Or.inr rfl), ↓dZ_205 hL (Or.inl rfl), ↓dZ_205 hL (Or.inr rfl), ↓dZ_205 hL (nB_01 _), ↓dR_205_10 hL, dI_207 hL, dS_207 hL, ↓reduceIte, ↓kq_bi, ↓kq_let, ↓kq_rz0, ↓kq_rz1, ↓kq_rzB, ↓Option.bind_some, kq_dvn, kt_lt, kf_lt, kt_eq, kf_eq, decide_true, decide_false, eq_self, Bool.false_eq_true, Bool.true_eq_false, not_true_eq_false, not_false_eq_true, jU_eq, jU_ne, jU_U, jV_eq, jV_ne, jV_V, kn_lit, kn_add, kn_mul, kn_sdm, kn_sub, kn_div, kn_nsdm, kn_lt, kn_eq, kn_pred, kn_m1, kn_m1', kn_a31, kn_shl, kn_shr, kn_bit, nB_0, nB_1, nB_t, nB_f, Nat.zero_add, Nat.add_zero, Nat.reduceAdd, Nat.reduceMul, Nat.reduceSub, Nat.reducePow]
      · simp (disch := omega) only [m_in1, e2, ↓dK_205 hL, ↓dG_205 hL, ↓dP_205 hL, ↓dZ_205 hL (x := nI 0) (Or.inl rfl), ↓dZ_205 hL (x := nI 1) (Or.inr rfl), ↓dZ_205 hL (Or.inl rfl), ↓dZ_205 hL (Or.inr rfl), ↓dZ_205 hL (nB_01 _), ↓dR_205_10 hL, dI_207 hL, dS_207 hL, ↓reduceIte, ↓kq_bi, ↓kq_let, ↓kq_rz0, ↓kq_rz1, ↓kq_rzB, ↓Option.bind_some, kq_dvn, kt_lt, kf_lt, kt_eq, kf_eq, decide_true, decide_false, eq_self, Bool.false_eq_true, Bool.true_eq_false, not_true_eq_false, not_false_eq_true, jU_eq, jU_ne, jU_U, jV_eq, jV_ne, jV_V, kn_lit, kn_add, kn_mul, kn_sdm, kn_sub, kn_div, kn_nsdm, kn_lt, kn_eq, kn_pred, kn_m1, kn_m1', kn_a31, kn_shl, kn_shr, kn_bit, nB_0, nB_1, nB_t, nB_f, Nat.zero_add, Nat.add_zero, Nat.reduceAdd, Nat.reduceMul, Nat.reduceSub, Nat.reducePow]
  · obtain ⟨e1, e2⟩ := jBl_no gx
    refine jDoN_q (v := -nI 1) hA (fun t u l m b c h I hL hC => ?_) (fun t u l m b c h I hL hC => ?_)
    · show F_SG_status 64 x (jz_I h I) = _
      unfold F_SG_status F_SG_status_b24
      simp (disch := omega) only [e1, e2, ↓dK_64 hL, ↓dG_64 hL, ↓dP_64 hL, ↓reduceIte, ↓kq_bi, ↓kq_let, ↓kq_rz0, ↓kq_rz1, ↓kq_rzB, ↓Option.bind_some, kq_dvn, kt_lt, kf_lt, kt_eq, kf_eq, decide_true, decide_false, eq_self, Bool.false_eq_true, Bool.true_eq_false, not_true_eq_false, not_false_eq_true, jU_eq, jU_ne, jU_U, jV_eq, jV_ne, jV_V, kn_lit, kn_add, kn_mul, kn_sdm, kn_sub, kn_div, kn_nsdm, kn_lt, kn_eq, kn_pred, kn_m1, kn_m1', kn_a31, kn_shl, kn_shr, kn_bit, nB_0, nB_1, nB_t, nB_f, Nat.zero_add, Nat.add_zero, Nat.reduceAdd, Nat.reduceMul, Nat.reduceSub, Nat.reducePow]
    · refine ⟨_, ?_, jN_0 (jMM_Q hC hA)⟩
      show F_Mod_status 205 x (jz_I h I) = _
      unfold F_Mod_status F_Mod_status_b24
      simp (disch := omega) only [m_inX (lo := 0) (hi := 1) (by omega) (by omega) (jBl_rg gx), ↓dK_205 hL, ↓dG_205 hL, ↓dP_205 hL, ↓dZ_205 hL (x := nI 0) (Or.inl rfl), ↓dZ_205 hL (x := nI 1) (Or.inr rfl), ↓dZ_205 hL (Or.inl rfl), ↓dZ_205 hL (Or.inr rfl), ↓dZ_205 hL (nB_01 _), ↓reduceIte, ↓kq_bi, ↓kq_let, ↓kq_rz0, ↓kq_rz1, ↓kq_rzB, ↓Option.bind_some, kq_dvn, kt_lt, kf_lt, kt_eq, kf_eq, decide_true, decide_false, eq_self, Bool.false_eq_true, Bool.true_eq_false, not_true_eq_false, not_false_eq_true, jU_eq, jU_ne, jU_U, jV_eq, jV_ne, jV_V, kn_lit, kn_add, kn_mul, kn_sdm, kn_sub, kn_div, kn_nsdm, kn_lt, kn_eq, kn_pred, kn_m1, kn_m1', kn_a31, kn_shl, kn_shr, kn_bit, nB_0, nB_1, nB_t, nB_f, Nat.zero_add, Nat.add_zero, Nat.reduceAdd, Nat.reduceMul, Nat.reduceSub, Nat.reducePow]
theorem x_count (hA : jAG N A) (x : Int32) : jDoN (fun g => F_SG_count 64 x g) (fun g => F_Mod_count 205 x g) N A := by
  obtain ⟨τ, ω, r, β, H, E, Tp, p, rf, c0, c1⟩ := A
  refine jDoN_q (v := if x = nI 0 then nI E.1 else if x = nI 1 then nI Tp.1 else if x = nI 2 then nI H.1 else -nI 1) hA (fun t u l m b c h I hL hC => ?_) (fun t u l m b c h I hL hC => ?_)
  · have e0 : I 64 14 = nI E.1 := hC.2.2.2.2.1.1
    have e1 : I 65 1 = nI Tp.1 := hC.2.2.2.2.2.1.1
    have e2 : I 106 1 = nI H.1 := hC.2.2.2.1.1
    show F_SG_count 64 x (jz_I h I) = _
    unfold F_SG_count
    by_cases z0 : x = nI 0
    · simp (disch := omega) only [↓dK_64 hL, ↓dG_64 hL, ↓dP_64 hL, ↓dR_64_0 hL, ↓dK_65 hL, ↓dG_65 hL, ↓dP_65 hL, ↓dR_64_7 hL, ↓dK_106 hL, ↓dG_106 hL, ↓dP_106 hL, kn_lit, z0, e0, ↓reduceIte]
    · by_cases z1 : x = nI 1
      · have : ¬ nI 1 = nI 0 := by decide
        simp (disch := omega) only [↓dK_64 hL, ↓dG_64 hL, ↓dP_64 hL, ↓dR_64_0 hL, ↓dK_65 hL, ↓dG_65 hL, ↓dP_65 hL, ↓dR_64_7 hL, ↓dK_106 hL, ↓dG_106 hL, ↓dP_106 hL, kn_lit, z1, e1, this, ↓reduceIte]
      · by_cases z2 : x = nI 2
        · have n0 : ¬ nI 2 = nI 0 := by decide
          have n1 : ¬ nI 2 = nI 1 := by decide
          simp (disch := omega) only [↓dK_64 hL, ↓dG_64 hL, ↓dP_64 hL, ↓dR_64_0 hL, ↓dK_65 hL, ↓dG_65 hL, ↓dP_65 hL, ↓dR_64_7 hL, ↓dK_106 hL, ↓dG_106 hL, ↓dP_106 hL, kn_lit, z2, e2, n0, n1, ↓reduceIte]
        · simp (disch := omega) only [↓dK_64 hL, ↓dG_64 hL, ↓dP_64 hL, ↓dR_64_0 hL, ↓dK_65 hL, ↓dG_65 hL, ↓dP_65 hL, ↓dR_64_7 hL, ↓dK_106 hL, ↓dG_106 hL, ↓dP_106 hL, kn_lit, z0, z1, z2, ↓reduceIte]
  · have e0 : I 205 42 = nI E.1 := hC.2.2.2.2.1.1
    have e1 : I 205 1 = nI Tp.1 := hC.2.2.2.2.2.1.1
    have e2 : I 205 40 = nI H.1 := hC.2.2.2.1.1
    refine ⟨_, ?_, jN_0 (jMM_Q hC hA)⟩
    show F_Mod_count 205 x (jz_I h I) = _
    unfold F_Mod_count F_Mod_count_b41
    by_cases z0 : x = nI 0
    · simp (disch := omega) only [↓dK_205 hL, ↓dG_205 hL, ↓dP_205 hL, ↓dZ_205 hL (x := nI 0) (Or.inl rfl), ↓dZ_205 hL (x := nI 1) (Or.inr rfl), ↓dZ_205 hL (Or.inl rfl), ↓dZ_205 hL (Or.inr rfl), ↓dZ_205 hL (nB_01 _), kn_lit, z0, e0, jU_eq, jV_ne, ↓reduceIte]
    · by_cases z1 : x = nI 1
      · have : ¬ nI 1 = nI 0 := by decide
        simp (disch := omega) only [↓dK_205 hL, ↓dG_205 hL, ↓dP_205 hL, ↓dZ_205 hL (x := nI 0) (Or.inl rfl), ↓dZ_205 hL (x := nI 1) (Or.inr rfl), ↓dZ_205 hL (Or.inl rfl), ↓dZ_205 hL (Or.inr rfl), ↓dZ_205 hL (nB_01 _), kn_lit, z1, e1, this, jU_eq, jV_ne, ↓reduceIte]
      · by_cases z2 : x = nI 2
        · have n0 : ¬ nI 2 = nI 0 := by decide
          have n1 : ¬ nI 2 = nI 1 := by decide
          simp (disch := omega) only [↓dK_205 hL, ↓dG_205 hL, ↓dP_205 hL, ↓dZ_205 hL (x := nI 0) (Or.inl rfl), ↓dZ_205 hL (x := nI 1) (Or.inr rfl), ↓dZ_205 hL (Or.inl rfl), ↓dZ_205 hL (Or.inr rfl), ↓dZ_205 hL (nB_01 _), kn_lit, z2, e2, n0, n1, jU_eq, jV_ne, ↓reduceIte]
        · simp (disch := omega) only [↓dK_205 hL, ↓dG_205 hL, ↓dP_205 hL, ↓dZ_205 hL (x := nI 0) (Or.inl rfl), ↓dZ_205 hL (x := nI 1) (Or.inr rfl), ↓dZ_205 hL (Or.inl rfl), ↓dZ_205 hL (Or.inr rfl), ↓dZ_205 hL (nB_01 _), kn_lit, z0, z1, z2, ↓reduceIte]
theorem s_fd_lt {tp : Nat → Nat} {q : Nat} {x1 x2 x3 x4 x5 : Int32} (h : ∀ k, tp k < 256) : ∀ k, s_fd tp q x1 x2 x3 x4 x5 k < 256 := s_ap_lt (s_ap_lt (s_ap_lt (s_ap_lt (s_ap_lt h))))
/-- the tape alone has changed -/
theorem jCC_65 (hL : jLay t u l m b c h) {Tp' : Nat × (Nat → Nat)} {p' : Int32} (hC : jCC h I t l b (τ, ω, r, β, H, E, Tp, p, rf, c0, c1)) (hA : jAG N (τ, ω, r, β, H, E, Tp, p, rf, c0, c1)) (hF : ∀ a, ¬ a = 65 → ¬ a = 66 → J a = I a) (e1 : J 65 1 = nI Tp'.1) (e3 : J 65 3 = p') (etp : ∀ k, k < Tp'.1 → J 66 k = nS (Tp'.2 k)) : jCC h J t l b (τ, ω, r, β, H, E, Tp', p', rf, c0, c1) := by
  have ht := jLay_t hL
  have hl := jLay_l hL
  have hb := jLay_b hL
  obtain ⟨⟨a1, a2⟩, a3, a4, a5, a7, -, ⟨a12, a13, a14⟩, a15⟩ := hC
  obtain ⟨-, -, -, -, ⟨b1, -⟩, ⟨b2, b3⟩, -⟩ := hA
  have f64 := hF 64 (by omega) (by omega)
  exact ⟨⟨jCT_congr (fun i hi => hF _ (by omega) (by omega)) a1, jCL_cg (fun a ha => hF a (by omega) (by omega)) a2⟩, jCS_cg (fun a x1 x2 => hF a (by omega) (by omega)) a3, jCB_cg (fun a ha => hF a (by omega) (by omega)) a4, jcH_cg b1 (fun a x1 x2 => hF a (by omega) (by omega)) a5, jcE_cg b2 (fun e he => (b3 e he).2.1) (by rw [f64]) (fun a x1 x2 => hF a (by omega) (by omega)) a7, ⟨e1, e3, etp⟩, ⟨by rw [f64]; exact a12, by rw [f64]; exact a13, by rw [f64]; exact a14⟩, jStr_eq a15 (fun a ha => hF a (by omega) (by omega))⟩
theorem jMM_205 {Tp' : Nat × (Nat → Nat)} {p' : Int32} (hC : jMM I (τ, ω, r, β, H, E, Tp, p, rf, c0, c1)) (hA : jAG N (τ, ω, r, β, H, E, Tp, p, rf, c0, c1)) (hF : ∀ a, ¬ a = 205 → ¬ a = 206 → J a = I a) (hf : ∀ f, 9 ≤ f → J 205 f = I 205 f) (e1 : J 205 1 = nI Tp'.1) (e3 : J 205 3 = p') (etp : ∀ k, k < Tp'.1 → J 206 k = nI (Tp'.2 k)) : jMM J (τ, ω, r, β, H, E, Tp', p', rf, c0, c1) := by
  obtain ⟨⟨a1, a2, a3⟩, a4, a5, a6, a8, -, a13, a14, a15⟩ := hC
  obtain ⟨o1, o2, -, ⟨o3, -⟩, ⟨b1, -⟩, ⟨b2, -⟩, -⟩ := hA
  exact ⟨⟨jMT_congr (fun a x1 x2 => hF a (by omega) (by omega)) o1 a1, jML_congr (fun a x1 x2 => hF a (by omega) (by omega)) (hf 25 (by omega)) o2 a2, (hf 44 (by omega)).trans a3⟩, fun k hk => by rw [hF 691 (by omega) (by omega)]; exact a4 k hk, jMB_cg o3 (hf 39 (by omega)) (fun a x1 x2 => hF a (by omega) (by omega)) a5, jmH_cg b1 (hf 40 (by omega)) (fun a x1 x2 => hF a (by omega) (by omega)) a6, jmE_cg b2 (hf 42 (by omega)) (fun a x1 x2 => hF a (by omega) (by omega)) a8, ⟨e1, e3, etp⟩, (hf 41 (by omega)).trans a13, by rw [hF 207 (by omega) (by omega)]; exact a14, by rw [hF 207 (by omega) (by omega)]; exact a15⟩
theorem x_feed (hA : jAG N A) (x1 x2 x3 x4 x5 : Int32) : jDoN (fun g => F_SG_feed 64 x1 x2 x3 x4 x5 g) (fun g => F_Mod_feed 205 x1 x2 x3 x4 x5 g) N A := by
  obtain ⟨τ, ω, r, β, H, E, ⟨q, tp⟩, p, rf, c0, c1⟩ := A
  obtain ⟨hq, h256⟩ : q ≤ 600 ∧ ∀ k, tp k < 256 := hA.2.2.2.2.2.2.1
  by_cases z : q + 20 ≤ 600
  · refine ⟨nI (q + 20), (τ, ω, r, β, H, E, (q + 20, s_fd tp q x1 x2 x3 x4 x5), p, rf, c0, c1), ⟨fun t u l m b c h I hL hC => ?_, fun t u l m b c h I hL hC => ?_⟩, ?_⟩
    · obtain ⟨e1, e3, etp⟩ : I 65 1 = nI q ∧ I 65 3 = p ∧ ∀ k, k < q → I 66 k = nS (tp k) := hC.2.2.2.2.2.1
      obtain ⟨K, e, k1, k2, k3, k4⟩ := c_feed hL hq e1 etp (hr := z) (x1 := x1) (x2 := x2) (x3 := x3) (x4 := x4) (x5 := x5)
      exact ⟨K, e, jCC_65 hL hC hA k4 k1 ((k3 3 (by omega)).trans e3) k2, fun a ha => k4 a (by omega) (by omega)⟩
    · obtain ⟨e1, e3, etp⟩ : I 205 1 = nI q ∧ I 205 3 = p ∧ ∀ k, k < q → I 206 k = nI (tp k) := hC.2.2.2.2.2.1
      obtain ⟨K, e, k0, k1, k2, k3, k4⟩ := m_feed hL e1 etp z (x1 := x1) (x2 := x2) (x3 := x3) (x4 := x4) (x5 := x5)
      exact ⟨K, e, jMM_205 hC hA k4 (fun f hf => k3 f (by omega) (by omega)) k1 ((k3 3 (by omega) (by omega)).trans e3) k2, fun a ha => k4 a (by omega) (by omega)⟩
    · obtain ⟨a1, a2, a3, a4, a5, a6, a7, a8, a9, a10⟩ := hA
      exact ⟨a1, a2, a3, a4, a5, a6, ⟨z, s_fd_lt h256⟩, a8, Nat.le_succ_of_le a9, Nat.le_succ_of_le a10⟩
  · refine jDoN_q (v := -nI 1) hA (fun t u l m b c h I hL hC => ?_) (fun t u l m b c h I hL hC => ?_)
    · obtain ⟨e1, e3, etp⟩ : I 65 1 = nI q ∧ I 65 3 = p ∧ ∀ k, k < q → I 66 k = nS (tp k) := hC.2.2.2.2.2.1
      exact c_feedF hL hq e1 (by omega)
    · obtain ⟨e1, e3, etp⟩ : I 205 1 = nI q ∧ I 205 3 = p ∧ ∀ k, k < q → I 206 k = nI (tp k) := hC.2.2.2.2.2.1
      exact ⟨_, m_feedF hL e1 hq (by omega), jN_0 (jMM_Q hC hA)⟩
end

/-! PLAIN LEAN: hours undone, images -/
def jHa (a : Nat) : Prop := a = 106 ∨ a = 125 ∨ a = 143 ∨ a = 161
section
variable {t u l m b c : Nat} {h : LH} {I J K : Nat → Nat → Int32} {A A' : JA} {N : Nat} {τ : JTn} {ω : JLw} {r : JRw} {β : JBk} {H : JHs} {E : JIm} {Tp : Nat × (Nat → Nat)} {p : Int32} {rf c0 c1 : Nat} {v : Int32} {a d s i k w : Nat} {Q : Type} {x : Int32}
theorem dK_H (hL : jLay t u l m b c h) (ha : jHa a) {X : Option Q} : jf_kd (jz_I h I) a 2 X = X := by rcases ha with rfl | rfl | rfl | rfl; exact dK_106 hL; exact dK_125 hL; exact dK_143 hL; exact dK_161 hL
theorem dG_H (hL : jLay t u l m b c h) (ha : jHa a) {K : Int32 → Option Q} : jf_gi (jz_I h I) a 2 k K = K (I a k) := by rcases ha with rfl | rfl | rfl | rfl; exact dG_106 hL; exact dG_125 hL; exact dG_143 hL; exact dG_161 hL
theorem dP_H (hL : jLay t u l m b c h) (ha : jHa a) {K : LH → Option Q} : jf_pi (jz_I h I) a 2 k x K = K (jz_I h (jU I a (jV (I a) k x))) := by rcases ha with rfl | rfl | rfl | rfl; exact dP_106 hL; exact dP_125 hL; exact dP_143 hL; exact dP_161 hL
theorem dR_H (hL : jLay t u l m b c h) (ha : jHa a) {K : Nat → Option Q} : jf_gr (jz_I h I) a 2 0 K = K (a + 1) := by rcases ha with rfl | rfl | rfl | rfl; exact dR_106_0 hL; exact dR_125_0 hL; exact dR_143_0 hL; exact dR_161_0 hL
theorem dA_H (hL : jLay t u l m b c h) (ha : jHa a) {K : Nat → Option Q} (hi : i < 16) : jf_aa (jz_I h I) (a + 1) (nI i) K = K (a + 2 + i) := by rcases ha with rfl | rfl | rfl | rfl; exact dA_107 hL hi; exact dA_126 hL hi; exact dA_144 hL hi; exact dA_162 hL hi
theorem lk_H (hL : jLay t u l m b c h) (ha : jHa a) (hi : i < 16) : jl_kd h (a + 2 + i) = 20 := by rcases ha with rfl | rfl | rfl | rfl; exact lk_108 hL hi; exact lk_127 hL hi; exact lk_145 hL hi; exact lk_163 hL hi
theorem ll_H (hL : jLay t u l m b c h) (ha : jHa a) (hi : i < 16) : jl_ln h (a + 2 + i) = 134 := by rcases ha with rfl | rfl | rfl | rfl; exact ll_108 hL hi; exact ll_127 hL hi; exact ll_145 hL hi; exact ll_163 hL hi
set_option maxRecDepth 100000 in
theorem dA_124 (hL : jLay t u l m b c h) {K : Nat → Option Q} (hi : i < 3) : jf_aa (jz_I h I) 124 (nI i) K = K (125 + 18 * i) := kq_aa (Or.inr (jLay_kd hL (a := 60) (by decide) rfl)) (by rw [jLay_ln hL (a := 60) (by decide) rfl]; exact hi) (by omega) (hL.2.2.2.1 i hi)
theorem jCR_pt {ρ ρ' : Nat} (e : ∀ k, k < 134 → J ρ' k = I ρ k) (h6 : ∀ g, g < 9 → r (108 + g) ≤ 6) (hR : jCR I ρ r) : jCR J ρ' r := by
  obtain ⟨a1, a2, a3, a4, a5⟩ := hR
  refine ⟨by rw [e 0 (by omega)]; exact a1, fun w hw => by rw [e _ (by omega)]; exact a2 w hw, fun w hw => by rw [e _ (by omega)]; exact a3 w hw, fun w hw => by rw [e _ (by omega)]; exact a4 w hw, fun g k hg hk => ?_⟩
  have := h6 g hg
  rw [e _ (by omega), e _ (by omega)]
  exact a5 g k hg hk
theorem c_copyFrom (hL : jLay t u l m b c h) (hd : jHa d) (hs : jHa s) (hne : ¬ d = s) (e : I s 1 = nI w) (hw : w ≤ 16) : ∃ J, F_Hist_copyFrom d s (jz_I h I) = some (jz_I h J) ∧ J d 1 = nI w ∧ (∀ i k, i < w → k < 134 → J (d + 2 + i) k = I (s + 2 + i) k) ∧ ∀ a, ¬ a = d → ¬ (d + 2 ≤ a ∧ a < d + 18) → J a = I a := by
  have hds : d + 18 ≤ s ∨ s + 18 ≤ d := by
    unfold jHa at hd hs
    omega
  have hd64 : 64 ≤ d := by unfold jHa at hd; omega
  have hs64 : 64 ≤ s := by unfold jHa at hs; omega
  refine jE_n (fun P hP => ?_)
  unfold F_Hist_copyFrom
  rw [dG_H hL hs, e, dP_H hL hd]
  refine jW_for0 (A := Nat → Nat → Int32) (f := fun fuel i s' => F_Hist_copyFrom_l10 fuel d s (nI i) (jz_I h s')) w (fun i s' => s' d 1 = nI w ∧ (∀ i' k, i' < i → k < 134 → s' (d + 2 + i') k = I (s + 2 + i') k) ∧ ∀ a, ¬ a = d → ¬ (d + 2 ≤ a ∧ a < d + 18) → s' a = I a) _ ⟨by rw [jU_eq, jV_eq], fun i' k hi => absurd hi (Nat.not_lt_zero i'), fun a a1 _ => jU_ne a1⟩ (by omega) (fun F i s' hi hV ih => ?_) (fun F s' hV => ?_)
  · obtain ⟨v1, v2, v3⟩ := hV
    have hac : ∀ {Q : Type} {K : LH → Option Q}, jf_ac (jz_I h s') (s + 2 + i) (nI 0) (d + 2 + i) (nI 0) (nI 134) K = K (jz_I h (jU s' (d + 2 + i) (fun j => if 0 ≤ j ∧ j < 0 + 134 then s' (s + 2 + i) (0 + (j - 0)) else s' (d + 2 + i) j))) := kq_ac (lk_H hL hs (by omega)) (by omega) (lk_H hL hd (by omega)) (by omega) (by omega) (by decide) (by decide) (by decide) (by rw [ll_H hL hs (by omega)]; omega) (by rw [ll_H hL hd (by omega)]; omega)
    show jW (F_Hist_copyFrom_c10 (F_Hist_copyFrom_l10 F) d s (nI i) (jz_I h s')) P
    unfold F_Hist_copyFrom_c10
    simp (disch := omega) only [↓dG_H hL hd, v1, kn_lit, kn_lt, kt_lt, ↓reduceIte, ↓dR_H hL hs, ↓dR_H hL hd, dA_H hL hs, dA_H hL hd, hac, kn_add]
    refine ih _ ⟨by rw [jU_ne (by omega)]; exact v1, fun i' k hi' hk => ?_, fun a a1 a2 => by rw [jU_ne (by omega)]; exact v3 a a1 a2⟩
    by_cases z : i' = i
    · rw [z, jU_eq]
      show (if 0 ≤ k ∧ k < 0 + 134 then s' (s + 2 + i) (0 + (k - 0)) else s' (d + 2 + i) k) = _
      rw [if_pos (by omega), v3 (s + 2 + i) (by omega) (by omega), show 0 + (k - 0) = k by omega]
    · rw [jU_ne (by omega)]; exact v2 i' k (by omega) hk
  · obtain ⟨v1, v2, v3⟩ := hV
    show jW (F_Hist_copyFrom_c10 (F_Hist_copyFrom_l10 F) d s (nI w) (jz_I h s')) P
    unfold F_Hist_copyFrom_c10
    simp (disch := omega) only [↓dG_H hL hd, v1, kn_lit, kn_lt, kf_lt, ↓reduceIte]
    exact jW_s (hP s' ⟨v1, v2, v3⟩)
/-- all that is neither town nor law nor book, on the class's side: how a state is put together again -/
theorem jCC_U (hL : jLay t u l m b c h) {r' : JRw} {H' : JHs} {E' : JIm} {rf' : Nat} (hC : jCC h I t l b (τ, ω, r, β, H, E, Tp, p, rf, c0, c1)) (hF : ∀ a, ¬ a = 64 → ¬ (85 ≤ a ∧ a < 90) → ¬ (106 ≤ a ∧ a < 183) → J a = I a) (hS : jCS J 85 τ false r') (hH : jcH J H') (hE : jcE J E') (e15 : J 64 15 = nI rf') (e16 : J 64 16 = I 64 16) (e17 : J 64 17 = I 64 17) : jCC h J t l b (τ, ω, r', β, H', E', Tp, p, rf', c0, c1) := by
  have ht := jLay_t hL
  have hl := jLay_l hL
  have hb := jLay_b hL
  obtain ⟨⟨a1, a2⟩, -, a4, -, -, ⟨a9, a10, a11⟩, ⟨-, a13, a14⟩, a15⟩ := hC
  have f65 := hF 65 (by omega) (by omega) (by omega)
  have f66 := hF 66 (by omega) (by omega) (by omega)
  exact ⟨⟨jCT_congr (fun i hi => hF _ (by omega) (by omega) (by omega)) a1, jCL_cg (fun a ha => hF a (by omega) (by omega) (by omega)) a2⟩, hS, jCB_cg (fun a ha => hF a (by omega) (by omega) (by omega)) a4, hH, hE, ⟨by rw [f65]; exact a9, by rw [f65]; exact a10, fun k hk => by rw [f66]; exact a11 k hk⟩, ⟨e15, e16.trans a13, e17.trans a14⟩, jStr_eq a15 (fun a ha => hF a (by omega) (by omega) (by omega))⟩
theorem jMM_U {r' : JRw} {H' : JHs} {E' : JIm} {rf' : Nat} (hC : jMM I (τ, ω, r, β, H, E, Tp, p, rf, c0, c1)) (hA : jAG N (τ, ω, r, β, H, E, Tp, p, rf, c0, c1)) (hF : ∀ a, (206 ≤ a ∧ a < 608) → J a = I a) (hf : ∀ f, f = 1 ∨ f = 3 ∨ f = 25 ∨ f = 39 ∨ f = 44 → J 205 f = I 205 f) (hR : jMR J 691 r') (hH : jmH J H') (hE : jmE J E') (e41 : J 205 41 = nI rf') : jMM J (τ, ω, r', β, H', E', Tp, p, rf', c0, c1) := by
  obtain ⟨⟨a1, a2, a3⟩, -, a5, -, -, ⟨a10, a11, a12⟩, -, a14, a15⟩ := hC
  obtain ⟨o1, o2, -, ⟨o3, -⟩, -⟩ := hA
  exact ⟨⟨jMT_congr (fun a x1 x2 => hF a (by omega)) o1 a1, jML_congr (fun a x1 x2 => hF a (by omega)) (hf 25 (by omega)) o2 a2, (hf 44 (by omega)).trans a3⟩, hR, jMB_cg o3 (hf 39 (by omega)) (fun a x1 x2 => hF a (by omega)) a5, hH, hE, ⟨(hf 1 (by omega)).trans a10, (hf 3 (by omega)).trans a11, fun k hk => by rw [hF 206 (by omega)]; exact a12 k hk⟩, e41, by rw [hF 207 (by omega)]; exact a14, by rw [hF 207 (by omega)]; exact a15⟩
theorem x_undo (hA : jAG N A) : jDoN (fun g => F_SG_undo 64 g) (fun g => F_Mod_undo 205 g) N A := by
  obtain ⟨τ, ω, r, β, ⟨w, B⟩, E, Tp, p, rf, c0, c1⟩ := A
  obtain ⟨b1, b2⟩ : w ≤ 16 ∧ ∀ i, i < w → jRG τ (B i) := hA.2.2.2.2.1
  obtain ⟨d1, d2⟩ := hA.2.2.2.2.2.1
  by_cases z : w = 0
  · subst z
    refine jDoN_q (v := -nI 1) hA (fun t u l m b c h I hL hC => ?_) (fun t u l m b c h I hL hC => ?_)
    · have e : I 106 1 = nI 0 := hC.2.2.2.1.1
      show F_SG_undo 64 (jz_I h I) = _
      unfold F_SG_undo
      simp (disch := omega) only [e, ↓dK_64 hL, ↓dG_64 hL, ↓dP_64 hL, ↓dR_64_7 hL, ↓dK_106 hL, ↓dG_106 hL, ↓dP_106 hL, ↓reduceIte, ↓kq_bi, ↓kq_let, ↓kq_rz0, ↓kq_rz1, ↓kq_rzB, ↓Option.bind_some, kq_dvn, kt_lt, kf_lt, kt_eq, kf_eq, decide_true, decide_false, eq_self, Bool.false_eq_true, Bool.true_eq_false, not_true_eq_false, not_false_eq_true, jU_eq, jU_ne, jU_U, jV_eq, jV_ne, jV_V, kn_lit, kn_add, kn_mul, kn_sdm, kn_sub, kn_div, kn_nsdm, kn_lt, kn_eq, kn_pred, kn_m1, kn_m1', kn_a31, kn_shl, kn_shr, kn_bit, nB_0, nB_1, nB_t, nB_f, Nat.zero_add, Nat.add_zero, Nat.reduceAdd, Nat.reduceMul, Nat.reduceSub, Nat.reducePow]
    · have e : I 205 40 = nI 0 := hC.2.2.2.1.1
      refine ⟨_, ?_, jN_0 (jMM_Q hC hA)⟩
      show F_Mod_undo 205 (jz_I h I) = _
      unfold F_Mod_undo
      simp (disch := omega) only [e, ↓dK_205 hL, ↓dG_205 hL, ↓dP_205 hL, ↓dZ_205 hL (x := nI 0) (Or.inl rfl), ↓dZ_205 hL (x := nI 1) (Or.inr rfl), ↓dZ_205 hL (Or.inl rfl), ↓dZ_205 hL (Or.inr rfl), ↓dZ_205 hL (nB_01 _), ↓reduceIte, ↓kq_bi, ↓kq_let, ↓kq_rz0, ↓kq_rz1, ↓kq_rzB, ↓Option.bind_some, kq_dvn, kt_lt, kf_lt, kt_eq, kf_eq, decide_true, decide_false, eq_self, Bool.false_eq_true, Bool.true_eq_false, not_true_eq_false, not_false_eq_true, jU_eq, jU_ne, jU_U, jV_eq, jV_ne, jV_V, kn_lit, kn_add, kn_mul, kn_sdm, kn_sub, kn_div, kn_nsdm, kn_lt, kn_eq, kn_pred, kn_m1, kn_m1', kn_a31, kn_shl, kn_shr, kn_bit, nB_0, nB_1, nB_t, nB_f, Nat.zero_add, Nat.add_zero, Nat.reduceAdd, Nat.reduceMul, Nat.reduceSub, Nat.reducePow]
  · obtain ⟨g1, g2, g3⟩ := b2 (w - 1) (by omega)
    refine ⟨nI (w - 1), (τ, ω, B (w - 1), β, (w - 1, B), E, Tp, p, 0, c0, c1), ⟨fun t u l m b c h I hL hC => ?_, fun t u l m b c h I hL hC => ?_⟩, ?_⟩
    · have hH := hC.2.2.2.1
      have e : I 106 1 = nI w := hH.1
      have hrow := hH.2 (w - 1) (show w - 1 < w by omega)
      have key : ∃ J, F_SG_undo 64 (jz_I h I) = some (nI (w - 1), jz_I h J) ∧ jCS J 85 τ false (B (w - 1)) ∧ J 106 = jV (I 106) 1 (nI (w - 1)) ∧ J 64 = jV (I 64) 15 (nI 0) ∧ ∀ a, ¬ a = 64 → ¬ a = 85 → ¬ a = 86 → ¬ a = 106 → J a = I a := by
        refine jE_i (fun P hP => ?_)
        unfold F_SG_undo F_Hist_pop
        simp (disch := omega) only [e, ↓dK_64 hL, ↓dG_64 hL, ↓dP_64 hL, ↓dR_64_7 hL, ↓dK_106 hL, ↓dG_106 hL, ↓dP_106 hL, ↓dR_106_0 hL, dA_107 hL, dI_108 hL, dS_108 hL, ↓dR_64_2 hL, ↓dK_85 hL, ↓dG_85 hL, ↓dP_85 hL, ↓dZ_85 hL (x := nI 0) (Or.inl rfl), ↓dZ_85 hL (x := nI 1) (Or.inr rfl), ↓dZ_85 hL (Or.inl rfl), ↓dZ_85 hL (Or.inr rfl), ↓dZ_85 hL (nB_01 _), ↓reduceIte, ↓kq_bi, ↓kq_let, ↓kq_rz0, ↓kq_rz1, ↓kq_rzB, ↓Option.bind_some, kq_dvn, kt_lt, kf_lt, kt_eq, kf_eq, decide_true, decide_false, eq_self, Bool.false_eq_true, Bool.true_eq_false, not_true_eq_false, not_false_eq_true, jU_eq, jU_ne, jU_U, jV_eq, jV_ne, jV_V, kn_lit, kn_add, kn_mul, kn_sdm, kn_sub, kn_div, kn_nsdm, kn_lt, kn_eq, kn_pred, kn_m1, kn_m1', kn_a31, kn_shl, kn_shr, kn_bit, nB_0, nB_1, nB_t, nB_f, Nat.zero_add, Nat.add_zero, Nat.reduceAdd, Nat.reduceMul, Nat.reduceSub, Nat.reducePow]
        refine jW_bn (h := h) (R := fun K => jCS K 85 τ false (B (w - 1)) ∧ ∀ x, ¬ x = 85 → ¬ x = 86 → K x = (jU I 106 (jV (I 106) 1 (nI (w - 1)))) x) ?_ (fun K hK => ?_)
        · obtain ⟨K, e2, k1, k2⟩ := c_loadFrom hL (Or.inl rfl) (I := jU I 106 (jV (I 106) 1 (nI (w - 1)))) (a := 108 + (w - 1)) (lk_108 hL (by omega)) (ll_108 hL (by omega)) (by omega) (by omega) (jCR_congr (jU_ne (by omega)) hrow) g1
          exact ⟨K, by rw [e2]; rfl, k1, k2⟩
        · have k106 : K 106 1 = nI (w - 1) := by rw [hK.2 106 (by omega) (by omega), jU_eq, jV_eq]
          simp (disch := omega) only [k106, ↓dK_64 hL, ↓dG_64 hL, ↓dP_64 hL, ↓dR_64_7 hL, ↓dK_106 hL, ↓dG_106 hL, ↓dP_106 hL, ↓reduceIte, ↓kq_bi, ↓kq_let, ↓kq_rz0, ↓kq_rz1, ↓kq_rzB, ↓Option.bind_some, kq_dvn, kt_lt, kf_lt, kt_eq, kf_eq, decide_true, decide_false, eq_self, Bool.false_eq_true, Bool.true_eq_false, not_true_eq_false, not_false_eq_true, jU_eq, jU_ne, jU_U, jV_eq, jV_ne, jV_V, kn_lit, kn_add, kn_mul, kn_sdm, kn_sub, kn_div, kn_nsdm, kn_lt, kn_eq, kn_pred, kn_m1, kn_m1', kn_a31, kn_shl, kn_shr, kn_bit, nB_0, nB_1, nB_t, nB_f, Nat.zero_add, Nat.add_zero, Nat.reduceAdd, Nat.reduceMul, Nat.reduceSub, Nat.reducePow]
          refine jW_s (hP _ ⟨jCS_cg (fun a x1 x2 => jU_ne (by omega)) hK.1, ?_, ?_, fun a x1 x2 x3 x4 => ?_⟩)
          · rw [jU_ne (by omega), hK.2 106 (by omega) (by omega), jU_eq]
          · rw [jU_eq, hK.2 64 (by omega) (by omega), jU_ne (by omega)]
          · rw [jU_ne x1, hK.2 a x2 x3, jU_ne x4]
      obtain ⟨J, e2, j1, j2, j3, j4⟩ := key
      refine ⟨J, e2, jCC_U hL hC (fun a x1 x2 x3 => j4 a x1 (by omega) (by omega) (by omega)) j1 ⟨by rw [j2, jV_eq], fun i hi => ?_⟩ (jcE_cg d1 (fun e he => (d2 e he).2.1) (by rw [j3, jV_ne (by omega)]) (fun a x1 x2 => j4 a (by omega) (by omega) (by omega) (by omega)) hC.2.2.2.2.1) (by rw [j3, jV_eq]) (by rw [j3, jV_ne (by omega)]) (by rw [j3, jV_ne (by omega)]), fun a ha => j4 a (by omega) (by omega) (by omega) (by omega)⟩
      have hi : i < w - 1 := hi
      exact jCR_congr (j4 _ (by omega) (by omega) (by omega) (by omega)) (hH.2 i (show i < w by omega))
    · have hH := hC.2.2.2.1
      have e : I 205 40 = nI w := hH.1
      have hrow := hH.2 (w - 1) (show w - 1 < w by omega)
      have key : ∃ J, F_Mod_undo 205 (jz_I h I) = some (nI (w - 1), jz_I h J) ∧ jMR J 691 (B (w - 1)) ∧ J 205 = jV (jV (jV (I 205) 0 (nI 0)) 40 (nI (w - 1))) 41 (nI 0) ∧ ∀ a, ¬ a = 205 → ¬ a = 691 → J a = I a := by
        refine jE_i (fun P hP => ?_)
        unfold F_Mod_undo
        simp (disch := omega) only [e, ↓dK_205 hL, ↓dG_205 hL, ↓dP_205 hL, ↓dZ_205 hL (x := nI 0) (Or.inl rfl), ↓dZ_205 hL (x := nI 1) (Or.inr rfl), ↓dZ_205 hL (Or.inl rfl), ↓dZ_205 hL (Or.inr rfl), ↓dZ_205 hL (nB_01 _), ↓dR_205_37 hL, dA_693 hL, dI_694 hL, dS_694 hL, ↓dR_205_35 hL, dI_691 hL, dS_691 hL, ↓reduceIte, ↓kq_bi, ↓kq_let, ↓kq_rz0, ↓kq_rz1, ↓kq_rzB, ↓Option.bind_some, kq_dvn, kt_lt, kf_lt, kt_eq, kf_eq, decide_true, decide_false, eq_self, Bool.false_eq_true, Bool.true_eq_false, not_true_eq_false, not_false_eq_true, jU_eq, jU_ne, jU_U, jV_eq, jV_ne, jV_V, kn_lit, kn_add, kn_mul, kn_sdm, kn_sub, kn_div, kn_nsdm, kn_lt, kn_eq, kn_pred, kn_m1, kn_m1', kn_a31, kn_shl, kn_shr, kn_bit, nB_0, nB_1, nB_t, nB_f, Nat.zero_add, Nat.add_zero, Nat.reduceAdd, Nat.reduceMul, Nat.reduceSub, Nat.reducePow]
        refine jW_bn (m_copies (lk_694 hL (k := w - 1) (by omega)) (ll_694 hL (k := w - 1) (by omega)) (lk_691 hL) (ll_691 hL) (by omega) (by omega)) (fun K hK => ?_)
        have k40 : K 205 40 = nI (w - 1) := by rw [hK.2 205 (by omega), jU_eq, jV_eq]
        simp (disch := omega) only [k40, ↓dK_205 hL, ↓dG_205 hL, ↓dP_205 hL, ↓dZ_205 hL (x := nI 0) (Or.inl rfl), ↓dZ_205 hL (x := nI 1) (Or.inr rfl), ↓dZ_205 hL (Or.inl rfl), ↓dZ_205 hL (Or.inr rfl), ↓dZ_205 hL (nB_01 _), ↓reduceIte, ↓kq_bi, ↓kq_let, ↓kq_rz0, ↓kq_rz1, ↓kq_rzB, ↓Option.bind_some, kq_dvn, kt_lt, kf_lt, kt_eq, kf_eq, decide_true, decide_false, eq_self, Bool.false_eq_true, Bool.true_eq_false, not_true_eq_false, not_false_eq_true, jU_eq, jU_ne, jU_U, jV_eq, jV_ne, jV_V, kn_lit, kn_add, kn_mul, kn_sdm, kn_sub, kn_div, kn_nsdm, kn_lt, kn_eq, kn_pred, kn_m1, kn_m1', kn_a31, kn_shl, kn_shr, kn_bit, nB_0, nB_1, nB_t, nB_f, Nat.zero_add, Nat.add_zero, Nat.reduceAdd, Nat.reduceMul, Nat.reduceSub, Nat.reducePow]
        refine jW_s (hP _ ⟨fun k hk => ?_, ?_, fun a x1 x2 => ?_⟩)
        · rw [jU_ne (by omega), hK.1 k hk, jU_ne (by omega)]; exact hrow k hk
        · rw [jU_eq, hK.2 205 (by omega), jU_eq]
        · rw [jU_ne x1, hK.2 a x2, jU_ne x1]
      obtain ⟨J, e2, j1, j2, j3⟩ := key
      have j205 : ∀ f, ¬ f = 0 → ¬ f = 40 → ¬ f = 41 → J 205 f = I 205 f := fun f x1 x2 x3 => by rw [j2, jV_ne x3, jV_ne x2, jV_ne x1]
      refine ⟨J, e2, jMM_U hC hA (fun a ha => j3 a (by omega) (by omega)) (fun f hf => j205 f (by omega) (by omega) (by omega)) j1 ⟨by rw [j2, jV_ne (by omega), jV_eq], fun i hi k hk => ?_⟩ (jmE_cg d1 (j205 42 (by omega) (by omega) (by omega)) (fun a x1 x2 => j3 a (by omega) (by omega)) hC.2.2.2.2.1) (by rw [j2, jV_eq]), fun a ha => j3 a (by omega) (by omega)⟩
      have hi : i < w - 1 := hi
      rw [j3 _ (by omega) (by omega)]
      exact hH.2 i (show i < w by omega) k hk
    · obtain ⟨a1, a2, a3, a4, a5, a6, a7, a8, a9, a10⟩ := hA
      exact ⟨a1, a2, ⟨g1, g2, g3⟩, a4, ⟨by show w - 1 ≤ 16; omega, fun i hi => b2 i (by have hi : i < w - 1 := hi; omega)⟩, a6, a7, by omega, Nat.le_succ_of_le a9, Nat.le_succ_of_le a10⟩
end

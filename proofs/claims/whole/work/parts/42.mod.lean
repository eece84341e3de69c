/-! PLAIN LEAN, 8: the reference: rows that change -/
section
variable {t u l m b c : Nat} {h : LH} {I J : Nat → Nat → Int32} {τ : JTn} {r q : JRw} {ρ i : Nat} {Q : Type} {x : Int32} {d : Bool} {ω : JLw} {f : Nat → Int32}
theorem jMR_U (hf : ∀ k, k < 134 → f k = nI (q k)) : jMR (jU I ρ f) ρ q := fun k hk => by rw [jU_eq]; exact hf k hk
theorem jMV {k v : Nat} (hf : ∀ k, k < 134 → f k = nI (q k)) (hx : x = nI v) : ∀ j, j < 134 → jV f k x j = nI (nV q k v j) := fun j hj => by
  unfold jV nV
  split
  · exact hx
  · exact hf j hj
theorem m_laysOn (hL : jLay t u l m b c h) (hT : jMT I τ) (ho : jTOK τ) (hρ : ρ = 691 ∨ ρ = 692) (hR : jMR I ρ r) (hr : jROK τ r) {g w : Nat} (hg : g < 9) (hw : w < τ 0 1) : ∃ J, F_Mod_laysOn 205 ρ (nI g) (nI w) (jz_I h I) = some (nB (s_can r g w), jz_I h J) ∧ jMR J ρ (s_layd τ r g w) ∧ ∀ a, ¬ a = ρ → J a = I a := by
  have o1 : τ 0 1 ≤ 6 := ho.2.1
  have b1 := hr.1 g hg
  have b2 := hr.2.2.1 w (by omega)
  have b3 := ho.2.2.2.2.2.2.2.1 w hw
  have hTw : ∀ (f : Nat → Int32) (j : Nat), j < 4 → jU I ρ f (223 + 1 + w) j = nI (τ (2 + j) w) := fun f j hj => by rw [jU_ne (by omega)]; exact hT.2.2.2.2.1 w j hw hj
  unfold F_Mod_laysOn
  by_cases h1 : r (117 + w) = 0
  · have e : s_can r g w = false := decide_eq_false (by omega)
    refine ⟨I, ?_, by unfold s_layd; rw [e]; exact hR, fun _ _ => rfl⟩
    simp (disch := omega) only [dI_R hL hρ, jMR_at hR, h1, e, F_Mod_laysOn_b20, ↓dK_205 hL, ↓dG_205 hL, ↓dP_205 hL, ↓dZ_205 hL (x := nI 0) (Or.inl rfl), ↓dZ_205 hL (x := nI 1) (Or.inr rfl), ↓dZ_205 hL (Or.inl rfl), ↓dZ_205 hL (Or.inr rfl), ↓dZ_205 hL (nB_01 _), ↓reduceIte, ↓kq_bi, ↓kq_let, ↓kq_rz0, ↓kq_rz1, ↓kq_rzB, ↓Option.bind_some, kq_dvn, kt_lt, kf_lt, kt_eq, kf_eq, decide_true, decide_false, eq_self, Bool.false_eq_true, Bool.true_eq_false, not_true_eq_false, not_false_eq_true, jU_eq, jU_ne, jU_U, jV_eq, jV_ne, jV_V, kn_lit, kn_add, kn_mul, kn_sdm, kn_sub, kn_div, kn_nsdm, kn_lt, kn_eq, kn_pred, kn_m1, kn_m1', kn_a31, kn_shl, kn_shr, kn_bit, nB_0, nB_1, nB_t, nB_f, Nat.zero_add, Nat.add_zero, Nat.reduceAdd, Nat.reduceMul, Nat.reduceSub, Nat.reducePow]
  · by_cases h2 : r (108 + g) = 6
    · have e : s_can r g w = false := decide_eq_false (by omega)
      refine ⟨I, ?_, by unfold s_layd; rw [e]; exact hR, fun _ _ => rfl⟩
      simp (disch := omega) only [dI_R hL hρ, jMR_at hR, h2, e, F_Mod_laysOn_b20, ↓dK_205 hL, ↓dG_205 hL, ↓dP_205 hL, ↓dZ_205 hL (x := nI 0) (Or.inl rfl), ↓dZ_205 hL (x := nI 1) (Or.inr rfl), ↓dZ_205 hL (Or.inl rfl), ↓dZ_205 hL (Or.inr rfl), ↓dZ_205 hL (nB_01 _), ↓reduceIte, ↓kq_bi, ↓kq_let, ↓kq_rz0, ↓kq_rz1, ↓kq_rzB, ↓Option.bind_some, kq_dvn, kt_lt, kf_lt, kt_eq, kf_eq, decide_true, decide_false, eq_self, Bool.false_eq_true, Bool.true_eq_false, not_true_eq_false, not_false_eq_true, jU_eq, jU_ne, jU_U, jV_eq, jV_ne, jV_V, kn_lit, kn_add, kn_mul, kn_sdm, kn_sub, kn_div, kn_nsdm, kn_lt, kn_eq, kn_pred, kn_m1, kn_m1', kn_a31, kn_shl, kn_shr, kn_bit, nB_0, nB_1, nB_t, nB_f, Nat.zero_add, Nat.add_zero, Nat.reduceAdd, Nat.reduceMul, Nat.reduceSub, Nat.reducePow]
    · have e : s_can r g w = true := decide_eq_true ⟨h1, h2⟩
      rw [e]
      unfold s_layd
      rw [if_pos e]
      refine jE_i (fun P hP => ?_)
      simp (disch := omega) only [dI_R hL hρ, dS_R hL hρ, jMR_at hR, hTw, ↓dK_205 hL, ↓dG_205 hL, ↓dP_205 hL, ↓dZ_205 hL (x := nI 0) (Or.inl rfl), ↓dZ_205 hL (x := nI 1) (Or.inr rfl), ↓dZ_205 hL (Or.inl rfl), ↓dZ_205 hL (Or.inr rfl), ↓dZ_205 hL (nB_01 _), ↓dR_205_20 hL, dA_223 hL, dI_224 hL, dS_224 hL, ↓reduceIte, ↓kq_bi, ↓kq_let, ↓kq_rz0, ↓kq_rz1, ↓kq_rzB, ↓Option.bind_some, kq_dvn, kt_lt, kf_lt, kt_eq, kf_eq, decide_true, decide_false, eq_self, Bool.false_eq_true, Bool.true_eq_false, not_true_eq_false, not_false_eq_true, jU_eq, jU_ne, jU_U, jV_eq, jV_ne, jV_V, kn_lit, kn_add, kn_mul, kn_sdm, kn_sub, kn_div, kn_nsdm, kn_lt, kn_eq, kn_pred, kn_m1, kn_m1', kn_a31, kn_shl, kn_shr, kn_bit, nB_0, nB_1, nB_t, nB_f, Nat.zero_add, Nat.add_zero, Nat.reduceAdd, Nat.reduceMul, Nat.reduceSub, Nat.reducePow]
      exact jW_s (hP _ ⟨jMR_U (jMV (jMV (jMV (jMV hR rfl) rfl) rfl) rfl), fun a ha => jU_ne ha⟩)
/-- the row while a fire burns down: k logs are done -/
def jBV (r : JRw) (g k : Nat) (f : Nat → Int32) : Prop := (∀ i, i < 134 → ¬ (6 * g ≤ i ∧ i < 6 * g + 6) → ¬ (54 + 6 * g ≤ i ∧ i < 54 + 6 * g + 6) → f i = nI (r i)) ∧ (∀ j, k ≤ j → j < 6 → f (6 * g + j) = nI (r (6 * g + j)) ∧ f (54 + (6 * g + j)) = nI (r (54 + (6 * g + j)))) ∧ (∀ j, j < s_bn r g k → f (6 * g + j) = nI (s_bx r g (fun k => r (6 * g + k)) k j) ∧ f (54 + (6 * g + j)) = nI (s_bx r g (fun k => r (54 + (6 * g + k)) - 1) k j))
theorem m_burns (hL : jLay t u l m b c h) (hρ : ρ = 691 ∨ ρ = 692) (hR : jMR I ρ r) (hr : jROK τ r) {g : Nat} (hg : g < 9) : ∃ J, F_Mod_burns 205 ρ (nI g) (jz_I h I) = some (jz_I h J) ∧ jMR J ρ (s_burn r g) ∧ ∀ a, ¬ a = ρ → J a = I a := by
  have b1 := hr.1 g hg
  refine jE_n (fun P hP => ?_)
  unfold F_Mod_burns
  refine (jU_id (I := I) (a := ρ)) ▸ jW_for0 (f := fun fuel k (f : Nat → Int32) => F_Mod_burns_l5 fuel ρ (nI g) (nI (s_bn r g k)) (nI k) (jz_I h (jU I ρ f))) (r (108 + g)) (fun k f => jBV r g k f) (I ρ) ⟨fun i hi _ _ => hR i hi, fun j _ hj => ⟨hR _ (by omega), hR _ (by omega)⟩, fun j hj => absurd hj (Nat.not_lt_zero j)⟩ (by omega) (fun n k f hk hV ih => ?_) (fun n f hV => ?_)
  · obtain ⟨v1, v2, v3⟩ := hV
    have e1 := v1 (108 + g) (by omega) (by omega) (by omega)
    obtain ⟨e2, e3⟩ := v2 k (Nat.le_refl k) (by omega)
    obtain ⟨-, w1, w2⟩ := hr.2.1 g k hg hk
    have bn := s_bn_le (r := r) (g := g) k
    show jW (F_Mod_burns_c5 (F_Mod_burns_l5 n) ρ (nI g) (nI (s_bn r g k)) (nI k) (jz_I h (jU I ρ f))) P
    unfold F_Mod_burns_c5
    simp (disch := omega) only [dI_R hL hρ, dS_R hL hρ, e1, e2, e3, ↓reduceIte, ↓kq_bi, ↓kq_let, ↓kq_rz0, ↓kq_rz1, ↓kq_rzB, ↓Option.bind_some, kq_dvn, kt_lt, kf_lt, kt_eq, kf_eq, decide_true, decide_false, eq_self, Bool.false_eq_true, Bool.true_eq_false, not_true_eq_false, not_false_eq_true, jU_eq, jU_ne, jU_U, jV_eq, jV_ne, jV_V, kn_lit, kn_add, kn_mul, kn_sdm, kn_sub, kn_div, kn_nsdm, kn_lt, kn_eq, kn_pred, kn_m1, kn_m1', kn_a31, kn_shl, kn_shr, kn_bit, nB_0, nB_1, nB_t, nB_f, Nat.zero_add, Nat.add_zero, Nat.reduceAdd, Nat.reduceMul, Nat.reduceSub, Nat.reducePow]
    have en : s_bn r g (k + 1) = s_bn r g k + (if 1 < r (54 + (6 * g + k)) then 1 else 0) := rfl
    have ex : ∀ v : Nat → Nat, s_bx r g v (k + 1) = (if 1 < r (54 + (6 * g + k)) then nV (s_bx r g v k) (s_bn r g k) (v k) else s_bx r g v k) := fun v => rfl
    by_cases hc : 1 < r (54 + (6 * g + k))
    · rw [if_pos hc] at en
      simp (disch := omega) only [F_Mod_burns_b76, ↓reduceIte, ↓kq_bi, ↓kq_let, ↓kq_rz0, ↓kq_rz1, ↓kq_rzB, ↓Option.bind_some, kq_dvn, kt_lt, kf_lt, kt_eq, kf_eq, decide_true, decide_false, eq_self, Bool.false_eq_true, Bool.true_eq_false, not_true_eq_false, not_false_eq_true, jU_eq, jU_ne, jU_U, jV_eq, jV_ne, jV_V, kn_lit, kn_add, kn_mul, kn_sdm, kn_sub, kn_div, kn_nsdm, kn_lt, kn_eq, kn_pred, kn_m1, kn_m1', kn_a31, kn_shl, kn_shr, kn_bit, nB_0, nB_1, nB_t, nB_f, Nat.zero_add, Nat.add_zero, Nat.reduceAdd, Nat.reduceMul, Nat.reduceSub, Nat.reducePow]
      rw [← en]
      refine ih _ ⟨fun i hi h1 h2 => ?_, fun j hj hj6 => ?_, fun j hj => ?_⟩
      · rw [jV_ne (by omega), jV_ne (by omega)]; exact v1 i hi h1 h2
      · rw [jV_ne (by omega), jV_ne (by omega), jV_ne (by omega), jV_ne (by omega)]; exact v2 j (by omega) hj6
      · rw [ex, ex, if_pos hc, if_pos hc]
        rw [en] at hj
        by_cases hj2 : j = s_bn r g k
        · rw [hj2, jV_ne (by omega), jV_eq, jV_eq, nV_eq, nV_eq]; exact ⟨rfl, rfl⟩
        · rw [jV_ne (by omega), jV_ne (by omega), jV_ne (by omega), jV_ne (by omega), nV_ne hj2, nV_ne hj2]; exact v3 j (by omega)
    · rw [if_neg hc] at en
      simp (disch := omega) only [F_Mod_burns_b76, ↓reduceIte, ↓kq_bi, ↓kq_let, ↓kq_rz0, ↓kq_rz1, ↓kq_rzB, ↓Option.bind_some, kq_dvn, kt_lt, kf_lt, kt_eq, kf_eq, decide_true, decide_false, eq_self, Bool.false_eq_true, Bool.true_eq_false, not_true_eq_false, not_false_eq_true, jU_eq, jU_ne, jU_U, jV_eq, jV_ne, jV_V, kn_lit, kn_add, kn_mul, kn_sdm, kn_sub, kn_div, kn_nsdm, kn_lt, kn_eq, kn_pred, kn_m1, kn_m1', kn_a31, kn_shl, kn_shr, kn_bit, nB_0, nB_1, nB_t, nB_f, Nat.zero_add, Nat.add_zero, Nat.reduceAdd, Nat.reduceMul, Nat.reduceSub, Nat.reducePow]
      rw [show s_bn r g k = s_bn r g (k + 1) from by rw [en]; rfl]
      refine ih _ ⟨fun i hi h1 h2 => ?_, fun j hj hj6 => ?_, fun j hj => ?_⟩
      · rw [jV_ne (by omega), jV_ne (by omega)]; exact v1 i hi h1 h2
      · rw [jV_ne (by omega), jV_ne (by omega), jV_ne (by omega), jV_ne (by omega)]; exact v2 j (by omega) hj6
      · rw [ex, ex, if_neg hc, if_neg hc]
        rw [jV_ne (by omega), jV_ne (by omega), jV_ne (by omega), jV_ne (by omega)]; exact v3 j (by omega)
  · obtain ⟨v1, v2, v3⟩ := hV
    have e1 := v1 (108 + g) (by omega) (by omega) (by omega)
    have bn := s_bn_le (r := r) (g := g) (r (108 + g))
    show jW (F_Mod_burns_c5 (F_Mod_burns_l5 n) ρ (nI g) (nI (s_bn r g (r (108 + g)))) (nI (r (108 + g))) (jz_I h (jU I ρ f))) P
    unfold F_Mod_burns_c5
    simp (disch := omega) only [dI_R hL hρ, dS_R hL hρ, e1, ↓reduceIte, ↓kq_bi, ↓kq_let, ↓kq_rz0, ↓kq_rz1, ↓kq_rzB, ↓Option.bind_some, kq_dvn, kt_lt, kf_lt, kt_eq, kf_eq, decide_true, decide_false, eq_self, Bool.false_eq_true, Bool.true_eq_false, not_true_eq_false, not_false_eq_true, jU_eq, jU_ne, jU_U, jV_eq, jV_ne, jV_V, kn_lit, kn_add, kn_mul, kn_sdm, kn_sub, kn_div, kn_nsdm, kn_lt, kn_eq, kn_pred, kn_m1, kn_m1', kn_a31, kn_shl, kn_shr, kn_bit, nB_0, nB_1, nB_t, nB_f, Nat.zero_add, Nat.add_zero, Nat.reduceAdd, Nat.reduceMul, Nat.reduceSub, Nat.reducePow]
    refine jW_for (f := fun fuel k (f : Nat → Int32) => F_Mod_burns_l94 fuel ρ (nI g) (nI k) (jz_I h (jU I ρ f))) 6 (fun k f => s_bn r g (r (108 + g)) ≤ k ∧ (∀ i, i < 134 → ¬ (6 * g ≤ i ∧ i < 6 * g + 6) → ¬ (54 + 6 * g ≤ i ∧ i < 54 + 6 * g + 6) → f i = nI (s_burn r g i)) ∧ (∀ j, j < k → f (6 * g + j) = nI (s_burn r g (6 * g + j)) ∧ f (54 + (6 * g + j)) = nI (s_burn r g (54 + (6 * g + j))))) (fun n2 k f2 hk hV ih => ?_) (fun n2 f2 hV => ?_) jF _ _ (by omega) (by show _ < 1000; omega) ⟨Nat.le_refl _, fun i hi h1 h2 => ?_, fun j hj => ?_⟩
    · obtain ⟨u0, u1, u2⟩ := hV
      show jW (F_Mod_burns_c94 (F_Mod_burns_l94 n2) ρ (nI g) (nI k) (jz_I h (jU I ρ f2))) P
      unfold F_Mod_burns_c94
      simp (disch := omega) only [dI_R hL hρ, dS_R hL hρ, ↓reduceIte, ↓kq_bi, ↓kq_let, ↓kq_rz0, ↓kq_rz1, ↓kq_rzB, ↓Option.bind_some, kq_dvn, kt_lt, kf_lt, kt_eq, kf_eq, decide_true, decide_false, eq_self, Bool.false_eq_true, Bool.true_eq_false, not_true_eq_false, not_false_eq_true, jU_eq, jU_ne, jU_U, jV_eq, jV_ne, jV_V, kn_lit, kn_add, kn_mul, kn_sdm, kn_sub, kn_div, kn_nsdm, kn_lt, kn_eq, kn_pred, kn_m1, kn_m1', kn_a31, kn_shl, kn_shr, kn_bit, nB_0, nB_1, nB_t, nB_f, Nat.zero_add, Nat.add_zero, Nat.reduceAdd, Nat.reduceMul, Nat.reduceSub, Nat.reducePow]
      refine ih _ ⟨by omega, fun i hi h1 h2 => ?_, fun j hj => ?_⟩
      · rw [jV_ne (by omega), jV_ne (by omega)]; exact u1 i hi h1 h2
      · by_cases hj2 : j = k
        · rw [hj2, s_burn_w hg hk, s_burn_l hg hk, s_bx_0 _ _ u0, s_bx_0 _ _ u0, jV_ne (by omega), jV_eq, show 54 + (6 * g + k) = 54 + 6 * g + k by omega, jV_eq]; exact ⟨rfl, rfl⟩
        · rw [jV_ne (by omega), jV_ne (by omega), jV_ne (by omega), jV_ne (by omega)]; exact u2 j (by omega)
    · obtain ⟨u0, u1, u2⟩ := hV
      show jW (F_Mod_burns_c94 (F_Mod_burns_l94 n2) ρ (nI g) (nI 6) (jz_I h (jU I ρ f2))) P
      unfold F_Mod_burns_c94
      simp (disch := omega) only [dI_R hL hρ, ↓reduceIte, ↓kq_bi, ↓kq_let, ↓kq_rz0, ↓kq_rz1, ↓kq_rzB, ↓Option.bind_some, kq_dvn, kt_lt, kf_lt, kt_eq, kf_eq, decide_true, decide_false, eq_self, Bool.false_eq_true, Bool.true_eq_false, not_true_eq_false, not_false_eq_true, jU_eq, jU_ne, jU_U, jV_eq, jV_ne, jV_V, kn_lit, kn_add, kn_mul, kn_sdm, kn_sub, kn_div, kn_nsdm, kn_lt, kn_eq, kn_pred, kn_m1, kn_m1', kn_a31, kn_shl, kn_shr, kn_bit, nB_0, nB_1, nB_t, nB_f, Nat.zero_add, Nat.add_zero, Nat.reduceAdd, Nat.reduceMul, Nat.reduceSub, Nat.reducePow]
      refine jW_s (hP _ ⟨jMR_U (fun k hk => ?_), fun a ha => jU_ne ha⟩)
      by_cases h1 : 6 * g ≤ k ∧ k < 6 * g + 6
      · have := (u2 (k - 6 * g) (by omega)).1
        rwa [show 6 * g + (k - 6 * g) = k by omega] at this
      · by_cases h2 : 54 + 6 * g ≤ k ∧ k < 54 + 6 * g + 6
        · have := (u2 (k - (54 + 6 * g)) (by omega)).2
          rwa [show 54 + (6 * g + (k - (54 + 6 * g))) = k by omega] at this
        · exact u1 k hk h1 h2
    · by_cases hi2 : i = 108 + g
      · rw [hi2, jV_eq, s_burn_n]
      · rw [jV_ne hi2, s_burn_out hi2 h1 h2]; exact v1 i hi h1 h2
    · rw [jV_ne (by omega), jV_ne (by omega), s_burn_w hg (by omega), s_burn_l hg (by omega)]; exact v3 j hj
theorem m_less {a b : Nat} (ha : a < 2147483648) (hb : b < 2147483648) (g : LH) : F_Mod_less (nI a) (nI b) g = some (nI (if a < b then a else b), g) := by
  unfold F_Mod_less
  by_cases hc : a < b
  · simp (disch := omega) only [hc, F_Mod_less_b10, ↓reduceIte, ↓kq_bi, ↓kq_let, ↓kq_rz0, ↓kq_rz1, ↓kq_rzB, ↓Option.bind_some, kq_dvn, kt_lt, kf_lt, kt_eq, kf_eq, decide_true, decide_false, eq_self, Bool.false_eq_true, Bool.true_eq_false, not_true_eq_false, not_false_eq_true, jU_eq, jU_ne, jU_U, jV_eq, jV_ne, jV_V, kn_lit, kn_add, kn_mul, kn_sdm, kn_sub, kn_div, kn_nsdm, kn_lt, kn_eq, kn_pred, kn_m1, kn_m1', kn_a31, kn_shl, kn_shr, kn_bit, nB_0, nB_1, nB_t, nB_f, Nat.zero_add, Nat.add_zero, Nat.reduceAdd, Nat.reduceMul, Nat.reduceSub, Nat.reducePow]
  · simp (disch := omega) only [hc, F_Mod_less_b10, ↓reduceIte, ↓kq_bi, ↓kq_let, ↓kq_rz0, ↓kq_rz1, ↓kq_rzB, ↓Option.bind_some, kq_dvn, kt_lt, kf_lt, kt_eq, kf_eq, decide_true, decide_false, eq_self, Bool.false_eq_true, Bool.true_eq_false, not_true_eq_false, not_false_eq_true, jU_eq, jU_ne, jU_U, jV_eq, jV_ne, jV_V, kn_lit, kn_add, kn_mul, kn_sdm, kn_sub, kn_div, kn_nsdm, kn_lt, kn_eq, kn_pred, kn_m1, kn_m1', kn_a31, kn_shl, kn_shr, kn_bit, nB_0, nB_1, nB_t, nB_f, Nat.zero_add, Nat.add_zero, Nat.reduceAdd, Nat.reduceMul, Nat.reduceSub, Nat.reducePow]
theorem m_more {a b : Nat} (ha : a < 2147483648) (hb : b < 2147483648) (g : LH) : F_Mod_more (nI a) (nI b) g = some (nI (if b < a then a else b), g) := by
  unfold F_Mod_more
  by_cases hc : b < a
  · simp (disch := omega) only [hc, F_Mod_more_b10, ↓reduceIte, ↓kq_bi, ↓kq_let, ↓kq_rz0, ↓kq_rz1, ↓kq_rzB, ↓Option.bind_some, kq_dvn, kt_lt, kf_lt, kt_eq, kf_eq, decide_true, decide_false, eq_self, Bool.false_eq_true, Bool.true_eq_false, not_true_eq_false, not_false_eq_true, jU_eq, jU_ne, jU_U, jV_eq, jV_ne, jV_V, kn_lit, kn_add, kn_mul, kn_sdm, kn_sub, kn_div, kn_nsdm, kn_lt, kn_eq, kn_pred, kn_m1, kn_m1', kn_a31, kn_shl, kn_shr, kn_bit, nB_0, nB_1, nB_t, nB_f, Nat.zero_add, Nat.add_zero, Nat.reduceAdd, Nat.reduceMul, Nat.reduceSub, Nat.reducePow]
  · simp (disch := omega) only [hc, F_Mod_more_b10, ↓reduceIte, ↓kq_bi, ↓kq_let, ↓kq_rz0, ↓kq_rz1, ↓kq_rzB, ↓Option.bind_some, kq_dvn, kt_lt, kf_lt, kt_eq, kf_eq, decide_true, decide_false, eq_self, Bool.false_eq_true, Bool.true_eq_false, not_true_eq_false, not_false_eq_true, jU_eq, jU_ne, jU_U, jV_eq, jV_ne, jV_V, kn_lit, kn_add, kn_mul, kn_sdm, kn_sub, kn_div, kn_nsdm, kn_lt, kn_eq, kn_pred, kn_m1, kn_m1', kn_a31, kn_shl, kn_shr, kn_bit, nB_0, nB_1, nB_t, nB_f, Nat.zero_add, Nat.add_zero, Nat.reduceAdd, Nat.reduceMul, Nat.reduceSub, Nat.reducePow]
theorem m_hourEnds (hL : jLay t u l m b c h) (hE : jME I τ ω d) (hρ : ρ = 691 ∨ ρ = 692) (hR : jMR I ρ r) (hr : jROK τ r) : ∃ J, F_Mod_hourEnds 205 ρ (jz_I h I) = some (jz_I h J) ∧ jMR J ρ (s_hour τ ω d r) ∧ jS3 ρ I J := by
  have hT := hE.1
  have ho := hE.2.1
  have o0 : τ 0 0 ≤ 9 := ho.1
  have o1 : τ 0 1 ≤ 6 := ho.2.1
  have o2 : τ 0 2 ≤ 10 := ho.2.2.1
  have hh : r 133 < 100000 := hr.2.2.2.2 133 (by omega)
  refine jE_n (fun P hP => ?_)
  unfold F_Mod_hourEnds
  simp (disch := omega) only [↓dK_205 hL, ↓dG_205 hL, ↓dP_205 hL, ↓dZ_205 hL (x := nI 0) (Or.inl rfl), ↓dZ_205 hL (x := nI 1) (Or.inr rfl), ↓dZ_205 hL (Or.inl rfl), ↓dZ_205 hL (Or.inr rfl), ↓dZ_205 hL (nB_01 _), ↓reduceIte, ↓kq_bi, ↓kq_let, ↓kq_rz0, ↓kq_rz1, ↓kq_rzB, ↓Option.bind_some, kq_dvn, kt_lt, kf_lt, kt_eq, kf_eq, decide_true, decide_false, eq_self, Bool.false_eq_true, Bool.true_eq_false, not_true_eq_false, not_false_eq_true, jU_eq, jU_ne, jU_U, jV_eq, jV_ne, jV_V, kn_lit, kn_add, kn_mul, kn_sdm, kn_sub, kn_div, kn_nsdm, kn_lt, kn_eq, kn_pred, kn_m1, kn_m1', kn_a31, kn_shl, kn_shr, kn_bit, nB_0, nB_1, nB_t, nB_f, Nat.zero_add, Nat.add_zero, Nat.reduceAdd, Nat.reduceMul, Nat.reduceSub, Nat.reducePow]
  refine jW_bi (m_shutBits hL hE hρ hR hr) (fun J0 hJ0 => ?_)
  have hb9 : s_bits (s_sh τ ω d r) (τ 0 0) < 2147483648 := Nat.lt_of_lt_of_le (s_bits_lt _ _) (Nat.le_trans (Nat.pow_le_pow_right (by omega) o0) (by decide))
  refine jW_for0 (f := fun fuel k (J : Nat → Nat → Int32) => F_Mod_hourEnds_l8 fuel 205 ρ (nI (s_bits (s_sh τ ω d r) (τ 0 0))) (nI k) (jz_I h J)) (τ 0 2) (fun k J => jMR J ρ (s_cm τ (s_sh τ ω d r) r k) ∧ jS3 ρ I J) J0 ⟨fun k hk => by rw [hJ0 ρ (by omega) (by omega)]; exact hR k hk, fun a x y _ => hJ0 a x y⟩ (by omega) (fun n k J hk hJ ih => ?_) (fun n J hJ => ?_)
  · obtain ⟨hR', hS⟩ := hJ
    have hT' : jMT J τ := (jME_S3 hρ hS hE).1
    have q133 : s_cm τ (s_sh τ ω d r) r k 133 = r 133 := s_cm_out k 133 (by omega) (by omega)
    have hq : s_cm τ (s_sh τ ω d r) r k 117 ≤ 99 := (s_cm_ok (p := s_sh τ ω d r) hr k (by omega)).2.2.1 0 (by omega)
    obtain ⟨c1, c2, c3⟩ := ho.2.2.2.2.2.2.2.2.2.2.1 k hk
    have hTc : ∀ (f : Nat → Int32) (j : Nat), j < 3 → jU J ρ f (241 + 1 + k) j = nI (τ (9 + j) k) := fun f j hj => by rw [jU_ne (by omega)]; exact hT'.2.2.2.2.2.1 k j hk hj
    have hT0 : ∀ (f : Nat → Int32) (j : Nat), j < 6 → jU J ρ f 209 j = nI (τ 0 j) := fun f j hj => by rw [jU_ne (by omega)]; exact hT'.1 j hj
    have hTc' : ∀ (j : Nat), j < 3 → J (241 + 1 + k) j = nI (τ (9 + j) k) := fun j hj => hT'.2.2.2.2.2.1 k j hk hj
    have hs := s_bits_has (s_sh τ ω d r) (n := τ 0 0) c1
    have ec : s_cm τ (s_sh τ ω d r) r (k + 1) = (if τ 10 k = r 133 then s_cm1 τ (s_sh τ ω d r (τ 9 k)) (s_cm τ (s_sh τ ω d r) r k) k else s_cm τ (s_sh τ ω d r) r k) := rfl
    show jW (F_Mod_hourEnds_c8 (F_Mod_hourEnds_l8 n) 205 ρ (nI (s_bits (s_sh τ ω d r) (τ 0 0))) (nI k) (jz_I h J)) P
    unfold F_Mod_hourEnds_c8
    by_cases hc : τ 10 k = r 133
    · rw [if_pos hc] at ec
      cases hb : s_sh τ ω d r (τ 9 k)
      · rw [hb] at hs ec
        have hs : s_bits (s_sh τ ω d r) (τ 0 0) / 2 ^ τ 9 k % 2 = 0 := hs
        by_cases hw : 0 < τ 0 1
        · have ec : s_cm τ (s_sh τ ω d r) r (k + 1) = nV (nV (s_cm τ (s_sh τ ω d r) r k) (123 + k) 1) 117 (if 99 < s_cm τ (s_sh τ ω d r) r k 117 + τ 11 k then 99 else s_cm τ (s_sh τ ω d r) r k 117 + τ 11 k) := by rw [ec]; unfold s_cm1; rw [if_neg (by decide), if_pos hw]
          simp (disch := omega) only [dI_R hL hρ, dS_R hL hρ, jMR_at hR', q133, hT'.1, hTc, hTc', hT0, hc, m_has, hs, show decide ((0 : Nat) = 1) = false from rfl, F_Mod_hourEnds_b66, F_Mod_hourEnds_b103, m_less, ↓dK_205 hL, ↓dG_205 hL, ↓dP_205 hL, ↓dZ_205 hL (x := nI 0) (Or.inl rfl), ↓dZ_205 hL (x := nI 1) (Or.inr rfl), ↓dZ_205 hL (Or.inl rfl), ↓dZ_205 hL (Or.inr rfl), ↓dZ_205 hL (nB_01 _), ↓dR_205_12 hL, dI_209 hL, dS_209 hL, ↓dR_205_22 hL, dA_241 hL, dI_242 hL, dS_242 hL, ↓reduceIte, ↓kq_bi, ↓kq_let, ↓kq_rz0, ↓kq_rz1, ↓kq_rzB, ↓Option.bind_some, kq_dvn, kt_lt, kf_lt, kt_eq, kf_eq, decide_true, decide_false, eq_self, Bool.false_eq_true, Bool.true_eq_false, not_true_eq_false, not_false_eq_true, jU_eq, jU_ne, jU_U, jV_eq, jV_ne, jV_V, kn_lit, kn_add, kn_mul, kn_sdm, kn_sub, kn_div, kn_nsdm, kn_lt, kn_eq, kn_pred, kn_m1, kn_m1', kn_a31, kn_shl, kn_shr, kn_bit, nB_0, nB_1, nB_t, nB_f, Nat.zero_add, Nat.add_zero, Nat.reduceAdd, Nat.reduceMul, Nat.reduceSub, Nat.reducePow]
          refine ih _ ⟨?_, jS3_trans hS (fun a _ _ ha => jU_ne ha)⟩
          rw [ec]
          exact jMR_U (jMV (jMV hR' rfl) rfl)
        · have hw0 : τ 0 1 = 0 := by omega
          have ec : s_cm τ (s_sh τ ω d r) r (k + 1) = nV (s_cm τ (s_sh τ ω d r) r k) (123 + k) 1 := by rw [ec]; unfold s_cm1; rw [if_neg (by decide), if_neg hw]
          simp (disch := omega) only [dI_R hL hρ, dS_R hL hρ, jMR_at hR', q133, hT'.1, hTc, hTc', hT0, hc, m_has, hs, hw0, show decide ((0 : Nat) = 1) = false from rfl, F_Mod_hourEnds_b66, F_Mod_hourEnds_b103, m_less, ↓dK_205 hL, ↓dG_205 hL, ↓dP_205 hL, ↓dZ_205 hL (x := nI 0) (Or.inl rfl), ↓dZ_205 hL (x := nI 1) (Or.inr rfl), ↓dZ_205 hL (Or.inl rfl), ↓dZ_205 hL (Or.inr rfl), ↓dZ_205 hL (nB_01 _), ↓dR_205_12 hL, dI_209 hL, dS_209 hL, ↓dR_205_22 hL, dA_241 hL, dI_242 hL, dS_242 hL, ↓reduceIte, ↓kq_bi, ↓kq_let, ↓kq_rz0, ↓kq_rz1, ↓kq_rzB, ↓Option.bind_some, kq_dvn, kt_lt, kf_lt, kt_eq, kf_eq, decide_true, decide_false, eq_self, Bool.false_eq_true, Bool.true_eq_false, not_true_eq_false, not_false_eq_true, jU_eq, jU_ne, jU_U, jV_eq, jV_ne, jV_V, kn_lit, kn_add, kn_mul, kn_sdm, kn_sub, kn_div, kn_nsdm, kn_lt, kn_eq, kn_pred, kn_m1, kn_m1', kn_a31, kn_shl, kn_shr, kn_bit, nB_0, nB_1, nB_t, nB_f, Nat.zero_add, Nat.add_zero, Nat.reduceAdd, Nat.reduceMul, Nat.reduceSub, Nat.reducePow]
          refine ih _ ⟨?_, jS3_trans hS (fun a _ _ ha => jU_ne ha)⟩
          rw [ec]
          exact jMR_U (jMV hR' rfl)
      · rw [hb] at hs ec
        have hs : s_bits (s_sh τ ω d r) (τ 0 0) / 2 ^ τ 9 k % 2 = 1 := hs
        have ec : s_cm τ (s_sh τ ω d r) r (k + 1) = nV (s_cm τ (s_sh τ ω d r) r k) (123 + k) 2 := by rw [ec]; unfold s_cm1; rw [if_pos rfl]
        simp (disch := omega) only [dI_R hL hρ, dS_R hL hρ, jMR_at hR', q133, hT'.1, hTc, hTc', hT0, hc, m_has, hs, decide_true, F_Mod_hourEnds_b66, F_Mod_hourEnds_b103, m_less, ↓dK_205 hL, ↓dG_205 hL, ↓dP_205 hL, ↓dZ_205 hL (x := nI 0) (Or.inl rfl), ↓dZ_205 hL (x := nI 1) (Or.inr rfl), ↓dZ_205 hL (Or.inl rfl), ↓dZ_205 hL (Or.inr rfl), ↓dZ_205 hL (nB_01 _), ↓dR_205_12 hL, dI_209 hL, dS_209 hL, ↓dR_205_22 hL, dA_241 hL, dI_242 hL, dS_242 hL, ↓reduceIte, ↓kq_bi, ↓kq_let, ↓kq_rz0, ↓kq_rz1, ↓kq_rzB, ↓Option.bind_some, kq_dvn, kt_lt, kf_lt, kt_eq, kf_eq, decide_true, decide_false, eq_self, Bool.false_eq_true, Bool.true_eq_false, not_true_eq_false, not_false_eq_true, jU_eq, jU_ne, jU_U, jV_eq, jV_ne, jV_V, kn_lit, kn_add, kn_mul, kn_sdm, kn_sub, kn_div, kn_nsdm, kn_lt, kn_eq, kn_pred, kn_m1, kn_m1', kn_a31, kn_shl, kn_shr, kn_bit, nB_0, nB_1, nB_t, nB_f, Nat.zero_add, Nat.add_zero, Nat.reduceAdd, Nat.reduceMul, Nat.reduceSub, Nat.reducePow]
        refine ih _ ⟨?_, jS3_trans hS (fun a _ _ ha => jU_ne ha)⟩
        rw [ec]
        exact jMR_U (jMV hR' rfl)
    · rw [if_neg hc] at ec
      simp (disch := omega) only [dI_R hL hρ, dS_R hL hρ, jMR_at hR', q133, hT'.1, hTc, hTc', F_Mod_hourEnds_b103, ↓dK_205 hL, ↓dG_205 hL, ↓dP_205 hL, ↓dZ_205 hL (x := nI 0) (Or.inl rfl), ↓dZ_205 hL (x := nI 1) (Or.inr rfl), ↓dZ_205 hL (Or.inl rfl), ↓dZ_205 hL (Or.inr rfl), ↓dZ_205 hL (nB_01 _), ↓dR_205_12 hL, dI_209 hL, dS_209 hL, ↓dR_205_22 hL, dA_241 hL, dI_242 hL, dS_242 hL, ↓reduceIte, ↓kq_bi, ↓kq_let, ↓kq_rz0, ↓kq_rz1, ↓kq_rzB, ↓Option.bind_some, kq_dvn, kt_lt, kf_lt, kt_eq, kf_eq, decide_true, decide_false, eq_self, Bool.false_eq_true, Bool.true_eq_false, not_true_eq_false, not_false_eq_true, jU_eq, jU_ne, jU_U, jV_eq, jV_ne, jV_V, kn_lit, kn_add, kn_mul, kn_sdm, kn_sub, kn_div, kn_nsdm, kn_lt, kn_eq, kn_pred, kn_m1, kn_m1', kn_a31, kn_shl, kn_shr, kn_bit, nB_0, nB_1, nB_t, nB_f, Nat.zero_add, Nat.add_zero, Nat.reduceAdd, Nat.reduceMul, Nat.reduceSub, Nat.reducePow]
      exact ih _ ⟨by rw [ec]; exact hR', hS⟩
  · obtain ⟨hR', hS⟩ := hJ
    have hT' : jMT J τ := (jME_S3 hρ hS hE).1
    show jW (F_Mod_hourEnds_c8 (F_Mod_hourEnds_l8 n) 205 ρ (nI (s_bits (s_sh τ ω d r) (τ 0 0))) (nI (τ 0 2)) (jz_I h J)) P
    unfold F_Mod_hourEnds_c8
    simp (disch := omega) only [hT'.1, ↓dK_205 hL, ↓dG_205 hL, ↓dP_205 hL, ↓dZ_205 hL (x := nI 0) (Or.inl rfl), ↓dZ_205 hL (x := nI 1) (Or.inr rfl), ↓dZ_205 hL (Or.inl rfl), ↓dZ_205 hL (Or.inr rfl), ↓dZ_205 hL (nB_01 _), ↓dR_205_12 hL, dI_209 hL, dS_209 hL, ↓reduceIte, ↓kq_bi, ↓kq_let, ↓kq_rz0, ↓kq_rz1, ↓kq_rzB, ↓Option.bind_some, kq_dvn, kt_lt, kf_lt, kt_eq, kf_eq, decide_true, decide_false, eq_self, Bool.false_eq_true, Bool.true_eq_false, not_true_eq_false, not_false_eq_true, jU_eq, jU_ne, jU_U, jV_eq, jV_ne, jV_V, kn_lit, kn_add, kn_mul, kn_sdm, kn_sub, kn_div, kn_nsdm, kn_lt, kn_eq, kn_pred, kn_m1, kn_m1', kn_a31, kn_shl, kn_shr, kn_bit, nB_0, nB_1, nB_t, nB_f, Nat.zero_add, Nat.add_zero, Nat.reduceAdd, Nat.reduceMul, Nat.reduceSub, Nat.reducePow]
    have hq := s_cm_ok (p := s_sh τ ω d r) hr (τ 0 2) o2
    refine jW_for0 (f := fun fuel k (J : Nat → Nat → Int32) => F_Mod_hourEnds_l111 fuel 205 ρ (nI k) (jz_I h J)) (τ 0 0) (fun k J => jMR J ρ (s_burns (s_cm τ (s_sh τ ω d r) r (τ 0 2)) k) ∧ jS3 ρ I J) J ⟨hR', hS⟩ (by omega) (fun n k J hk hJ ih => ?_) (fun n J hJ => ?_)
    · obtain ⟨hR', hS⟩ := hJ
      have hT' : jMT J τ := (jME_S3 hρ hS hE).1
      show jW (F_Mod_hourEnds_c111 (F_Mod_hourEnds_l111 n) 205 ρ (nI k) (jz_I h J)) P
      unfold F_Mod_hourEnds_c111
      simp (disch := omega) only [hT'.1, ↓dK_205 hL, ↓dG_205 hL, ↓dP_205 hL, ↓dZ_205 hL (x := nI 0) (Or.inl rfl), ↓dZ_205 hL (x := nI 1) (Or.inr rfl), ↓dZ_205 hL (Or.inl rfl), ↓dZ_205 hL (Or.inr rfl), ↓dZ_205 hL (nB_01 _), ↓dR_205_12 hL, dI_209 hL, dS_209 hL, ↓reduceIte, ↓kq_bi, ↓kq_let, ↓kq_rz0, ↓kq_rz1, ↓kq_rzB, ↓Option.bind_some, kq_dvn, kt_lt, kf_lt, kt_eq, kf_eq, decide_true, decide_false, eq_self, Bool.false_eq_true, Bool.true_eq_false, not_true_eq_false, not_false_eq_true, jU_eq, jU_ne, jU_U, jV_eq, jV_ne, jV_V, kn_lit, kn_add, kn_mul, kn_sdm, kn_sub, kn_div, kn_nsdm, kn_lt, kn_eq, kn_pred, kn_m1, kn_m1', kn_a31, kn_shl, kn_shr, kn_bit, nB_0, nB_1, nB_t, nB_f, Nat.zero_add, Nat.add_zero, Nat.reduceAdd, Nat.reduceMul, Nat.reduceSub, Nat.reducePow]
      refine jW_bn (m_burns hL hρ hR' (s_burns_ok hq k (by omega)) (by omega)) (fun J2 hJ2 => ?_)
      exact ih _ ⟨hJ2.1, jS3_trans hS (fun a _ _ ha => hJ2.2 a ha)⟩
    · obtain ⟨hR', hS⟩ := hJ
      have hT' : jMT J τ := (jME_S3 hρ hS hE).1
      have q133 : s_burns (s_cm τ (s_sh τ ω d r) r (τ 0 2)) (τ 0 0) 133 = r 133 := by rw [s_burns_hi _ _ o0 (by omega), s_cm_out _ _ (by omega) (by omega)]
      show jW (F_Mod_hourEnds_c111 (F_Mod_hourEnds_l111 n) 205 ρ (nI (τ 0 0)) (jz_I h J)) P
      unfold F_Mod_hourEnds_c111
      simp (disch := omega) only [hT'.1, dI_R hL hρ, dS_R hL hρ, jMR_at hR', q133, ↓dK_205 hL, ↓dG_205 hL, ↓dP_205 hL, ↓dZ_205 hL (x := nI 0) (Or.inl rfl), ↓dZ_205 hL (x := nI 1) (Or.inr rfl), ↓dZ_205 hL (Or.inl rfl), ↓dZ_205 hL (Or.inr rfl), ↓dZ_205 hL (nB_01 _), ↓dR_205_12 hL, dI_209 hL, dS_209 hL, ↓reduceIte, ↓kq_bi, ↓kq_let, ↓kq_rz0, ↓kq_rz1, ↓kq_rzB, ↓Option.bind_some, kq_dvn, kt_lt, kf_lt, kt_eq, kf_eq, decide_true, decide_false, eq_self, Bool.false_eq_true, Bool.true_eq_false, not_true_eq_false, not_false_eq_true, jU_eq, jU_ne, jU_U, jV_eq, jV_ne, jV_V, kn_lit, kn_add, kn_mul, kn_sdm, kn_sub, kn_div, kn_nsdm, kn_lt, kn_eq, kn_pred, kn_m1, kn_m1', kn_a31, kn_shl, kn_shr, kn_bit, nB_0, nB_1, nB_t, nB_f, Nat.zero_add, Nat.add_zero, Nat.reduceAdd, Nat.reduceMul, Nat.reduceSub, Nat.reducePow]
      exact jW_s (hP _ ⟨jMR_U (jMV hR' rfl), jS3_trans hS (fun a _ _ ha => jU_ne ha)⟩)
/-- a row copied: both rows and where they lie are free -/
theorem m_copies {a b : Nat} (ha : jl_kd h a = 20) (hal : jl_ln h a = 134) (hb : jl_kd h b = 20) (hbl : jl_ln h b = 134) (hb6 : 64 ≤ b) (hab : ¬ a = b) : ∃ J, F_Mod_copies a b (jz_I h I) = some (jz_I h J) ∧ (∀ k, k < 134 → J b k = I a k) ∧ ∀ x, ¬ x = b → J x = I x := by
  refine jE_n (fun P hP => ?_)
  unfold F_Mod_copies
  refine (jU_id (I := I) (a := b)) ▸ jW_for0 (f := fun fuel k (f : Nat → Int32) => F_Mod_copies_l2 fuel a b (nI k) (jz_I h (jU I b f))) 134 (fun k f => ∀ j, j < k → f j = I a j) (I b) (fun j hj => absurd hj (Nat.not_lt_zero j)) (by omega) (fun n k f hk hV ih => ?_) (fun n f hV => ?_)
  · show jW (F_Mod_copies_c2 (F_Mod_copies_l2 n) a b (nI k) (jz_I h (jU I b f))) P
    unfold F_Mod_copies_c2
    have r1 : ∀ {I : Nat → Nat → Int32} {K : Int32 → Option LH}, jf_ia (jz_I h I) a (nI k) K = K (I a k) := kq_ia ha (by omega) (by omega)
    have r2 : ∀ {I : Nat → Nat → Int32} {x : Int32} {K : LH → Option LH}, jf_is (jz_I h I) b (nI k) x K = K (jz_I h (jU I b (jV (I b) k x))) := kq_is hb hb6 (by omega) (by omega)
    simp (disch := omega) only [r1, r2, ↓reduceIte, ↓kq_bi, ↓kq_let, ↓kq_rz0, ↓kq_rz1, ↓kq_rzB, ↓Option.bind_some, kq_dvn, kt_lt, kf_lt, kt_eq, kf_eq, decide_true, decide_false, eq_self, Bool.false_eq_true, Bool.true_eq_false, not_true_eq_false, not_false_eq_true, jU_eq, jU_ne, jU_U, jV_eq, jV_ne, jV_V, kn_lit, kn_add, kn_mul, kn_sdm, kn_sub, kn_div, kn_nsdm, kn_lt, kn_eq, kn_pred, kn_m1, kn_m1', kn_a31, kn_shl, kn_shr, kn_bit, nB_0, nB_1, nB_t, nB_f, Nat.zero_add, Nat.add_zero, Nat.reduceAdd, Nat.reduceMul, Nat.reduceSub, Nat.reducePow]
    refine ih _ (fun j hj => ?_)
    by_cases hj2 : j = k
    · rw [hj2, jV_eq]
    · rw [jV_ne hj2]; exact hV j (by omega)
  · show jW (F_Mod_copies_c2 (F_Mod_copies_l2 n) a b (nI 134) (jz_I h (jU I b f))) P
    unfold F_Mod_copies_c2
    simp (disch := omega) only [↓reduceIte, ↓kq_bi, ↓kq_let, ↓kq_rz0, ↓kq_rz1, ↓kq_rzB, ↓Option.bind_some, kq_dvn, kt_lt, kf_lt, kt_eq, kf_eq, decide_true, decide_false, eq_self, Bool.false_eq_true, Bool.true_eq_false, not_true_eq_false, not_false_eq_true, jU_eq, jU_ne, jU_U, jV_eq, jV_ne, jV_V, kn_lit, kn_add, kn_mul, kn_sdm, kn_sub, kn_div, kn_nsdm, kn_lt, kn_eq, kn_pred, kn_m1, kn_m1', kn_a31, kn_shl, kn_shr, kn_bit, nB_0, nB_1, nB_t, nB_f, Nat.zero_add, Nat.add_zero, Nat.reduceAdd, Nat.reduceMul, Nat.reduceSub, Nat.reducePow]
    exact jW_s (hP _ ⟨fun k hk => by rw [jU_eq]; exact hV k hk, fun x hx => jU_ne hx⟩)
theorem m_tries (hL : jLay t u l m b c h) (hR : jMR I 691 r) : ∃ J, F_Mod_tries 205 (jz_I h I) = some (jz_I h J) ∧ jMR J 692 r ∧ J 205 44 = nB false ∧ (∀ k, ¬ k = 44 → J 205 k = I 205 k) ∧ ∀ a, ¬ a = 692 → ¬ a = 205 → J a = I a := by
  refine jE_n (fun P hP => ?_)
  unfold F_Mod_tries
  simp (disch := omega) only [↓dK_205 hL, ↓dG_205 hL, ↓dP_205 hL, ↓dZ_205 hL (x := nI 0) (Or.inl rfl), ↓dZ_205 hL (x := nI 1) (Or.inr rfl), ↓dZ_205 hL (Or.inl rfl), ↓dZ_205 hL (Or.inr rfl), ↓dZ_205 hL (nB_01 _), ↓dR_205_35 hL, dI_691 hL, dS_691 hL, ↓dR_205_36 hL, dI_692 hL, dS_692 hL, ↓reduceIte, ↓kq_bi, ↓kq_let, ↓kq_rz0, ↓kq_rz1, ↓kq_rzB, ↓Option.bind_some, kq_dvn, kt_lt, kf_lt, kt_eq, kf_eq, decide_true, decide_false, eq_self, Bool.false_eq_true, Bool.true_eq_false, not_true_eq_false, not_false_eq_true, jU_eq, jU_ne, jU_U, jV_eq, jV_ne, jV_V, kn_lit, kn_add, kn_mul, kn_sdm, kn_sub, kn_div, kn_nsdm, kn_lt, kn_eq, kn_pred, kn_m1, kn_m1', kn_a31, kn_shl, kn_shr, kn_bit, nB_0, nB_1, nB_t, nB_f, Nat.zero_add, Nat.add_zero, Nat.reduceAdd, Nat.reduceMul, Nat.reduceSub, Nat.reducePow]
  refine jW_bn (m_copies (lk_691 hL) (ll_691 hL) (lk_692 hL) (ll_692 hL) (by omega) (by omega)) (fun J hJ => ?_)
  simp (disch := omega) only [↓dK_205 hL, ↓dG_205 hL, ↓dP_205 hL, ↓dZ_205 hL (x := nI 0) (Or.inl rfl), ↓dZ_205 hL (x := nI 1) (Or.inr rfl), ↓dZ_205 hL (Or.inl rfl), ↓dZ_205 hL (Or.inr rfl), ↓dZ_205 hL (nB_01 _), ↓dR_205_35 hL, dI_691 hL, dS_691 hL, ↓dR_205_36 hL, dI_692 hL, dS_692 hL, ↓reduceIte, ↓kq_bi, ↓kq_let, ↓kq_rz0, ↓kq_rz1, ↓kq_rzB, ↓Option.bind_some, kq_dvn, kt_lt, kf_lt, kt_eq, kf_eq, decide_true, decide_false, eq_self, Bool.false_eq_true, Bool.true_eq_false, not_true_eq_false, not_false_eq_true, jU_eq, jU_ne, jU_U, jV_eq, jV_ne, jV_V, kn_lit, kn_add, kn_mul, kn_sdm, kn_sub, kn_div, kn_nsdm, kn_lt, kn_eq, kn_pred, kn_m1, kn_m1', kn_a31, kn_shl, kn_shr, kn_bit, nB_0, nB_1, nB_t, nB_f, Nat.zero_add, Nat.add_zero, Nat.reduceAdd, Nat.reduceMul, Nat.reduceSub, Nat.reducePow]
  exact jW_s (hP _ ⟨fun k hk => by rw [jU_ne (by omega), hJ.1 k hk]; exact hR k hk, by rw [jU_eq, jV_eq]; rfl, fun k hk => by rw [jU_eq, jV_ne hk, hJ.2 205 (by omega)], fun a h1 h2 => by rw [jU_ne h2]; exact hJ.2 a h1⟩)
end

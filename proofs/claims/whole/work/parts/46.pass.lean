/-! PLAIN LEAN, 12: the class: an hour goes by -/
section
variable {t u l m b c : Nat} {h : LH} {I J K : Nat → Nat → Int32} {τ : JTn} {r q : JRw} {σ i : Nat} {Q : Type} {x : Int32} {d : Bool} {ω : JLw} {f : Nat → Int32}
/-- the class's row while a fire burns down -/
def jBC (r : JRw) (g k : Nat) (f0 f : Nat → Int32) : Prop := (∀ i, ¬ (26 + 6 * g ≤ i ∧ i < 26 + 6 * g + 6) → ¬ (80 + 6 * g ≤ i ∧ i < 80 + 6 * g + 6) → f i = f0 i) ∧ (∀ j, k ≤ j → j < r (108 + g) → f (26 + (6 * g + j)) = nI (r (6 * g + j)) ∧ f (80 + (6 * g + j)) = nI (r (54 + (6 * g + j)))) ∧ (∀ j, j < s_bn r g k → f (26 + (6 * g + j)) = nI (s_bx r g (fun k => r (6 * g + k)) k j) ∧ f (80 + (6 * g + j)) = nI (s_bx r g (fun k => r (54 + (6 * g + k)) - 1) k j))
theorem c_burnDown (hL : jLay t u l m b c h) (hσ : σ = 85 ∨ σ = 90) (hR : jCR I (σ + 1) r) (hr : jROK τ r) {g : Nat} (hg : g < 9) : ∃ J, F_Scene_burnDown σ (nI g) (jz_I h I) = some (jz_I h J) ∧ jCR J (σ + 1) (s_burn r g) ∧ ∀ a, ¬ a = σ + 1 → J a = I a := by
  have b1 := hr.1 g hg
  obtain ⟨a1, a2, a3, a4, a5⟩ := hR
  refine jE_n (fun P hP => ?_)
  unfold F_Scene_burnDown
  simp (disch := omega) only [↓reduceIte, ↓kq_bi, ↓kq_let, ↓kq_rz0, ↓kq_rz1, ↓kq_rzB, ↓Option.bind_some, kq_dvn, kt_lt, kf_lt, kt_eq, kf_eq, decide_true, decide_false, eq_self, Bool.false_eq_true, Bool.true_eq_false, not_true_eq_false, not_false_eq_true, jU_eq, jU_ne, jU_U, jV_eq, jV_ne, jV_V, kn_lit, kn_add, kn_mul, kn_sdm, kn_sub, kn_div, kn_nsdm, kn_lt, kn_eq, kn_pred, kn_m1, kn_m1', kn_a31, kn_shl, kn_shr, kn_bit, nB_0, nB_1, nB_t, nB_f, Nat.zero_add, Nat.add_zero, Nat.reduceAdd, Nat.reduceMul, Nat.reduceSub, Nat.reducePow]
  refine (jU_id (I := I) (a := σ + 1)) ▸ jW_for0 (f := fun fuel k (f : Nat → Int32) => F_Scene_burnDown_l10 fuel σ (nI g) (nI (g * 6)) (nI (s_bn r g k)) (nI k) (jz_I h (jU I (σ + 1) f))) (r (108 + g)) (fun k f => jBC r g k (I (σ + 1)) f) (I (σ + 1)) ⟨fun _ _ _ => rfl, fun j _ hj => a5 g j hg hj, fun j hj => absurd hj (Nat.not_lt_zero j)⟩ (by omega) (fun n k f hk hV ih => ?_) (fun n f hV => ?_)
  · obtain ⟨v1, v2, v3⟩ := hV
    have e1 : f (17 + g) = nI (r (108 + g)) := by rw [v1 _ (by omega) (by omega)]; exact a4 g hg
    obtain ⟨e2, e3⟩ := v2 k (Nat.le_refl k) hk
    rw [show 26 + (6 * g + k) = 26 + g * 6 + k by omega] at e2
    rw [show 80 + (6 * g + k) = 80 + g * 6 + k by omega] at e3
    obtain ⟨-, w1, w2⟩ := hr.2.1 g k hg hk
    have bn := s_bn_le (r := r) (g := g) k
    show jW (F_Scene_burnDown_c10 (F_Scene_burnDown_l10 n) σ (nI g) (nI (g * 6)) (nI (s_bn r g k)) (nI k) (jz_I h (jU I (σ + 1) f))) P
    unfold F_Scene_burnDown_c10
    have en : s_bn r g (k + 1) = s_bn r g k + (if 1 < r (54 + (6 * g + k)) then 1 else 0) := rfl
    have ex : ∀ v : Nat → Nat, s_bx r g v (k + 1) = (if 1 < r (54 + (6 * g + k)) then nV (s_bx r g v k) (s_bn r g k) (v k) else s_bx r g v k) := fun v => rfl
    by_cases hc : 1 < r (54 + (6 * g + k))
    · rw [if_pos hc] at en
      simp (disch := omega) only [F_Scene_burning, F_Scene_leftOf, F_Scene_woodOf, e1, e2, e3, F_Scene_burnDown_b70, ↓dK_S hL hσ, ↓dG_S hL hσ, ↓dP_S hL hσ, ↓dZ_S hL hσ (x := nI 0) (Or.inl rfl), ↓dZ_S hL hσ (x := nI 1) (Or.inr rfl), ↓dZ_S hL hσ (Or.inl rfl), ↓dZ_S hL hσ (Or.inr rfl), ↓dZ_S hL hσ (nB_01 _), ↓dR_S_1 hL hσ, ↓dR_S_2 hL hσ, ↓dR_S_0 hL hσ, dI_S1 hL hσ, dS_S1 hL hσ, ↓reduceIte, ↓kq_bi, ↓kq_let, ↓kq_rz0, ↓kq_rz1, ↓kq_rzB, ↓Option.bind_some, kq_dvn, kt_lt, kf_lt, kt_eq, kf_eq, decide_true, decide_false, eq_self, Bool.false_eq_true, Bool.true_eq_false, not_true_eq_false, not_false_eq_true, jU_eq, jU_ne, jU_U, jV_eq, jV_ne, jV_V, kn_lit, kn_add, kn_mul, kn_sdm, kn_sub, kn_div, kn_nsdm, kn_lt, kn_eq, kn_pred, kn_m1, kn_m1', kn_a31, kn_shl, kn_shr, kn_bit, nB_0, nB_1, nB_t, nB_f, Nat.zero_add, Nat.add_zero, Nat.reduceAdd, Nat.reduceMul, Nat.reduceSub, Nat.reducePow]
      rw [← en]
      refine ih _ ⟨fun i h1 h2 => ?_, fun j hj hj6 => ?_, fun j hj => ?_⟩
      · rw [jV_ne (by omega), jV_ne (by omega)]; exact v1 i h1 h2
      · rw [jV_ne (by omega), jV_ne (by omega), jV_ne (by omega), jV_ne (by omega)]; exact v2 j (by omega) hj6
      · rw [ex, ex, if_pos hc, if_pos hc]
        rw [en] at hj
        by_cases hj2 : j = s_bn r g k
        · rw [hj2, show 26 + (6 * g + s_bn r g k) = 26 + g * 6 + s_bn r g k by omega, show 80 + (6 * g + s_bn r g k) = 80 + g * 6 + s_bn r g k by omega, jV_ne (by omega), jV_eq, jV_eq, nV_eq, nV_eq]; exact ⟨rfl, rfl⟩
        · rw [jV_ne (by omega), jV_ne (by omega), jV_ne (by omega), jV_ne (by omega), nV_ne hj2, nV_ne hj2]; exact v3 j (by omega)
    · rw [if_neg hc] at en
      simp (disch := omega) only [F_Scene_burning, F_Scene_leftOf, F_Scene_woodOf, e1, e2, e3, F_Scene_burnDown_b70, ↓dK_S hL hσ, ↓dG_S hL hσ, ↓dP_S hL hσ, ↓dZ_S hL hσ (x := nI 0) (Or.inl rfl), ↓dZ_S hL hσ (x := nI 1) (Or.inr rfl), ↓dZ_S hL hσ (Or.inl rfl), ↓dZ_S hL hσ (Or.inr rfl), ↓dZ_S hL hσ (nB_01 _), ↓dR_S_1 hL hσ, ↓dR_S_2 hL hσ, ↓dR_S_0 hL hσ, dI_S1 hL hσ, dS_S1 hL hσ, ↓reduceIte, ↓kq_bi, ↓kq_let, ↓kq_rz0, ↓kq_rz1, ↓kq_rzB, ↓Option.bind_some, kq_dvn, kt_lt, kf_lt, kt_eq, kf_eq, decide_true, decide_false, eq_self, Bool.false_eq_true, Bool.true_eq_false, not_true_eq_false, not_false_eq_true, jU_eq, jU_ne, jU_U, jV_eq, jV_ne, jV_V, kn_lit, kn_add, kn_mul, kn_sdm, kn_sub, kn_div, kn_nsdm, kn_lt, kn_eq, kn_pred, kn_m1, kn_m1', kn_a31, kn_shl, kn_shr, kn_bit, nB_0, nB_1, nB_t, nB_f, Nat.zero_add, Nat.add_zero, Nat.reduceAdd, Nat.reduceMul, Nat.reduceSub, Nat.reducePow]
      rw [show s_bn r g k = s_bn r g (k + 1) from by rw [en]; rfl]
      refine ih _ ⟨v1, fun j hj hj6 => v2 j (by omega) hj6, fun j hj => ?_⟩
      rw [ex, ex, if_neg hc, if_neg hc]
      exact v3 j (by omega)
  · obtain ⟨v1, v2, v3⟩ := hV
    have e1 : f (17 + g) = nI (r (108 + g)) := by rw [v1 _ (by omega) (by omega)]; exact a4 g hg
    have bn := s_bn_le (r := r) (g := g) (r (108 + g))
    show jW (F_Scene_burnDown_c10 (F_Scene_burnDown_l10 n) σ (nI g) (nI (g * 6)) (nI (s_bn r g (r (108 + g)))) (nI (r (108 + g))) (jz_I h (jU I (σ + 1) f))) P
    unfold F_Scene_burnDown_c10
    simp (disch := omega) only [F_Scene_burning, e1, ↓dK_S hL hσ, ↓dG_S hL hσ, ↓dP_S hL hσ, ↓dZ_S hL hσ (x := nI 0) (Or.inl rfl), ↓dZ_S hL hσ (x := nI 1) (Or.inr rfl), ↓dZ_S hL hσ (Or.inl rfl), ↓dZ_S hL hσ (Or.inr rfl), ↓dZ_S hL hσ (nB_01 _), ↓dR_S_1 hL hσ, ↓dR_S_2 hL hσ, ↓dR_S_0 hL hσ, dI_S1 hL hσ, dS_S1 hL hσ, ↓reduceIte, ↓kq_bi, ↓kq_let, ↓kq_rz0, ↓kq_rz1, ↓kq_rzB, ↓Option.bind_some, kq_dvn, kt_lt, kf_lt, kt_eq, kf_eq, decide_true, decide_false, eq_self, Bool.false_eq_true, Bool.true_eq_false, not_true_eq_false, not_false_eq_true, jU_eq, jU_ne, jU_U, jV_eq, jV_ne, jV_V, kn_lit, kn_add, kn_mul, kn_sdm, kn_sub, kn_div, kn_nsdm, kn_lt, kn_eq, kn_pred, kn_m1, kn_m1', kn_a31, kn_shl, kn_shr, kn_bit, nB_0, nB_1, nB_t, nB_f, Nat.zero_add, Nat.add_zero, Nat.reduceAdd, Nat.reduceMul, Nat.reduceSub, Nat.reducePow]
    refine jW_s (hP _ ⟨jCR_U ⟨?_, fun x hx => ?_, fun x hx => ?_, fun x hx => ?_, fun x k hx hk => ?_⟩, fun a ha => jU_ne ha⟩)
    all_goals try dsimp only
    · rw [jV_ne (by omega), s_burn_out (by omega) (by omega) (by omega), v1 _ (by omega) (by omega)]; exact a1
    · rw [jV_ne (by omega), s_burn_out (by omega) (by omega) (by omega), v1 _ (by omega) (by omega)]; exact a2 x hx
    · rw [jV_ne (by omega), s_burn_out (by omega) (by omega) (by omega), v1 _ (by omega) (by omega)]; exact a3 x hx
    · by_cases hxg : x = g
      · subst hxg; rw [jV_eq, s_burn_n]
      · rw [jV_ne (by omega), s_burn_out (by omega) (by omega) (by omega), v1 _ (by omega) (by omega)]; exact a4 x hx
    · have b1x := hr.1 x hx
      by_cases hxg : x = g
      · subst hxg
        rw [s_burn_n] at hk
        rw [jV_ne (by omega), jV_ne (by omega), s_burn_w hx (by omega), s_burn_l hx (by omega)]
        exact v3 k hk
      · rw [s_burn_out (by omega) (by omega) (by omega)] at hk
        rw [jV_ne (by omega), jV_ne (by omega), s_burn_out (by omega) (by omega) (by omega), s_burn_out (by omega) (by omega) (by omega), v1 _ (by omega) (by omega), v1 _ (by omega) (by omega)]
        exact a5 x k hx hk
theorem s_cm_ag {p : Nat → Bool} {n : Nat} (hn : n ≤ 10) : jAg r (s_cm τ p r n) := fun i hi => s_cm_out n i (by omega) (by omega)
theorem c_cm_row {p : Bool} {k : Nat} (hk : k < 10) (hr : jROK τ q) (hR : jCR (fun _ => f) 0 q) {v1 v2 : Nat} (h1 : v1 = s_cm1 τ p q k (123 + k)) (h2 : v2 = s_cm1 τ p q k 117) : jCR (fun _ => jV (jV f (7 + k) (nI v1)) 1 (nI v2)) 0 (s_cm1 τ p q k) := by
  subst h1 h2
  obtain ⟨a1, a2, a3, a4, a5⟩ := hR
  refine ⟨?_, fun x hx => ?_, fun x hx => ?_, fun x hx => ?_, fun x j hx hj => ?_⟩
  all_goals try dsimp only
  · rw [jV_ne (by omega), jV_ne (by omega), s_cm1_out (by omega) (by omega)]; exact a1
  · by_cases hx0 : x = 0
    · subst hx0; rw [show 1 + 0 = 1 from rfl, jV_eq]
    · rw [jV_ne (by omega), jV_ne (by omega), s_cm1_out (by omega) (by omega)]; exact a2 x hx
  · by_cases hxk : x = k
    · subst hxk; rw [jV_ne (by omega), jV_eq]
    · rw [jV_ne (by omega), jV_ne (by omega), s_cm1_out (by omega) (by omega)]; exact a3 x hx
  · rw [jV_ne (by omega), jV_ne (by omega), s_cm1_out (by omega) (by omega)]; exact a4 x hx
  · have b := hr.1 x hx
    rw [s_cm1_out (by omega) (by omega)] at hj
    rw [jV_ne (by omega), jV_ne (by omega), jV_ne (by omega), jV_ne (by omega), s_cm1_out (by omega) (by omega), s_cm1_out (by omega) (by omega)]
    exact a5 x j hx hj
theorem jV_id {k : Nat} : jV f k (f k) = f := by
  funext j
  unfold jV
  split
  · subst_vars; rfl
  · rfl
theorem c_pass (hL : jLay t u l m b c h) (hE : jCE I t l τ ω) (hσ : σ = 85 ∨ σ = 90) (hS : jCS I σ τ d r) (hr : jROK τ r) : ∃ J, F_Scene_pass σ (jz_I h I) = some (jz_I h J) ∧ jCS J σ τ false (s_hour τ ω d r) ∧ jSc l σ I J := by
  have ht := jLay_t hL
  have hl := jLay_l hL
  have ho := hE.2.1
  have o0 : τ 0 0 ≤ 9 := ho.1
  have o1 : τ 0 1 ≤ 6 := ho.2.1
  have o2 : τ 0 2 ≤ 10 := ho.2.2.1
  have hh : r 133 < 100000 := hr.2.2.2.2 133 (by omega)
  refine jE_n (fun P hP => ?_)
  unfold F_Scene_pass
  refine jW_for0 (f := fun fuel k (J : Nat → Nat → Int32) => F_Scene_pass_l2 fuel σ (nI k) (jz_I h J)) (τ 0 2) (fun k J => jCS J σ τ d (s_cm τ (s_sh τ ω d r) r k) ∧ jSc l σ I J) I ⟨hS, jSc_refl⟩ (by omega) (fun n k J hk hJ ih => ?_) (fun n J hJ => ?_)
  · obtain ⟨hS', hSc⟩ := hJ
    have hE' := jCE_Sc hL hσ hSc hE
    have q133 : s_cm τ (s_sh τ ω d r) r k 133 = r 133 := s_cm_out k 133 (by omega) (by omega)
    have hqr := s_cm_ok (p := s_sh τ ω d r) hr k (by omega)
    have hq : s_cm τ (s_sh τ ω d r) r k 117 ≤ 99 := hqr.2.2.1 0 (by omega)
    obtain ⟨c1, c2, c3⟩ := ho.2.2.2.2.2.2.2.2.2.2.1 k hk
    have ec : s_cm τ (s_sh τ ω d r) r (k + 1) = (if τ 10 k = r 133 then s_cm1 τ (s_sh τ ω d r (τ 9 k)) (s_cm τ (s_sh τ ω d r) r k) k else s_cm τ (s_sh τ ω d r) r k) := rfl
    have hag : jAg r (s_cm τ (s_sh τ ω d r) r k) := s_cm_ag (by omega)
    show jW (F_Scene_pass_c2 (F_Scene_pass_l2 n) σ (nI k) (jz_I h J)) P
    unfold F_Scene_pass_c2
    by_cases hc : τ 10 k = r 133
    · rw [if_pos hc] at ec
      simp (disch := omega) only [cT_f4 hE'.1, cT_a10 hE'.1, cT_a9 hE'.1, c_hourNow hL hσ hS'.1, q133, hc, ↓dK_S hL hσ, ↓dG_S hL hσ, ↓dP_S hL hσ, ↓dZ_S hL hσ (x := nI 0) (Or.inl rfl), ↓dZ_S hL hσ (x := nI 1) (Or.inr rfl), ↓dZ_S hL hσ (Or.inl rfl), ↓dZ_S hL hσ (Or.inr rfl), ↓dZ_S hL hσ (nB_01 _), ↓dR_S_1 hL hσ, ↓dR_S_2 hL hσ, ↓dR_S_0 hL hσ, dI_S1 hL hσ, dS_S1 hL hσ, ↓dK_T hL ht, ↓dG_T hL ht, ↓dP_T hL ht, ↓dR_T_15 hL ht, dI_T10 hL ht, dS_T10 hL ht, ↓dR_T_14 hL ht, dI_T9 hL ht, dS_T9 hL ht, ↓reduceIte, ↓kq_bi, ↓kq_let, ↓kq_rz0, ↓kq_rz1, ↓kq_rzB, ↓Option.bind_some, kq_dvn, kt_lt, kf_lt, kt_eq, kf_eq, decide_true, decide_false, eq_self, Bool.false_eq_true, Bool.true_eq_false, not_true_eq_false, not_false_eq_true, jU_eq, jU_ne, jU_U, jV_eq, jV_ne, jV_V, kn_lit, kn_add, kn_mul, kn_sdm, kn_sub, kn_div, kn_nsdm, kn_lt, kn_eq, kn_pred, kn_m1, kn_m1', kn_a31, kn_shl, kn_shr, kn_bit, nB_0, nB_1, nB_t, nB_f, Nat.zero_add, Nat.add_zero, Nat.reduceAdd, Nat.reduceMul, Nat.reduceSub, Nat.reducePow]
      refine jW_bi (c_isShut hL hE' hσ hS' hqr c1) (fun J2 hJ2 => ?_)
      obtain ⟨hS2, hSc2, -⟩ := hJ2
      rw [s_ag_sh ho hr hag (by omega)]
      have hE2 := jCE_Sc hL hσ hSc2 hE'
      have e0 : J2 (σ + 1) 1 = nI (s_cm τ (s_sh τ ω d r) r k 117) := hS2.1.2.1 0 (by omega)
      have hTU : ∀ f, jCT (jU J2 (σ + 1) f) t τ := fun f => jCT_congr (fun i hi => jU_ne (by omega)) hE2.1
      have fin : ∀ v1 v2 : Nat, v1 = s_cm1 τ (s_sh τ ω d r (τ 9 k)) (s_cm τ (s_sh τ ω d r) r k) k (123 + k) → v2 = s_cm1 τ (s_sh τ ω d r (τ 9 k)) (s_cm τ (s_sh τ ω d r) r k) k 117 → jW (F_Scene_pass_l2 n σ (nI (k + 1)) (jz_I h (jU J2 (σ + 1) (jV (jV (J2 (σ + 1)) (7 + k) (nI v1)) 1 (nI v2))))) P := fun v1 v2 h1 h2 => by
        refine ih _ ⟨⟨?_, ?_, ?_⟩, jSc_trans hSc (jSc_trans hSc2 (fun a x y => jU_ne (by omega)))⟩
        · rw [ec]
          exact jCR_U (c_cm_row (by omega) hqr hS2.1 h1 h2)
        · rw [jU_ne (by omega)]; exact hS2.2.1
        · rcases hS2.2.2 with z | z
          · exact Or.inl (by rw [jU_ne (by omega)]; exact z)
          · refine Or.inr (jCK_ag ho hqr ?_ ?_)
            · rw [ec]
              exact fun i hi => s_cm1_out (by omega) (by omega)
            · obtain ⟨z4, z5, z6, z7⟩ := z
              refine ⟨?_, ?_, ?_, fun g hg => ?_⟩
              · rw [jU_ne (by omega)]; exact z4
              · rw [jU_ne (by omega)]; exact z5
              · rw [jU_ne (by omega)]; exact z6
              · rw [jU_ne (by omega), jU_ne (by omega)]; exact z7 g hg
      have fin0 : ∀ v1 : Nat, v1 = s_cm1 τ (s_sh τ ω d r (τ 9 k)) (s_cm τ (s_sh τ ω d r) r k) k (123 + k) → s_cm τ (s_sh τ ω d r) r k 117 = s_cm1 τ (s_sh τ ω d r (τ 9 k)) (s_cm τ (s_sh τ ω d r) r k) k 117 → jW (F_Scene_pass_l2 n σ (nI (k + 1)) (jz_I h (jU J2 (σ + 1) (jV (J2 (σ + 1)) (7 + k) (nI v1))))) P := fun v1 h1 h2 => by
        have := fin v1 _ h1 h2
        rwa [show jV (jV (J2 (σ + 1)) (7 + k) (nI v1)) 1 (nI (s_cm τ (s_sh τ ω d r) r k 117)) = jV (J2 (σ + 1)) (7 + k) (nI v1) from by
          have e9 : jV (J2 (σ + 1)) (7 + k) (nI v1) 1 = nI (s_cm τ (s_sh τ ω d r) r k 117) := by rw [jV_ne (by omega)]; exact e0
          rw [← e9]; exact jV_id] at this
      cases hb : s_sh τ ω d r (τ 9 k)
      · rw [hb] at fin fin0
        by_cases hw : 0 < τ 0 1
        · simp (disch := omega) only [F_Scene_pass_b58, F_Scene_pass_b64, F_Scene_takeToll, F_Scene_takeToll_b46, F_Scene_came, cT_f1 (hTU _), cT_a11 (hTU _), e0, ↓dK_S hL hσ, ↓dG_S hL hσ, ↓dP_S hL hσ, ↓dZ_S hL hσ (x := nI 0) (Or.inl rfl), ↓dZ_S hL hσ (x := nI 1) (Or.inr rfl), ↓dZ_S hL hσ (Or.inl rfl), ↓dZ_S hL hσ (Or.inr rfl), ↓dZ_S hL hσ (nB_01 _), ↓dR_S_1 hL hσ, ↓dR_S_2 hL hσ, ↓dR_S_0 hL hσ, dI_S1 hL hσ, dS_S1 hL hσ, ↓dK_T hL ht, ↓dG_T hL ht, ↓dP_T hL ht, ↓dR_T_16 hL ht, dI_T11 hL ht, dS_T11 hL ht, ↓reduceIte, ↓kq_bi, ↓kq_let, ↓kq_rz0, ↓kq_rz1, ↓kq_rzB, ↓Option.bind_some, kq_dvn, kt_lt, kf_lt, kt_eq, kf_eq, decide_true, decide_false, eq_self, Bool.false_eq_true, Bool.true_eq_false, not_true_eq_false, not_false_eq_true, jU_eq, jU_ne, jU_U, jV_eq, jV_ne, jV_V, kn_lit, kn_add, kn_mul, kn_sdm, kn_sub, kn_div, kn_nsdm, kn_lt, kn_eq, kn_pred, kn_m1, kn_m1', kn_a31, kn_shl, kn_shr, kn_bit, nB_0, nB_1, nB_t, nB_f, Nat.zero_add, Nat.add_zero, Nat.reduceAdd, Nat.reduceMul, Nat.reduceSub, Nat.reducePow]
          have hmin : (if s_cm τ (s_sh τ ω d r) r k 117 + τ 11 k < 99 then nI (s_cm τ (s_sh τ ω d r) r k 117 + τ 11 k) else nI 99) = nI (s_cm1 τ false (s_cm τ (s_sh τ ω d r) r k) k 117) := by
            rw [s_cm1_117, if_neg (show ¬ false = true by decide), if_pos hw]
            by_cases h8 : s_cm τ (s_sh τ ω d r) r k 117 + τ 11 k < 99
            · rw [if_pos h8, if_neg (show ¬ 99 < s_cm τ (s_sh τ ω d r) r k 117 + τ 11 k by omega)]
            · rw [if_neg h8]
              by_cases h9 : 99 < s_cm τ (s_sh τ ω d r) r k 117 + τ 11 k
              · rw [if_pos h9]
              · rw [if_neg h9]; congr 1; omega
          rw [hmin]
          exact fin 1 _ (by rw [s_cm1_123]; rfl) rfl
        · have hw0 : τ 0 1 = 0 := by omega
          simp (disch := omega) only [F_Scene_pass_b58, F_Scene_pass_b64, F_Scene_takeToll, F_Scene_takeToll_b46, F_Scene_came, cT_f1 (hTU _), hw0, e0, ↓dK_S hL hσ, ↓dG_S hL hσ, ↓dP_S hL hσ, ↓dZ_S hL hσ (x := nI 0) (Or.inl rfl), ↓dZ_S hL hσ (x := nI 1) (Or.inr rfl), ↓dZ_S hL hσ (Or.inl rfl), ↓dZ_S hL hσ (Or.inr rfl), ↓dZ_S hL hσ (nB_01 _), ↓dR_S_1 hL hσ, ↓dR_S_2 hL hσ, ↓dR_S_0 hL hσ, dI_S1 hL hσ, dS_S1 hL hσ, ↓dK_T hL ht, ↓dG_T hL ht, ↓dP_T hL ht, ↓dR_T_16 hL ht, dI_T11 hL ht, dS_T11 hL ht, ↓reduceIte, ↓kq_bi, ↓kq_let, ↓kq_rz0, ↓kq_rz1, ↓kq_rzB, ↓Option.bind_some, kq_dvn, kt_lt, kf_lt, kt_eq, kf_eq, decide_true, decide_false, eq_self, Bool.false_eq_true, Bool.true_eq_false, not_true_eq_false, not_false_eq_true, jU_eq, jU_ne, jU_U, jV_eq, jV_ne, jV_V, kn_lit, kn_add, kn_mul, kn_sdm, kn_sub, kn_div, kn_nsdm, kn_lt, kn_eq, kn_pred, kn_m1, kn_m1', kn_a31, kn_shl, kn_shr, kn_bit, nB_0, nB_1, nB_t, nB_f, Nat.zero_add, Nat.add_zero, Nat.reduceAdd, Nat.reduceMul, Nat.reduceSub, Nat.reducePow]
          exact fin0 1 (by rw [s_cm1_123]; rfl) (by rw [s_cm1_117, if_neg (show ¬ false = true by decide), if_neg hw])
      · rw [hb] at fin fin0
        simp (disch := omega) only [F_Scene_pass_b58, F_Scene_pass_b64, F_Scene_takeToll, F_Scene_takeToll_b46, F_Scene_came, e0, ↓dK_S hL hσ, ↓dG_S hL hσ, ↓dP_S hL hσ, ↓dZ_S hL hσ (x := nI 0) (Or.inl rfl), ↓dZ_S hL hσ (x := nI 1) (Or.inr rfl), ↓dZ_S hL hσ (Or.inl rfl), ↓dZ_S hL hσ (Or.inr rfl), ↓dZ_S hL hσ (nB_01 _), ↓dR_S_1 hL hσ, ↓dR_S_2 hL hσ, ↓dR_S_0 hL hσ, dI_S1 hL hσ, dS_S1 hL hσ, ↓dK_T hL ht, ↓dG_T hL ht, ↓dP_T hL ht, ↓dR_T_16 hL ht, dI_T11 hL ht, dS_T11 hL ht, ↓reduceIte, ↓kq_bi, ↓kq_let, ↓kq_rz0, ↓kq_rz1, ↓kq_rzB, ↓Option.bind_some, kq_dvn, kt_lt, kf_lt, kt_eq, kf_eq, decide_true, decide_false, eq_self, Bool.false_eq_true, Bool.true_eq_false, not_true_eq_false, not_false_eq_true, jU_eq, jU_ne, jU_U, jV_eq, jV_ne, jV_V, kn_lit, kn_add, kn_mul, kn_sdm, kn_sub, kn_div, kn_nsdm, kn_lt, kn_eq, kn_pred, kn_m1, kn_m1', kn_a31, kn_shl, kn_shr, kn_bit, nB_0, nB_1, nB_t, nB_f, Nat.zero_add, Nat.add_zero, Nat.reduceAdd, Nat.reduceMul, Nat.reduceSub, Nat.reducePow]
        exact fin0 2 (by rw [s_cm1_123]; rfl) (by rw [s_cm1_117, if_pos rfl])
    · rw [if_neg hc] at ec
      simp (disch := omega) only [cT_f4 hE'.1, cT_a10 hE'.1, c_hourNow hL hσ hS'.1, q133, F_Scene_pass_b64, ↓dK_S hL hσ, ↓dG_S hL hσ, ↓dP_S hL hσ, ↓dZ_S hL hσ (x := nI 0) (Or.inl rfl), ↓dZ_S hL hσ (x := nI 1) (Or.inr rfl), ↓dZ_S hL hσ (Or.inl rfl), ↓dZ_S hL hσ (Or.inr rfl), ↓dZ_S hL hσ (nB_01 _), ↓dR_S_1 hL hσ, ↓dR_S_2 hL hσ, ↓dR_S_0 hL hσ, dI_S1 hL hσ, dS_S1 hL hσ, ↓dK_T hL ht, ↓dG_T hL ht, ↓dP_T hL ht, ↓dR_T_15 hL ht, dI_T10 hL ht, dS_T10 hL ht, ↓dR_T_14 hL ht, dI_T9 hL ht, dS_T9 hL ht, ↓reduceIte, ↓kq_bi, ↓kq_let, ↓kq_rz0, ↓kq_rz1, ↓kq_rzB, ↓Option.bind_some, kq_dvn, kt_lt, kf_lt, kt_eq, kf_eq, decide_true, decide_false, eq_self, Bool.false_eq_true, Bool.true_eq_false, not_true_eq_false, not_false_eq_true, jU_eq, jU_ne, jU_U, jV_eq, jV_ne, jV_V, kn_lit, kn_add, kn_mul, kn_sdm, kn_sub, kn_div, kn_nsdm, kn_lt, kn_eq, kn_pred, kn_m1, kn_m1', kn_a31, kn_shl, kn_shr, kn_bit, nB_0, nB_1, nB_t, nB_f, Nat.zero_add, Nat.add_zero, Nat.reduceAdd, Nat.reduceMul, Nat.reduceSub, Nat.reducePow]
      exact ih _ ⟨by rw [ec]; exact hS', hSc⟩
  · obtain ⟨hS', hSc⟩ := hJ
    have hE' := jCE_Sc hL hσ hSc hE
    show jW (F_Scene_pass_c2 (F_Scene_pass_l2 n) σ (nI (τ 0 2)) (jz_I h J)) P
    unfold F_Scene_pass_c2
    simp (disch := omega) only [cT_f4 hE'.1, ↓dK_S hL hσ, ↓dG_S hL hσ, ↓dP_S hL hσ, ↓dZ_S hL hσ (x := nI 0) (Or.inl rfl), ↓dZ_S hL hσ (x := nI 1) (Or.inr rfl), ↓dZ_S hL hσ (Or.inl rfl), ↓dZ_S hL hσ (Or.inr rfl), ↓dZ_S hL hσ (nB_01 _), ↓dR_S_1 hL hσ, ↓dR_S_2 hL hσ, ↓dK_T hL ht, ↓dG_T hL ht, ↓dP_T hL ht, ↓reduceIte, ↓kq_bi, ↓kq_let, ↓kq_rz0, ↓kq_rz1, ↓kq_rzB, ↓Option.bind_some, kq_dvn, kt_lt, kf_lt, kt_eq, kf_eq, decide_true, decide_false, eq_self, Bool.false_eq_true, Bool.true_eq_false, not_true_eq_false, not_false_eq_true, jU_eq, jU_ne, jU_U, jV_eq, jV_ne, jV_V, kn_lit, kn_add, kn_mul, kn_sdm, kn_sub, kn_div, kn_nsdm, kn_lt, kn_eq, kn_pred, kn_m1, kn_m1', kn_a31, kn_shl, kn_shr, kn_bit, nB_0, nB_1, nB_t, nB_f, Nat.zero_add, Nat.add_zero, Nat.reduceAdd, Nat.reduceMul, Nat.reduceSub, Nat.reducePow]
    have hq := s_cm_ok (p := s_sh τ ω d r) hr (τ 0 2) o2
    refine jW_for0 (f := fun fuel k (J : Nat → Nat → Int32) => F_Scene_pass_l72 fuel σ (nI k) (jz_I h J)) (τ 0 0) (fun k J => jCR J (σ + 1) (s_burns (s_cm τ (s_sh τ ω d r) r (τ 0 2)) k) ∧ jSc l σ I J) J ⟨hS'.1, hSc⟩ (by omega) (fun n k J hk hJ ih => ?_) (fun n J hJ => ?_)
    · obtain ⟨hR', hSc⟩ := hJ
      have hE' := jCE_Sc hL hσ hSc hE
      show jW (F_Scene_pass_c72 (F_Scene_pass_l72 n) σ (nI k) (jz_I h J)) P
      unfold F_Scene_pass_c72
      simp (disch := omega) only [cT_f0 hE'.1, ↓dK_S hL hσ, ↓dG_S hL hσ, ↓dP_S hL hσ, ↓dZ_S hL hσ (x := nI 0) (Or.inl rfl), ↓dZ_S hL hσ (x := nI 1) (Or.inr rfl), ↓dZ_S hL hσ (Or.inl rfl), ↓dZ_S hL hσ (Or.inr rfl), ↓dZ_S hL hσ (nB_01 _), ↓dR_S_1 hL hσ, ↓dR_S_2 hL hσ, ↓dK_T hL ht, ↓dG_T hL ht, ↓dP_T hL ht, ↓reduceIte, ↓kq_bi, ↓kq_let, ↓kq_rz0, ↓kq_rz1, ↓kq_rzB, ↓Option.bind_some, kq_dvn, kt_lt, kf_lt, kt_eq, kf_eq, decide_true, decide_false, eq_self, Bool.false_eq_true, Bool.true_eq_false, not_true_eq_false, not_false_eq_true, jU_eq, jU_ne, jU_U, jV_eq, jV_ne, jV_V, kn_lit, kn_add, kn_mul, kn_sdm, kn_sub, kn_div, kn_nsdm, kn_lt, kn_eq, kn_pred, kn_m1, kn_m1', kn_a31, kn_shl, kn_shr, kn_bit, nB_0, nB_1, nB_t, nB_f, Nat.zero_add, Nat.add_zero, Nat.reduceAdd, Nat.reduceMul, Nat.reduceSub, Nat.reducePow]
      refine jW_bn (c_burnDown hL hσ hR' (s_burns_ok hq k (by omega)) (by omega)) (fun J2 hJ2 => ?_)
      exact ih _ ⟨hJ2.1, jSc_trans hSc (fun a x _ => hJ2.2 a (by omega))⟩
    · obtain ⟨hR', hSc⟩ := hJ
      have hE' := jCE_Sc hL hσ hSc hE
      have q133 : s_burns (s_cm τ (s_sh τ ω d r) r (τ 0 2)) (τ 0 0) 133 = r 133 := by rw [s_burns_hi _ _ o0 (by omega), s_cm_out _ _ (by omega) (by omega)]
      have e0 := hR'.1
      rw [q133] at e0
      have hb9 := s_burns_ok hq (τ 0 0) o0
      show jW (F_Scene_pass_c72 (F_Scene_pass_l72 n) σ (nI (τ 0 0)) (jz_I h J)) P
      unfold F_Scene_pass_c72
      simp (disch := omega) only [cT_f0 hE'.1, e0, ↓dK_S hL hσ, ↓dG_S hL hσ, ↓dP_S hL hσ, ↓dZ_S hL hσ (x := nI 0) (Or.inl rfl), ↓dZ_S hL hσ (x := nI 1) (Or.inr rfl), ↓dZ_S hL hσ (Or.inl rfl), ↓dZ_S hL hσ (Or.inr rfl), ↓dZ_S hL hσ (nB_01 _), ↓dR_S_1 hL hσ, ↓dR_S_2 hL hσ, ↓dR_S_0 hL hσ, dI_S1 hL hσ, dS_S1 hL hσ, ↓dK_T hL ht, ↓dG_T hL ht, ↓dP_T hL ht, ↓reduceIte, ↓kq_bi, ↓kq_let, ↓kq_rz0, ↓kq_rz1, ↓kq_rzB, ↓Option.bind_some, kq_dvn, kt_lt, kf_lt, kt_eq, kf_eq, decide_true, decide_false, eq_self, Bool.false_eq_true, Bool.true_eq_false, not_true_eq_false, not_false_eq_true, jU_eq, jU_ne, jU_U, jV_eq, jV_ne, jV_V, kn_lit, kn_add, kn_mul, kn_sdm, kn_sub, kn_div, kn_nsdm, kn_lt, kn_eq, kn_pred, kn_m1, kn_m1', kn_a31, kn_shl, kn_shr, kn_bit, nB_0, nB_1, nB_t, nB_f, Nat.zero_add, Nat.add_zero, Nat.reduceAdd, Nat.reduceMul, Nat.reduceSub, Nat.reducePow]
      refine jW_s (hP _ ⟨⟨jCR_congr (jU_ne (by omega)) (jCR_U ?_), ?_, Or.inl ?_⟩, jSc_trans hSc (fun a x y => by rw [jU_ne (by omega), jU_ne (by omega)])⟩)
      · obtain ⟨a1, a2, a3, a4, a5⟩ := hR'
        unfold s_hour
        refine ⟨?_, fun x hx => ?_, fun x hx => ?_, fun x hx => ?_, fun x k hx hk => ?_⟩
        all_goals try dsimp only
        · rw [jV_eq, nV_eq]
        · rw [jV_ne (by omega), nV_ne (by omega)]; exact a2 x hx
        · rw [jV_ne (by omega), nV_ne (by omega)]; exact a3 x hx
        · rw [jV_ne (by omega), nV_ne (by omega)]; exact a4 x hx
        · have b := hb9.1 x hx
          rw [nV_ne (by omega)] at hk
          rw [jV_ne (by omega), jV_ne (by omega), nV_ne (by omega), nV_ne (by omega)]; exact a5 x k hx hk
      · simp (disch := omega) only [jU_eq, jV_ne, jV_eq, nB_f]
      · simp (disch := omega) only [jU_eq, jV_ne, jV_eq]
end

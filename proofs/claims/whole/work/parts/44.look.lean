/-! PLAIN LEAN, 10: the class: a scene looks -/
section
variable {t u l m b c : Nat} {h : LH} {I J K : Nat → Nat → Int32} {τ : JTn} {r : JRw} {σ i : Nat} {Q : Type} {x : Int32} {d : Bool} {ω : JLw}
/-- the sums while a scene looks: gates below g are done, and k logs of g -/
def s_lk1 (τ : JTn) (d : Bool) (r : JRw) (g k y : Nat) : Nat := s_sum (fun x => if s_st τ r x = y then s_smf τ d r x else 0) g + (if s_st τ r g = y then s_sum (fun k => s_th τ d r (r (6 * g + k))) k else 0)
def s_lk2 (τ : JTn) (r : JRw) (g k y : Nat) : Nat := s_or (s_scx τ r y) g ||| s_or (fun k => if s_st τ r g = y then τ 4 (r (6 * g + k)) else 0) k
theorem s_lk1_0 {g y : Nat} : s_lk1 τ d r g 0 y = s_sum (fun x => if s_st τ r x = y then s_smf τ d r x else 0) g := by
  unfold s_lk1
  show _ + (if _ then 0 else 0) = _
  split <;> rfl
theorem s_lk2_0 {g y : Nat} : s_lk2 τ r g 0 y = s_or (s_scx τ r y) g := Nat.or_zero _
theorem s_lk1_n {g y : Nat} : s_lk1 τ d r g (r (108 + g)) y = s_sum (fun x => if s_st τ r x = y then s_smf τ d r x else 0) (g + 1) := rfl
theorem s_lk2_n {g y : Nat} : s_lk2 τ r g (r (108 + g)) y = s_or (s_scx τ r y) (g + 1) := rfl
theorem c_look (hL : jLay t u l m b c h) (hE : jCE I t l τ ω) (hσ : σ = 85 ∨ σ = 90) (hS : jCS I σ τ d r) (hr : jROK τ r) : ∃ J, F_Scene_look σ (jz_I h I) = some (jz_I h J) ∧ jCK J σ τ d r ∧ J σ 3 = nB d ∧ (∀ k, 7 ≤ k → J σ k = I σ k) ∧ ∀ a, ¬ a = σ → ¬ a = σ + 2 → ¬ a = σ + 3 → J a = I a := by
  have ht := jLay_t hL
  obtain ⟨hT, ho, -⟩ := hE
  obtain ⟨hR, h3, h4⟩ := hS
  have o0 : τ 0 0 ≤ 9 := ho.1
  have o1 : τ 0 1 ≤ 6 := ho.2.1
  have hh : r 133 < 100000 := hr.2.2.2.2 133 (by omega)
  have hst : ∀ x, x < τ 0 0 → s_st τ r x < τ 0 0 := fun x hx => s_st_lt ho r (g := x) (k := τ 1 x) (by omega)
  by_cases h40 : I σ 4 = nI 0
  case neg =>
    rcases h4 with h4 | h4
    · exact absurd h4 h40
    · refine ⟨I, ?_, h4, h3, fun _ _ => rfl, fun _ _ _ _ => rfl⟩
      unfold F_Scene_look
      simp (disch := omega) only [h4.1, ↓dK_S hL hσ, ↓dG_S hL hσ, ↓dP_S hL hσ, ↓dZ_S hL hσ (x := nI 0) (Or.inl rfl), ↓dZ_S hL hσ (x := nI 1) (Or.inr rfl), ↓dZ_S hL hσ (Or.inl rfl), ↓dZ_S hL hσ (Or.inr rfl), ↓dZ_S hL hσ (nB_01 _), ↓dR_S_1 hL hσ, ↓dR_S_2 hL hσ, ↓reduceIte, ↓kq_bi, ↓kq_let, ↓kq_rz0, ↓kq_rz1, ↓kq_rzB, ↓Option.bind_some, kq_dvn, kt_lt, kf_lt, kt_eq, kf_eq, decide_true, decide_false, eq_self, Bool.false_eq_true, Bool.true_eq_false, not_true_eq_false, not_false_eq_true, jU_eq, jU_ne, jU_U, jV_eq, jV_ne, jV_V, kn_lit, kn_add, kn_mul, kn_sdm, kn_sub, kn_div, kn_nsdm, kn_lt, kn_eq, kn_pred, kn_m1, kn_m1', kn_a31, kn_shl, kn_shr, kn_bit, nB_0, nB_1, nB_t, nB_f, Nat.zero_add, Nat.add_zero, Nat.reduceAdd, Nat.reduceMul, Nat.reduceSub, Nat.reducePow]
  case pos =>
    refine jE_n (fun P hP => ?_)
    have fin : ∀ J, J σ 4 = nI 1 → J σ 5 = nI (s_wind τ (r 133)) → J σ 6 = nB (s_rain τ d (r 133)) → J σ 3 = nB d → (∀ k, 7 ≤ k → J σ k = I σ k) → (∀ a, ¬ a = σ → J a = I a) → jW (F_Scene_look_l60 jF σ (nI 0) (jz_I h J)) P := fun J j4 j5 j6 j3 j7 jf => by
      have tr : ∀ K : Nat → Nat → Int32, (∀ a, ¬ a = σ + 2 → ¬ a = σ + 3 → K a = J a) → jCT K t τ ∧ jCR K (σ + 1) r ∧ K σ = J σ := fun K hK => ⟨jCT_congr (fun i hi => by rw [hK _ (by omega) (by omega), jf _ (by omega)]) hT, jCR_congr (by rw [hK _ (by omega) (by omega), jf _ (by omega)]) hR, hK _ (by omega) (by omega)⟩
      refine jW_for0 (f := fun fuel k (K : Nat → Nat → Int32) => F_Scene_look_l60 fuel σ (nI k) (jz_I h K)) (τ 0 0) (fun k K => (∀ a, ¬ a = σ + 2 → ¬ a = σ + 3 → K a = J a) ∧ ∀ y, y < k → K (σ + 2) y = nI 0 ∧ K (σ + 3) y = nI 0) J ⟨fun _ _ _ => rfl, fun y hy => absurd hy (Nat.not_lt_zero y)⟩ (by omega) (fun n k K hk hV ih => ?_) (fun n K hV => ?_)
      · obtain ⟨v1, v2⟩ := hV
        obtain ⟨hT', -, -⟩ := tr K v1
        show jW (F_Scene_look_c60 (F_Scene_look_l60 n) σ (nI k) (jz_I h K)) P
        unfold F_Scene_look_c60
        simp (disch := omega) only [cT_f0 hT', ↓dK_S hL hσ, ↓dG_S hL hσ, ↓dP_S hL hσ, ↓dZ_S hL hσ (x := nI 0) (Or.inl rfl), ↓dZ_S hL hσ (x := nI 1) (Or.inr rfl), ↓dZ_S hL hσ (Or.inl rfl), ↓dZ_S hL hσ (Or.inr rfl), ↓dZ_S hL hσ (nB_01 _), ↓dR_S_1 hL hσ, ↓dR_S_2 hL hσ, ↓dR_S_7 hL hσ, dI_S2 hL hσ, dS_S2 hL hσ, ↓dR_S_8 hL hσ, dI_S3 hL hσ, dS_S3 hL hσ, ↓dK_T hL ht, ↓dG_T hL ht, ↓dP_T hL ht, ↓reduceIte, ↓kq_bi, ↓kq_let, ↓kq_rz0, ↓kq_rz1, ↓kq_rzB, ↓Option.bind_some, kq_dvn, kt_lt, kf_lt, kt_eq, kf_eq, decide_true, decide_false, eq_self, Bool.false_eq_true, Bool.true_eq_false, not_true_eq_false, not_false_eq_true, jU_eq, jU_ne, jU_U, jV_eq, jV_ne, jV_V, kn_lit, kn_add, kn_mul, kn_sdm, kn_sub, kn_div, kn_nsdm, kn_lt, kn_eq, kn_pred, kn_m1, kn_m1', kn_a31, kn_shl, kn_shr, kn_bit, nB_0, nB_1, nB_t, nB_f, Nat.zero_add, Nat.add_zero, Nat.reduceAdd, Nat.reduceMul, Nat.reduceSub, Nat.reducePow]
        refine ih _ ⟨fun a h1 h2 => by rw [jU_ne h2, jU_ne h1]; exact v1 a h1 h2, fun y hy => ?_⟩
        rw [jU_ne (by omega), jU_eq, jU_eq]
        by_cases hyk : y = k
        · rw [hyk, jV_eq, jV_eq]; exact ⟨rfl, rfl⟩
        · rw [jV_ne hyk, jV_ne hyk]; exact v2 y (by omega)
      · obtain ⟨v1, v2⟩ := hV
        obtain ⟨hT', -, -⟩ := tr K v1
        show jW (F_Scene_look_c60 (F_Scene_look_l60 n) σ (nI (τ 0 0)) (jz_I h K)) P
        unfold F_Scene_look_c60
        simp (disch := omega) only [cT_f0 hT', ↓dK_S hL hσ, ↓dG_S hL hσ, ↓dP_S hL hσ, ↓dZ_S hL hσ (x := nI 0) (Or.inl rfl), ↓dZ_S hL hσ (x := nI 1) (Or.inr rfl), ↓dZ_S hL hσ (Or.inl rfl), ↓dZ_S hL hσ (Or.inr rfl), ↓dZ_S hL hσ (nB_01 _), ↓dR_S_1 hL hσ, ↓dR_S_2 hL hσ, ↓dR_S_7 hL hσ, dI_S2 hL hσ, dS_S2 hL hσ, ↓dR_S_8 hL hσ, dI_S3 hL hσ, dS_S3 hL hσ, ↓dK_T hL ht, ↓dG_T hL ht, ↓dP_T hL ht, ↓reduceIte, ↓kq_bi, ↓kq_let, ↓kq_rz0, ↓kq_rz1, ↓kq_rzB, ↓Option.bind_some, kq_dvn, kt_lt, kf_lt, kt_eq, kf_eq, decide_true, decide_false, eq_self, Bool.false_eq_true, Bool.true_eq_false, not_true_eq_false, not_false_eq_true, jU_eq, jU_ne, jU_U, jV_eq, jV_ne, jV_V, kn_lit, kn_add, kn_mul, kn_sdm, kn_sub, kn_div, kn_nsdm, kn_lt, kn_eq, kn_pred, kn_m1, kn_m1', kn_a31, kn_shl, kn_shr, kn_bit, nB_0, nB_1, nB_t, nB_f, Nat.zero_add, Nat.add_zero, Nat.reduceAdd, Nat.reduceMul, Nat.reduceSub, Nat.reducePow]
        refine jW_for0 (f := fun fuel k (K : Nat → Nat → Int32) => F_Scene_look_l93 fuel σ (nI k) (jz_I h K)) (τ 0 0) (fun g K => (∀ a, ¬ a = σ + 2 → ¬ a = σ + 3 → K a = J a) ∧ ∀ y, y < τ 0 0 → K (σ + 2) y = nI (s_lk1 τ d r g 0 y) ∧ K (σ + 3) y = nI (s_lk2 τ r g 0 y)) K ⟨v1, fun y hy => by rw [s_lk1_0, s_lk2_0]; exact v2 y hy⟩ (by omega) (fun n g K hg hV ih => ?_) (fun n K hV => ?_)
        · obtain ⟨v1, v2⟩ := hV
          obtain ⟨hT', hR', e⟩ := tr K v1
          have l3 : τ 1 g ≤ 3 := ho.2.2.2.2.2.2.1 g hg
          have sg := hst g hg
          have b6 := hr.1 g (by omega)
          show jW (F_Scene_look_c93 (F_Scene_look_l93 n) σ (nI g) (jz_I h K)) P
          unfold F_Scene_look_c93
          simp (disch := omega) only [cT_f0 hT', cT_a1 hT', c_standsByLean hL hσ hT' ho (by rw [e]; exact j5) hg l3, ↓dK_S hL hσ, ↓dG_S hL hσ, ↓dP_S hL hσ, ↓dZ_S hL hσ (x := nI 0) (Or.inl rfl), ↓dZ_S hL hσ (x := nI 1) (Or.inr rfl), ↓dZ_S hL hσ (Or.inl rfl), ↓dZ_S hL hσ (Or.inr rfl), ↓dZ_S hL hσ (nB_01 _), ↓dR_S_1 hL hσ, ↓dR_S_2 hL hσ, ↓dK_T hL ht, ↓dG_T hL ht, ↓dP_T hL ht, ↓dR_T_6 hL ht, dI_T1 hL ht, dS_T1 hL ht, ↓reduceIte, ↓kq_bi, ↓kq_let, ↓kq_rz0, ↓kq_rz1, ↓kq_rzB, ↓Option.bind_some, kq_dvn, kt_lt, kf_lt, kt_eq, kf_eq, decide_true, decide_false, eq_self, Bool.false_eq_true, Bool.true_eq_false, not_true_eq_false, not_false_eq_true, jU_eq, jU_ne, jU_U, jV_eq, jV_ne, jV_V, kn_lit, kn_add, kn_mul, kn_sdm, kn_sub, kn_div, kn_nsdm, kn_lt, kn_eq, kn_pred, kn_m1, kn_m1', kn_a31, kn_shl, kn_shr, kn_bit, nB_0, nB_1, nB_t, nB_f, Nat.zero_add, Nat.add_zero, Nat.reduceAdd, Nat.reduceMul, Nat.reduceSub, Nat.reducePow]
          show jW (F_Scene_look_l121 (F_Scene_look_l93 n) jF σ (nI g) (nI (s_st τ r g)) (nI 0) (jz_I h K)) P
          refine jW_for0 (f := fun fuel k (K : Nat → Nat → Int32) => F_Scene_look_l121 (F_Scene_look_l93 n) fuel σ (nI g) (nI (s_st τ r g)) (nI k) (jz_I h K)) (r (108 + g)) (fun k K => (∀ a, ¬ a = σ + 2 → ¬ a = σ + 3 → K a = J a) ∧ ∀ y, y < τ 0 0 → K (σ + 2) y = nI (s_lk1 τ d r g k y) ∧ K (σ + 3) y = nI (s_lk2 τ r g k y)) K ⟨v1, v2⟩ (by omega) (fun n2 k K hk hV ih2 => ?_) (fun n2 K hV => ?_)
          · obtain ⟨v1, v2⟩ := hV
            obtain ⟨hT', hR', e⟩ := tr K v1
            have hw := (hr.2.1 g k (by omega) hk).1
            obtain ⟨w1, w2⟩ := v2 _ sg
            have hT2 : ∀ f, jCT (jU K (σ + 2) f) t τ := fun f => (tr _ (fun a h1 h2 => by rw [jU_ne h1]; exact v1 a h1 h2)).1
            show jW (F_Scene_look_c121 (F_Scene_look_l93 n) (F_Scene_look_l121 (F_Scene_look_l93 n) n2) σ (nI g) (nI (s_st τ r g)) (nI k) (jz_I h K)) P
            unfold F_Scene_look_c121
            simp (disch := omega) only [c_burning hL hσ hR', c_woodOf hL hσ hR' hr, c_thickNow hL hσ hT' ho (d := d) (r := r) (by rw [e]; exact j6), w1, w2, cT_a4 hT', kn_or, ↓dK_S hL hσ, ↓dG_S hL hσ, ↓dP_S hL hσ, ↓dZ_S hL hσ (x := nI 0) (Or.inl rfl), ↓dZ_S hL hσ (x := nI 1) (Or.inr rfl), ↓dZ_S hL hσ (Or.inl rfl), ↓dZ_S hL hσ (Or.inr rfl), ↓dZ_S hL hσ (nB_01 _), ↓dR_S_1 hL hσ, ↓dR_S_2 hL hσ, ↓dR_S_7 hL hσ, dI_S2 hL hσ, dS_S2 hL hσ, ↓dR_S_8 hL hσ, dI_S3 hL hσ, dS_S3 hL hσ, ↓dK_T hL ht, ↓dG_T hL ht, ↓dP_T hL ht, ↓dR_T_9 hL ht, dI_T4 hL ht, dS_T4 hL ht, ↓reduceIte, ↓kq_bi, ↓kq_let, ↓kq_rz0, ↓kq_rz1, ↓kq_rzB, ↓Option.bind_some, kq_dvn, kt_lt, kf_lt, kt_eq, kf_eq, decide_true, decide_false, eq_self, Bool.false_eq_true, Bool.true_eq_false, not_true_eq_false, not_false_eq_true, jU_eq, jU_ne, jU_U, jV_eq, jV_ne, jV_V, kn_lit, kn_add, kn_mul, kn_sdm, kn_sub, kn_div, kn_nsdm, kn_lt, kn_eq, kn_pred, kn_m1, kn_m1', kn_a31, kn_shl, kn_shr, kn_bit, nB_0, nB_1, nB_t, nB_f, Nat.zero_add, Nat.add_zero, Nat.reduceAdd, Nat.reduceMul, Nat.reduceSub, Nat.reducePow]
            refine ih2 _ ⟨fun a h1 h2 => by rw [jU_ne h2, jU_ne h1]; exact v1 a h1 h2, fun y hy => ?_⟩
            rw [jU_ne (by omega), jU_eq, jU_eq]
            by_cases hys : y = s_st τ r g
            · rw [hys, jV_eq, jV_eq]
              constructor
              · show nI (s_lk1 τ d r g k (s_st τ r g) + s_th τ d r (r (6 * g + k))) = nI (s_lk1 τ d r g (k + 1) (s_st τ r g))
                unfold s_lk1
                rw [if_pos rfl, if_pos rfl]
                show nI (_ + s_sum _ k + _) = nI (_ + (s_sum _ k + _))
                rw [Nat.add_assoc]
              · show nI (s_lk2 τ r g k (s_st τ r g) ||| τ 4 (r (6 * g + k))) = nI (s_lk2 τ r g (k + 1) (s_st τ r g))
                unfold s_lk2
                show nI ((_ ||| s_or _ k) ||| _) = nI (_ ||| (s_or _ k ||| if s_st τ r g = s_st τ r g then τ 4 (r (6 * g + k)) else 0))
                rw [if_pos rfl, Nat.or_assoc]
            · rw [jV_ne hys, jV_ne hys]
              have hne : ¬ s_st τ r g = y := fun z => hys z.symm
              obtain ⟨z1, z2⟩ := v2 y hy
              rw [z1, z2]
              constructor
              · unfold s_lk1
                rw [if_neg hne, if_neg hne]
              · unfold s_lk2
                show nI (_ ||| s_or _ k) = nI (_ ||| (s_or _ k ||| if s_st τ r g = y then τ 4 (r (6 * g + k)) else 0))
                rw [if_neg hne, Nat.or_zero]
          · obtain ⟨v1, v2⟩ := hV
            obtain ⟨hT', hR', e⟩ := tr K v1
            show jW (F_Scene_look_c121 (F_Scene_look_l93 n) (F_Scene_look_l121 (F_Scene_look_l93 n) n2) σ (nI g) (nI (s_st τ r g)) (nI (r (108 + g))) (jz_I h K)) P
            unfold F_Scene_look_c121
            simp (disch := omega) only [c_burning hL hσ hR', ↓dK_S hL hσ, ↓dG_S hL hσ, ↓dP_S hL hσ, ↓dZ_S hL hσ (x := nI 0) (Or.inl rfl), ↓dZ_S hL hσ (x := nI 1) (Or.inr rfl), ↓dZ_S hL hσ (Or.inl rfl), ↓dZ_S hL hσ (Or.inr rfl), ↓dZ_S hL hσ (nB_01 _), ↓dR_S_1 hL hσ, ↓dR_S_2 hL hσ, ↓reduceIte, ↓kq_bi, ↓kq_let, ↓kq_rz0, ↓kq_rz1, ↓kq_rzB, ↓Option.bind_some, kq_dvn, kt_lt, kf_lt, kt_eq, kf_eq, decide_true, decide_false, eq_self, Bool.false_eq_true, Bool.true_eq_false, not_true_eq_false, not_false_eq_true, jU_eq, jU_ne, jU_U, jV_eq, jV_ne, jV_V, kn_lit, kn_add, kn_mul, kn_sdm, kn_sub, kn_div, kn_nsdm, kn_lt, kn_eq, kn_pred, kn_m1, kn_m1', kn_a31, kn_shl, kn_shr, kn_bit, nB_0, nB_1, nB_t, nB_f, Nat.zero_add, Nat.add_zero, Nat.reduceAdd, Nat.reduceMul, Nat.reduceSub, Nat.reducePow]
            refine ih _ ⟨v1, fun y hy => ?_⟩
            rw [s_lk1_0, s_lk2_0, ← s_lk1_n, ← s_lk2_n]
            exact v2 y hy
        · obtain ⟨v1, v2⟩ := hV
          obtain ⟨hT', hR', e⟩ := tr K v1
          show jW (F_Scene_look_c93 (F_Scene_look_l93 n) σ (nI (τ 0 0)) (jz_I h K)) P
          unfold F_Scene_look_c93
          simp (disch := omega) only [cT_f0 hT', ↓dK_S hL hσ, ↓dG_S hL hσ, ↓dP_S hL hσ, ↓dZ_S hL hσ (x := nI 0) (Or.inl rfl), ↓dZ_S hL hσ (x := nI 1) (Or.inr rfl), ↓dZ_S hL hσ (Or.inl rfl), ↓dZ_S hL hσ (Or.inr rfl), ↓dZ_S hL hσ (nB_01 _), ↓dR_S_1 hL hσ, ↓dR_S_2 hL hσ, ↓dK_T hL ht, ↓dG_T hL ht, ↓dP_T hL ht, ↓reduceIte, ↓kq_bi, ↓kq_let, ↓kq_rz0, ↓kq_rz1, ↓kq_rzB, ↓Option.bind_some, kq_dvn, kt_lt, kf_lt, kt_eq, kf_eq, decide_true, decide_false, eq_self, Bool.false_eq_true, Bool.true_eq_false, not_true_eq_false, not_false_eq_true, jU_eq, jU_ne, jU_U, jV_eq, jV_ne, jV_V, kn_lit, kn_add, kn_mul, kn_sdm, kn_sub, kn_div, kn_nsdm, kn_lt, kn_eq, kn_pred, kn_m1, kn_m1', kn_a31, kn_shl, kn_shr, kn_bit, nB_0, nB_1, nB_t, nB_f, Nat.zero_add, Nat.add_zero, Nat.reduceAdd, Nat.reduceMul, Nat.reduceSub, Nat.reducePow]
          refine jW_s (hP _ ⟨⟨by rw [e]; exact j4, by rw [e]; exact j5, by rw [e]; exact j6, fun g hg => ?_⟩, by rw [e]; exact j3, fun k hk => by rw [e]; exact j7 k hk, fun a h1 h2 h3 => by rw [v1 a h2 h3]; exact jf a h1⟩)
          have := v2 g hg
          rw [s_lk1_0, s_lk2_0] at this
          exact this
    have hU : ∀ f, jCT (jU I σ f) t τ ∧ jCR (jU I σ f) (σ + 1) r := fun f => ⟨jCT_congr (fun i hi => jU_ne (by omega)) hT, jCR_congr (jU_ne (by omega)) hR⟩
    unfold F_Scene_look
    cases hd : d
    · rw [hd] at h3 fin
      simp (disch := omega) only [h40, h3, c_hourNow hL hσ (hU _).2, c_windIn hL (hU _).1 ho hh, c_rainsIn hL (hU _).1 ho hh, ↓dK_S hL hσ, ↓dG_S hL hσ, ↓dP_S hL hσ, ↓dZ_S hL hσ (x := nI 0) (Or.inl rfl), ↓dZ_S hL hσ (x := nI 1) (Or.inr rfl), ↓dZ_S hL hσ (Or.inl rfl), ↓dZ_S hL hσ (Or.inr rfl), ↓dZ_S hL hσ (nB_01 _), ↓dR_S_1 hL hσ, ↓dR_S_2 hL hσ, ↓dK_T hL ht, ↓dG_T hL ht, ↓dP_T hL ht, ↓reduceIte, ↓kq_bi, ↓kq_let, ↓kq_rz0, ↓kq_rz1, ↓kq_rzB, ↓Option.bind_some, kq_dvn, kt_lt, kf_lt, kt_eq, kf_eq, decide_true, decide_false, eq_self, Bool.false_eq_true, Bool.true_eq_false, not_true_eq_false, not_false_eq_true, jU_eq, jU_ne, jU_U, jV_eq, jV_ne, jV_V, kn_lit, kn_add, kn_mul, kn_sdm, kn_sub, kn_div, kn_nsdm, kn_lt, kn_eq, kn_pred, kn_m1, kn_m1', kn_a31, kn_shl, kn_shr, kn_bit, nB_0, nB_1, nB_t, nB_f, Nat.zero_add, Nat.add_zero, Nat.reduceAdd, Nat.reduceMul, Nat.reduceSub, Nat.reducePow]
      cases hn : s_any (fun k => decide (τ 7 k ≤ r 133 ∧ r 133 ≤ τ 8 k)) (τ 0 5)
      · have e : s_rain τ false (r 133) = false := by unfold s_rain; rw [hn]; rfl
        simp (disch := omega) only [F_Scene_look_b55, F_Scene_look_b50, ↓dK_S hL hσ, ↓dG_S hL hσ, ↓dP_S hL hσ, ↓dZ_S hL hσ (x := nI 0) (Or.inl rfl), ↓dZ_S hL hσ (x := nI 1) (Or.inr rfl), ↓dZ_S hL hσ (Or.inl rfl), ↓dZ_S hL hσ (Or.inr rfl), ↓dZ_S hL hσ (nB_01 _), ↓dR_S_1 hL hσ, ↓dR_S_2 hL hσ, ↓reduceIte, ↓kq_bi, ↓kq_let, ↓kq_rz0, ↓kq_rz1, ↓kq_rzB, ↓Option.bind_some, kq_dvn, kt_lt, kf_lt, kt_eq, kf_eq, decide_true, decide_false, eq_self, Bool.false_eq_true, Bool.true_eq_false, not_true_eq_false, not_false_eq_true, jU_eq, jU_ne, jU_U, jV_eq, jV_ne, jV_V, kn_lit, kn_add, kn_mul, kn_sdm, kn_sub, kn_div, kn_nsdm, kn_lt, kn_eq, kn_pred, kn_m1, kn_m1', kn_a31, kn_shl, kn_shr, kn_bit, nB_0, nB_1, nB_t, nB_f, Nat.zero_add, Nat.add_zero, Nat.reduceAdd, Nat.reduceMul, Nat.reduceSub, Nat.reducePow]
        exact fin _ (by rw [jU_eq]; rfl) (by rw [jU_eq]; rfl) (by rw [jU_eq, e]; rfl) (by rw [jU_eq]; exact h3) (fun k hk => by rw [jU_eq, jV_ne (by omega), jV_ne (by omega), jV_ne (by omega)]) (fun a ha => jU_ne ha)
      · have e : s_rain τ false (r 133) = true := by unfold s_rain; rw [hn]; rfl
        simp (disch := omega) only [F_Scene_look_b55, F_Scene_look_b50, ↓dK_S hL hσ, ↓dG_S hL hσ, ↓dP_S hL hσ, ↓dZ_S hL hσ (x := nI 0) (Or.inl rfl), ↓dZ_S hL hσ (x := nI 1) (Or.inr rfl), ↓dZ_S hL hσ (Or.inl rfl), ↓dZ_S hL hσ (Or.inr rfl), ↓dZ_S hL hσ (nB_01 _), ↓dR_S_1 hL hσ, ↓dR_S_2 hL hσ, ↓reduceIte, ↓kq_bi, ↓kq_let, ↓kq_rz0, ↓kq_rz1, ↓kq_rzB, ↓Option.bind_some, kq_dvn, kt_lt, kf_lt, kt_eq, kf_eq, decide_true, decide_false, eq_self, Bool.false_eq_true, Bool.true_eq_false, not_true_eq_false, not_false_eq_true, jU_eq, jU_ne, jU_U, jV_eq, jV_ne, jV_V, kn_lit, kn_add, kn_mul, kn_sdm, kn_sub, kn_div, kn_nsdm, kn_lt, kn_eq, kn_pred, kn_m1, kn_m1', kn_a31, kn_shl, kn_shr, kn_bit, nB_0, nB_1, nB_t, nB_f, Nat.zero_add, Nat.add_zero, Nat.reduceAdd, Nat.reduceMul, Nat.reduceSub, Nat.reducePow]
        exact fin _ (by rw [jU_eq]; rfl) (by rw [jU_eq]; rfl) (by rw [jU_eq, e]; rfl) (by rw [jU_eq]; exact h3) (fun k hk => by rw [jU_eq, jV_ne (by omega), jV_ne (by omega), jV_ne (by omega)]) (fun a ha => jU_ne ha)
    · rw [hd] at h3 fin
      have e : s_rain τ true (r 133) = true := by unfold s_rain; rw [Bool.or_true]
      simp (disch := omega) only [h40, h3, c_hourNow hL hσ (hU _).2, c_windIn hL (hU _).1 ho hh, F_Scene_look_b55, F_Scene_look_b50, ↓dK_S hL hσ, ↓dG_S hL hσ, ↓dP_S hL hσ, ↓dZ_S hL hσ (x := nI 0) (Or.inl rfl), ↓dZ_S hL hσ (x := nI 1) (Or.inr rfl), ↓dZ_S hL hσ (Or.inl rfl), ↓dZ_S hL hσ (Or.inr rfl), ↓dZ_S hL hσ (nB_01 _), ↓dR_S_1 hL hσ, ↓dR_S_2 hL hσ, ↓dK_T hL ht, ↓dG_T hL ht, ↓dP_T hL ht, ↓reduceIte, ↓kq_bi, ↓kq_let, ↓kq_rz0, ↓kq_rz1, ↓kq_rzB, ↓Option.bind_some, kq_dvn, kt_lt, kf_lt, kt_eq, kf_eq, decide_true, decide_false, eq_self, Bool.false_eq_true, Bool.true_eq_false, not_true_eq_false, not_false_eq_true, jU_eq, jU_ne, jU_U, jV_eq, jV_ne, jV_V, kn_lit, kn_add, kn_mul, kn_sdm, kn_sub, kn_div, kn_nsdm, kn_lt, kn_eq, kn_pred, kn_m1, kn_m1', kn_a31, kn_shl, kn_shr, kn_bit, nB_0, nB_1, nB_t, nB_f, Nat.zero_add, Nat.add_zero, Nat.reduceAdd, Nat.reduceMul, Nat.reduceSub, Nat.reducePow]
      exact fin _ (by rw [jU_eq]; rfl) (by rw [jU_eq]; rfl) (by rw [jU_eq, e]; rfl) (by rw [jU_eq]; exact h3) (fun k hk => by rw [jU_eq, jV_ne (by omega), jV_ne (by omega), jV_ne (by omega)]) (fun a ha => jU_ne ha)
theorem c_joined {w : Nat} (hw : 2 ≤ w) (hw7 : w ≤ 7) (a : Nat) (x y : Int32) (g : LH) : F_Law_joined a (-nI (9 + w)) x y g = some (s_by w x y, g) := by
  unfold F_Law_joined s_by
  have e : w = 2 ∨ w = 3 ∨ w = 4 ∨ w = 5 ∨ w = 6 ∨ w = 7 := by omega
  rcases e with rfl | rfl | rfl | rfl | rfl | rfl
  · simp (disch := omega) only [kn_neq, ↓reduceIte, ↓kq_bi, ↓kq_let, ↓kq_rz0, ↓kq_rz1, ↓kq_rzB, ↓Option.bind_some, kq_dvn, kt_lt, kf_lt, kt_eq, kf_eq, decide_true, decide_false, eq_self, Bool.false_eq_true, Bool.true_eq_false, not_true_eq_false, not_false_eq_true, jU_eq, jU_ne, jU_U, jV_eq, jV_ne, jV_V, kn_lit, kn_add, kn_mul, kn_sdm, kn_sub, kn_div, kn_nsdm, kn_lt, kn_eq, kn_pred, kn_m1, kn_m1', kn_a31, kn_shl, kn_shr, kn_bit, nB_0, nB_1, nB_t, nB_f, Nat.zero_add, Nat.add_zero, Nat.reduceAdd, Nat.reduceMul, Nat.reduceSub, Nat.reducePow]
  · simp (disch := omega) only [kn_neq, ↓reduceIte, ↓kq_bi, ↓kq_let, ↓kq_rz0, ↓kq_rz1, ↓kq_rzB, ↓Option.bind_some, kq_dvn, kt_lt, kf_lt, kt_eq, kf_eq, decide_true, decide_false, eq_self, Bool.false_eq_true, Bool.true_eq_false, not_true_eq_false, not_false_eq_true, jU_eq, jU_ne, jU_U, jV_eq, jV_ne, jV_V, kn_lit, kn_add, kn_mul, kn_sdm, kn_sub, kn_div, kn_nsdm, kn_lt, kn_eq, kn_pred, kn_m1, kn_m1', kn_a31, kn_shl, kn_shr, kn_bit, nB_0, nB_1, nB_t, nB_f, Nat.zero_add, Nat.add_zero, Nat.reduceAdd, Nat.reduceMul, Nat.reduceSub, Nat.reducePow]
  · simp (disch := omega) only [kn_neq, ↓reduceIte, ↓kq_bi, ↓kq_let, ↓kq_rz0, ↓kq_rz1, ↓kq_rzB, ↓Option.bind_some, kq_dvn, kt_lt, kf_lt, kt_eq, kf_eq, decide_true, decide_false, eq_self, Bool.false_eq_true, Bool.true_eq_false, not_true_eq_false, not_false_eq_true, jU_eq, jU_ne, jU_U, jV_eq, jV_ne, jV_V, kn_lit, kn_add, kn_mul, kn_sdm, kn_sub, kn_div, kn_nsdm, kn_lt, kn_eq, kn_pred, kn_m1, kn_m1', kn_a31, kn_shl, kn_shr, kn_bit, nB_0, nB_1, nB_t, nB_f, Nat.zero_add, Nat.add_zero, Nat.reduceAdd, Nat.reduceMul, Nat.reduceSub, Nat.reducePow]
  · simp (disch := omega) only [kn_neq, F_Law_joined_b59, ↓reduceIte, ↓kq_bi, ↓kq_let, ↓kq_rz0, ↓kq_rz1, ↓kq_rzB, ↓Option.bind_some, kq_dvn, kt_lt, kf_lt, kt_eq, kf_eq, decide_true, decide_false, eq_self, Bool.false_eq_true, Bool.true_eq_false, not_true_eq_false, not_false_eq_true, jU_eq, jU_ne, jU_U, jV_eq, jV_ne, jV_V, kn_lit, kn_add, kn_mul, kn_sdm, kn_sub, kn_div, kn_nsdm, kn_lt, kn_eq, kn_pred, kn_m1, kn_m1', kn_a31, kn_shl, kn_shr, kn_bit, nB_0, nB_1, nB_t, nB_f, Nat.zero_add, Nat.add_zero, Nat.reduceAdd, Nat.reduceMul, Nat.reduceSub, Nat.reducePow]
    by_cases h0 : y = nI 0
    · simp only [h0, ↓reduceIte, eq_self]
    · simp only [h0, ↓reduceIte, jf_dv, kn_lit]
  · simp (disch := omega) only [kn_neq, F_Law_joined_b70, ↓reduceIte, ↓kq_bi, ↓kq_let, ↓kq_rz0, ↓kq_rz1, ↓kq_rzB, ↓Option.bind_some, kq_dvn, kt_lt, kf_lt, kt_eq, kf_eq, decide_true, decide_false, eq_self, Bool.false_eq_true, Bool.true_eq_false, not_true_eq_false, not_false_eq_true, jU_eq, jU_ne, jU_U, jV_eq, jV_ne, jV_V, kn_lit, kn_add, kn_mul, kn_sdm, kn_sub, kn_div, kn_nsdm, kn_lt, kn_eq, kn_pred, kn_m1, kn_m1', kn_a31, kn_shl, kn_shr, kn_bit, nB_0, nB_1, nB_t, nB_f, Nat.zero_add, Nat.add_zero, Nat.reduceAdd, Nat.reduceMul, Nat.reduceSub, Nat.reducePow]
    by_cases hc : x < y
    · simp only [hc, ↓reduceIte]
    · simp only [hc, ↓reduceIte]
  · simp (disch := omega) only [kn_neq, F_Law_joined_b81, ↓reduceIte, ↓kq_bi, ↓kq_let, ↓kq_rz0, ↓kq_rz1, ↓kq_rzB, ↓Option.bind_some, kq_dvn, kt_lt, kf_lt, kt_eq, kf_eq, decide_true, decide_false, eq_self, Bool.false_eq_true, Bool.true_eq_false, not_true_eq_false, not_false_eq_true, jU_eq, jU_ne, jU_U, jV_eq, jV_ne, jV_V, kn_lit, kn_add, kn_mul, kn_sdm, kn_sub, kn_div, kn_nsdm, kn_lt, kn_eq, kn_pred, kn_m1, kn_m1', kn_a31, kn_shl, kn_shr, kn_bit, nB_0, nB_1, nB_t, nB_f, Nat.zero_add, Nat.add_zero, Nat.reduceAdd, Nat.reduceMul, Nat.reduceSub, Nat.reducePow]
    by_cases hc : y < x
    · simp only [hc, ↓reduceIte]
    · simp only [hc, ↓reduceIte]
theorem s_code_0 (v : Nat) : s_code 0 v = nI v := rfl
theorem s_code_1 (v : Nat) : s_code 1 v = -nI (1 + v) := by rw [← kn_nsub]; rfl
theorem s_code_2 {w : Nat} (hw : 2 ≤ w) (v : Nat) : s_code w v = -nI (9 + w) := by
  unfold s_code
  rw [if_neg (by omega), if_neg (by omega), kn_nsub]
theorem c_shuts (hL : jLay t u l m b c h) (hσ : σ = 85 ∨ σ = 90) (hω : jLOK ω) (hC : jCL I l ω) {kn : Nat → Int32} (hk : ∀ j, j < 7 → I (σ + 4) j = kn j) : ∃ J, F_Law_shuts l (σ + 4) (jz_I h I) = some (nB (decide (nI 0 < s_ev ω.2 kn ω.1 0)), jz_I h J) ∧ ∃ st, J = jU I (l + 2) st := by
  have hl := jLay_l hL
  obtain ⟨hn1, hn, hs⟩ := hω
  obtain ⟨h0, hc⟩ := hC
  refine jE_i (fun P hP => ?_)
  unfold F_Law_shuts
  have h0' : ∀ f : Nat → Int32, jU I (l + 2) f l 2 = nI ω.1 := fun f => by rw [jU_ne (by omega)]; exact h0
  have hc' : ∀ (f : Nat → Int32) (k : Nat), k < ω.1 → jU I (l + 2) f (l + 1) k = s_code (ω.2 k 0) (ω.2 k 1) := fun f k hk => by rw [jU_ne (by omega)]; exact hc k hk
  have hk' : ∀ (f : Nat → Int32) (j : Nat), j < 7 → jU I (l + 2) f (σ + 4) j = kn j := fun f j hj => by rw [jU_ne (by omega)]; exact hk j hj
  have hal : ∀ {K : Nat → Nat → Int32} {G : Int32 → Option (Int32 × LH)}, jf_al (jz_I h K) (l + 2) G = G (nI 150) := fun {K G} => by
    unfold jf_al
    rw [if_pos (Or.inl (by rw [show jl_kd (jz_I h K) (l + 2) = 20 from lk_L2 hL hl]; decide)), show jl_ln (jz_I h K) (l + 2) = 150 from ll_L2 hL hl]
    rfl
  refine (jU_id (I := I) (a := l + 2)) ▸ jW_for0 (f := fun fuel k (s : Nat → Int32) => F_Law_shuts_l4 fuel l (σ + 4) (nI (s_dep ω.2 k)) (nI k) (jz_I h (jU I (l + 2) s))) ω.1 (fun k s => ∀ j, j < s_dep ω.2 k → s j = s_ev ω.2 kn k j) (I (l + 2)) (fun j hj => absurd hj (Nat.not_lt_zero j)) (by omega) (fun n k s hlt hV ih => ?_) (fun n s hV => ?_)
  · have hdk := s_dep_le ω.2 k
    obtain ⟨a7, a0, a1, a2⟩ := hs k hlt
    have hs1 : s_ev ω.2 kn (k + 1) = (if ω.2 k 0 < 2 then jV (s_ev ω.2 kn k) (s_dep ω.2 k) (if ω.2 k 0 = 0 then nI (ω.2 k 1) else kn (ω.2 k 1)) else jV (s_ev ω.2 kn k) (s_dep ω.2 k - 2) (s_by (ω.2 k 0) (s_ev ω.2 kn k (s_dep ω.2 k - 2)) (s_ev ω.2 kn k (s_dep ω.2 k - 1)))) := rfl
    have hck := fun f => hc' f k hlt
    show jW (F_Law_shuts_c4 (F_Law_shuts_l4 n) l (σ + 4) (nI (s_dep ω.2 k)) (nI k) (jz_I h (jU I (l + 2) s))) P
    unfold F_Law_shuts_c4
    by_cases hw : ω.2 k 0 < 2
    · have hd' : s_dep ω.2 (k + 1) = s_dep ω.2 k + 1 := if_pos hw
      have ih' := ih (jV s (s_dep ω.2 k) (if ω.2 k 0 = 0 then nI (ω.2 k 1) else kn (ω.2 k 1))) (fun j hj => by
        rw [hs1, if_pos hw]
        unfold jV
        by_cases hj2 : j = s_dep ω.2 k
        · rw [if_pos hj2, if_pos hj2]
        · rw [if_neg hj2, if_neg hj2]
          exact hV j (by omega))
      by_cases hw0 : ω.2 k 0 = 0
      · have hv := a0 hw0
        rw [hd', if_pos hw0] at ih'
        rw [hw0, s_code_0] at hck
        simp (disch := omega) only [h0', hck, hal, kn_nltp, F_Law_shuts_b57, F_Law_shuts_b100, ↓dK_L hL hl, ↓dG_L hL hl, ↓dP_L hL hl, ↓dR_L_0 hL hl, dI_L1 hL hl, dS_L1 hL hl, ↓dR_L_1 hL hl, dI_L2 hL hl, dS_L2 hL hl, ↓dR_S_9 hL hσ, dI_S4 hL hσ, dS_S4 hL hσ, ↓reduceIte, ↓kq_bi, ↓kq_let, ↓kq_rz0, ↓kq_rz1, ↓kq_rzB, ↓Option.bind_some, kq_dvn, kt_lt, kf_lt, kt_eq, kf_eq, decide_true, decide_false, eq_self, Bool.false_eq_true, Bool.true_eq_false, not_true_eq_false, not_false_eq_true, jU_eq, jU_ne, jU_U, jV_eq, jV_ne, jV_V, kn_lit, kn_add, kn_mul, kn_sdm, kn_sub, kn_div, kn_nsdm, kn_lt, kn_eq, kn_pred, kn_m1, kn_m1', kn_a31, kn_shl, kn_shr, kn_bit, nB_0, nB_1, nB_t, nB_f, Nat.zero_add, Nat.add_zero, Nat.reduceAdd, Nat.reduceMul, Nat.reduceSub, Nat.reducePow]
        exact ih'
      · have hw1 : ω.2 k 0 = 1 := by omega
        have hv := a1 hw1
        rw [hd', if_neg hw0] at ih'
        rw [hw1, s_code_1] at hck
        simp (disch := omega) only [h0', hck, hal, hk', kn_nlt, kn_nltp, kn_pltn, kn_nn, Nat.add_sub_cancel_left, F_Law_shuts_b57, F_Law_shuts_b100, ↓dK_L hL hl, ↓dG_L hL hl, ↓dP_L hL hl, ↓dR_L_0 hL hl, dI_L1 hL hl, dS_L1 hL hl, ↓dR_L_1 hL hl, dI_L2 hL hl, dS_L2 hL hl, ↓dR_S_9 hL hσ, dI_S4 hL hσ, dS_S4 hL hσ, ↓reduceIte, ↓kq_bi, ↓kq_let, ↓kq_rz0, ↓kq_rz1, ↓kq_rzB, ↓Option.bind_some, kq_dvn, kt_lt, kf_lt, kt_eq, kf_eq, decide_true, decide_false, eq_self, Bool.false_eq_true, Bool.true_eq_false, not_true_eq_false, not_false_eq_true, jU_eq, jU_ne, jU_U, jV_eq, jV_ne, jV_V, kn_lit, kn_add, kn_mul, kn_sdm, kn_sub, kn_div, kn_nsdm, kn_lt, kn_eq, kn_pred, kn_m1, kn_m1', kn_a31, kn_shl, kn_shr, kn_bit, nB_0, nB_1, nB_t, nB_f, Nat.zero_add, Nat.add_zero, Nat.reduceAdd, Nat.reduceMul, Nat.reduceSub, Nat.reducePow]
        exact ih'
    · have hd' : s_dep ω.2 (k + 1) = s_dep ω.2 k - 1 := if_neg hw
      have h2 := a2 (by omega)
      have ih' := ih (jV s (s_dep ω.2 k - 2) (s_by (ω.2 k 0) (s (s_dep ω.2 k - 2)) (s (s_dep ω.2 k - 1)))) (fun j hj => by
        rw [hs1, if_neg hw]
        unfold jV
        rw [hV _ (show s_dep ω.2 k - 2 < s_dep ω.2 k by omega), hV _ (show s_dep ω.2 k - 1 < s_dep ω.2 k by omega)]
        by_cases hj2 : j = s_dep ω.2 k - 2
        · rw [if_pos hj2, if_pos hj2]
        · rw [if_neg hj2, if_neg hj2]
          exact hV j (by omega))
      rw [hd'] at ih'
      rw [s_code_2 (by omega)] at hck
      simp (disch := omega) only [h0', hck, kn_nlt, kn_pltn, c_joined, F_Law_shuts_b100, Nat.sub_sub, ↓dK_L hL hl, ↓dG_L hL hl, ↓dP_L hL hl, ↓dR_L_0 hL hl, dI_L1 hL hl, dS_L1 hL hl, ↓dR_L_1 hL hl, dI_L2 hL hl, dS_L2 hL hl, ↓dR_S_9 hL hσ, dI_S4 hL hσ, dS_S4 hL hσ, ↓reduceIte, ↓kq_bi, ↓kq_let, ↓kq_rz0, ↓kq_rz1, ↓kq_rzB, ↓Option.bind_some, kq_dvn, kt_lt, kf_lt, kt_eq, kf_eq, decide_true, decide_false, eq_self, Bool.false_eq_true, Bool.true_eq_false, not_true_eq_false, not_false_eq_true, jU_eq, jU_ne, jU_U, jV_eq, jV_ne, jV_V, kn_lit, kn_add, kn_mul, kn_sdm, kn_sub, kn_div, kn_nsdm, kn_lt, kn_eq, kn_pred, kn_m1, kn_m1', kn_a31, kn_shl, kn_shr, kn_bit, nB_0, nB_1, nB_t, nB_f, Nat.zero_add, Nat.add_zero, Nat.reduceAdd, Nat.reduceMul, Nat.reduceSub, Nat.reducePow]
      exact ih'
  · have hp := s_dep_pos (ω := ω) ⟨hn1, hn, hs⟩ (ω.1 - 1) (by omega)
    rw [show ω.1 - 1 + 1 = ω.1 by omega] at hp
    show jW (F_Law_shuts_c4 (F_Law_shuts_l4 n) l (σ + 4) (nI (s_dep ω.2 ω.1)) (nI ω.1) (jz_I h (jU I (l + 2) s))) P
    unfold F_Law_shuts_c4
    have hd9 := s_dep_le ω.2 ω.1
    simp (disch := omega) only [h0', hV 0 hp, ↓dK_L hL hl, ↓dG_L hL hl, ↓dP_L hL hl, ↓dR_L_0 hL hl, dI_L1 hL hl, dS_L1 hL hl, ↓dR_L_1 hL hl, dI_L2 hL hl, dS_L2 hL hl, ↓dR_S_9 hL hσ, dI_S4 hL hσ, dS_S4 hL hσ, ↓reduceIte, ↓kq_bi, ↓kq_let, ↓kq_rz0, ↓kq_rz1, ↓kq_rzB, ↓Option.bind_some, kq_dvn, kt_lt, kf_lt, kt_eq, kf_eq, decide_true, decide_false, eq_self, Bool.false_eq_true, Bool.true_eq_false, not_true_eq_false, not_false_eq_true, jU_eq, jU_ne, jU_U, jV_eq, jV_ne, jV_V, kn_lit, kn_add, kn_mul, kn_sdm, kn_sub, kn_div, kn_nsdm, kn_lt, kn_eq, kn_pred, kn_m1, kn_m1', kn_a31, kn_shl, kn_shr, kn_bit, nB_0, nB_1, nB_t, nB_f, Nat.zero_add, Nat.add_zero, Nat.reduceAdd, Nat.reduceMul, Nat.reduceSub, Nat.reducePow]
    by_cases hcc : nI 0 < s_ev ω.2 kn ω.1 0
    · rw [decide_eq_true hcc] at hP
      simp only [hcc, ↓reduceIte, F_Law_shuts_b124, F_Law_shuts_b123, kn_lit, ↓kq_rz1]
      exact jW_s (hP _ ⟨s, rfl⟩)
    · rw [decide_eq_false hcc] at hP
      simp only [hcc, ↓reduceIte, F_Law_shuts_b124, F_Law_shuts_b123, kn_lit, ↓kq_rz0]
      exact jW_s (hP _ ⟨s, rfl⟩)
end

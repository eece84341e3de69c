/-! PLAIN LEAN, 11: the class: is shut; rows that change -/
/-- rows alike in all that smoke rests on -/
def jAg (r q : JRw) : Prop := ∀ i, (i < 117 ∨ i = 133) → q i = r i
section
variable {t u l m b c : Nat} {h : LH} {I J K : Nat → Nat → Int32} {τ : JTn} {r q : JRw} {σ i : Nat} {Q : Type} {x : Int32} {d : Bool} {ω : JLw} {f : Nat → Int32}
theorem s_ag_st (ha : jAg r q) (g : Nat) : s_st τ q g = s_st τ r g := by unfold s_st s_stl; rw [ha 133 (Or.inr rfl)]
theorem s_ag_smf (hr : jROK τ r) (ha : jAg r q) {g : Nat} (hg : g < 9) : s_smf τ d q g = s_smf τ d r g := by
  have b := hr.1 g hg
  unfold s_smf
  rw [ha (108 + g) (by omega)]
  refine s_sum_congr _ (fun k hk => ?_)
  unfold s_th
  rw [ha 133 (Or.inr rfl), ha (6 * g + k) (by omega)]
theorem s_ag_sma (ho : jTOK τ) (hr : jROK τ r) (ha : jAg r q) (g : Nat) : s_sma τ d q g = s_sma τ d r g := by
  have o0 : τ 0 0 ≤ 9 := ho.1
  refine s_sum_congr _ (fun x hx => ?_)
  rw [s_ag_st ha, s_ag_smf hr ha (by omega)]
theorem s_ag_sca (ho : jTOK τ) (hr : jROK τ r) (ha : jAg r q) (g : Nat) : s_sca τ q g = s_sca τ r g := by
  have o0 : τ 0 0 ≤ 9 := ho.1
  refine s_or_congr _ (fun x hx => ?_)
  have b := hr.1 x (by omega)
  unfold s_scx
  rw [ha (108 + x) (by omega)]
  refine s_or_congr _ (fun k hk => ?_)
  rw [s_ag_st ha, ha (6 * x + k) (by omega)]
theorem s_ag_shb (ho : jTOK τ) (hr : jROK τ r) (ha : jAg r q) (g sm lg : Nat) : s_shb τ ω d q g sm lg = s_shb τ ω d r g sm lg := by
  have e : s_kn τ d q g sm lg = s_kn τ d r g sm lg := by
    funext j
    unfold s_kn
    rw [ha 133 (Or.inr rfl), s_ag_sca ho hr ha]
  unfold s_shb
  rw [e]
theorem s_ag_sh (ho : jTOK τ) (hr : jROK τ r) (ha : jAg r q) {g : Nat} (hg : g < 9) : s_sh τ ω d q g = s_sh τ ω d r g := by
  unfold s_sh
  rw [s_ag_shb ho hr ha, s_ag_sma ho hr ha, ha (108 + g) (by omega)]
theorem jCK_congr (h : ∀ a, σ ≤ a → a < σ + 4 → J a = I a) (hK : jCK I σ τ d r) : jCK J σ τ d r := by
  unfold jCK at hK ⊢
  rw [h σ (by omega) (by omega), h (σ + 2) (by omega) (by omega), h (σ + 3) (by omega) (by omega)]
  exact hK
theorem jCS_congr (h : ∀ a, σ ≤ a → a < σ + 4 → J a = I a) (hS : jCS I σ τ d r) : jCS J σ τ d r := ⟨jCR_congr (h _ (by omega) (by omega)) hS.1, by rw [h σ (by omega) (by omega)]; exact hS.2.1, hS.2.2.elim (fun z => Or.inl (by rw [h σ (by omega) (by omega)]; exact z)) (fun z => Or.inr (jCK_congr h z))⟩
theorem jCK_ag (ho : jTOK τ) (hr : jROK τ r) (ha : jAg r q) (hK : jCK I σ τ d r) : jCK I σ τ d q := by
  obtain ⟨h4, h5, h6, hg⟩ := hK
  have e := ha 133 (Or.inr rfl)
  exact ⟨h4, by rw [e]; exact h5, by rw [e]; exact h6, fun g hgg => by rw [s_ag_sma ho hr ha, s_ag_sca ho hr ha]; exact hg g hgg⟩
theorem c_looks (hL : jLay t u l m b c h) (hE : jCE I t l τ ω) (hσ : σ = 85 ∨ σ = 90) (hS : jCS I σ τ d r) (hr : jROK τ r) : ∃ J, F_Scene_look σ (jz_I h I) = some (jz_I h J) ∧ jCK J σ τ d r ∧ jCS J σ τ d r ∧ jSc l σ I J ∧ J (σ + 1) = I (σ + 1) := by
  obtain ⟨J, e, h1, h2, h3, h4⟩ := c_look hL hE hσ hS hr
  exact ⟨J, e, h1, ⟨jCR_congr (h4 _ (by omega) (by omega) (by omega)) hS.1, h2, Or.inr h1⟩, fun a x y => h4 a (by omega) (by omega) (by omega), h4 _ (by omega) (by omega) (by omega)⟩
theorem c_sense (hL : jLay t u l m b c h) (ho : jTOK τ) (hσ : σ = 85 ∨ σ = 90) (hR : jCR I (σ + 1) r) (hK : jCK I σ τ d r) (hr : jROK τ r) {g sm lg : Nat} (hg : g < τ 0 0) : ∃ J, F_Scene_sense σ (nI g) (nI sm) (nI lg) (jz_I h I) = some (jz_I h J) ∧ ∃ f, J = jU I (σ + 4) f ∧ ∀ j, j < 7 → f j = s_kn τ d r g sm lg j := by
  have o0 : τ 0 0 ≤ 9 := ho.1
  have hh : r 133 < 100000 := hr.2.2.2.2 133 (by omega)
  obtain ⟨k4, k5, k6, k7⟩ := hK
  have hU : ∀ f, jCR (jU I (σ + 4) f) (σ + 1) r ∧ jU I (σ + 4) f σ = I σ ∧ jU I (σ + 4) f (σ + 3) g = nI (s_sca τ r g) := fun f => ⟨jCR_congr (jU_ne (by omega)) hR, jU_ne (by omega), by rw [jU_ne (by omega)]; exact (k7 g hg).2⟩
  refine jE_n (fun P hP => ?_)
  unfold F_Scene_sense
  simp (disch := omega) only [c_hourNow hL hσ (hU _).1, (hU _).2.1, (hU _).2.2, k5, k6, ↓dK_S hL hσ, ↓dG_S hL hσ, ↓dP_S hL hσ, ↓dZ_S hL hσ (x := nI 0) (Or.inl rfl), ↓dZ_S hL hσ (x := nI 1) (Or.inr rfl), ↓dZ_S hL hσ (Or.inl rfl), ↓dZ_S hL hσ (Or.inr rfl), ↓dZ_S hL hσ (nB_01 _), ↓dR_S_1 hL hσ, ↓dR_S_2 hL hσ, ↓dR_S_9 hL hσ, dI_S4 hL hσ, dS_S4 hL hσ, ↓dR_S_8 hL hσ, dI_S3 hL hσ, dS_S3 hL hσ, ↓reduceIte, ↓kq_bi, ↓kq_let, ↓kq_rz0, ↓kq_rz1, ↓kq_rzB, ↓Option.bind_some, kq_dvn, kt_lt, kf_lt, kt_eq, kf_eq, decide_true, decide_false, eq_self, Bool.false_eq_true, Bool.true_eq_false, not_true_eq_false, not_false_eq_true, jU_eq, jU_ne, jU_U, jV_eq, jV_ne, jV_V, kn_lit, kn_add, kn_mul, kn_sdm, kn_sub, kn_div, kn_nsdm, kn_lt, kn_eq, kn_pred, kn_m1, kn_m1', kn_a31, kn_shl, kn_shr, kn_bit, nB_0, nB_1, nB_t, nB_f, Nat.zero_add, Nat.add_zero, Nat.reduceAdd, Nat.reduceMul, Nat.reduceSub, Nat.reducePow]
  refine jW_s (hP _ ⟨_, rfl, fun j hj => ?_⟩)
  have : j = 0 ∨ j = 1 ∨ j = 2 ∨ j = 3 ∨ j = 4 ∨ j = 5 ∨ j = 6 := by omega
  rcases this with rfl | rfl | rfl | rfl | rfl | rfl | rfl <;> simp [jV, s_kn]
theorem c_isShutBy (hL : jLay t u l m b c h) (hE : jCE I t l τ ω) (hσ : σ = 85 ∨ σ = 90) (hS : jCS I σ τ d r) (hr : jROK τ r) {g sm lg : Nat} (hg : g < τ 0 0) : ∃ J, F_Scene_isShutBy σ (nI g) (nI sm) (nI lg) (jz_I h I) = some (nB (s_shb τ ω d r g sm lg), jz_I h J) ∧ jCS J σ τ d r ∧ jSc l σ I J ∧ J (σ + 1) = I (σ + 1) := by
  have hl := jLay_l hL
  refine jE_i (fun P hP => ?_)
  unfold F_Scene_isShutBy
  simp (disch := omega) only [↓dK_S hL hσ, ↓dG_S hL hσ, ↓dP_S hL hσ, ↓dZ_S hL hσ (x := nI 0) (Or.inl rfl), ↓dZ_S hL hσ (x := nI 1) (Or.inr rfl), ↓dZ_S hL hσ (Or.inl rfl), ↓dZ_S hL hσ (Or.inr rfl), ↓dZ_S hL hσ (nB_01 _), ↓dR_S_1 hL hσ, ↓dR_S_2 hL hσ, ↓reduceIte, ↓kq_bi, ↓kq_let, ↓kq_rz0, ↓kq_rz1, ↓kq_rzB, ↓Option.bind_some, kq_dvn, kt_lt, kf_lt, kt_eq, kf_eq, decide_true, decide_false, eq_self, Bool.false_eq_true, Bool.true_eq_false, not_true_eq_false, not_false_eq_true, jU_eq, jU_ne, jU_U, jV_eq, jV_ne, jV_V, kn_lit, kn_add, kn_mul, kn_sdm, kn_sub, kn_div, kn_nsdm, kn_lt, kn_eq, kn_pred, kn_m1, kn_m1', kn_a31, kn_shl, kn_shr, kn_bit, nB_0, nB_1, nB_t, nB_f, Nat.zero_add, Nat.add_zero, Nat.reduceAdd, Nat.reduceMul, Nat.reduceSub, Nat.reducePow]
  refine jW_bn (c_looks hL hE hσ hS hr) (fun J1 hJ => ?_)
  obtain ⟨j1, j2, j3, j4⟩ := hJ
  simp (disch := omega) only [↓dK_S hL hσ, ↓dG_S hL hσ, ↓dP_S hL hσ, ↓dZ_S hL hσ (x := nI 0) (Or.inl rfl), ↓dZ_S hL hσ (x := nI 1) (Or.inr rfl), ↓dZ_S hL hσ (Or.inl rfl), ↓dZ_S hL hσ (Or.inr rfl), ↓dZ_S hL hσ (nB_01 _), ↓dR_S_1 hL hσ, ↓dR_S_2 hL hσ, ↓reduceIte, ↓kq_bi, ↓kq_let, ↓kq_rz0, ↓kq_rz1, ↓kq_rzB, ↓Option.bind_some, kq_dvn, kt_lt, kf_lt, kt_eq, kf_eq, decide_true, decide_false, eq_self, Bool.false_eq_true, Bool.true_eq_false, not_true_eq_false, not_false_eq_true, jU_eq, jU_ne, jU_U, jV_eq, jV_ne, jV_V, kn_lit, kn_add, kn_mul, kn_sdm, kn_sub, kn_div, kn_nsdm, kn_lt, kn_eq, kn_pred, kn_m1, kn_m1', kn_a31, kn_shl, kn_shr, kn_bit, nB_0, nB_1, nB_t, nB_f, Nat.zero_add, Nat.add_zero, Nat.reduceAdd, Nat.reduceMul, Nat.reduceSub, Nat.reducePow]
  refine jW_bn (c_sense hL hE.2.1 hσ j2.1 j1 hr hg) (fun J2 hJ => ?_)
  obtain ⟨f, rfl, hf⟩ := hJ
  have hE2 := (jCE_Sc hL hσ (jSc_trans j3 (fun a x y => jU_ne (f := f) (a := σ + 4) (by omega))) hE)
  simp (disch := omega) only [↓dK_S hL hσ, ↓dG_S hL hσ, ↓dP_S hL hσ, ↓dZ_S hL hσ (x := nI 0) (Or.inl rfl), ↓dZ_S hL hσ (x := nI 1) (Or.inr rfl), ↓dZ_S hL hσ (Or.inl rfl), ↓dZ_S hL hσ (Or.inr rfl), ↓dZ_S hL hσ (nB_01 _), ↓dR_S_1 hL hσ, ↓dR_S_2 hL hσ, ↓dR_S_9 hL hσ, dI_S4 hL hσ, dS_S4 hL hσ, ↓dK_L hL hl, ↓dG_L hL hl, ↓dP_L hL hl, ↓reduceIte, ↓kq_bi, ↓kq_let, ↓kq_rz0, ↓kq_rz1, ↓kq_rzB, ↓Option.bind_some, kq_dvn, kt_lt, kf_lt, kt_eq, kf_eq, decide_true, decide_false, eq_self, Bool.false_eq_true, Bool.true_eq_false, not_true_eq_false, not_false_eq_true, jU_eq, jU_ne, jU_U, jV_eq, jV_ne, jV_V, kn_lit, kn_add, kn_mul, kn_sdm, kn_sub, kn_div, kn_nsdm, kn_lt, kn_eq, kn_pred, kn_m1, kn_m1', kn_a31, kn_shl, kn_shr, kn_bit, nB_0, nB_1, nB_t, nB_f, Nat.zero_add, Nat.add_zero, Nat.reduceAdd, Nat.reduceMul, Nat.reduceSub, Nat.reducePow]
  refine jW_bi (c_shuts hL hσ hE2.2.2.2 hE2.2.2.1 (kn := s_kn τ d r g sm lg) (fun j hj => by rw [jU_eq]; exact hf j hj)) (fun J3 hJ => ?_)
  obtain ⟨st, rfl⟩ := hJ
  rw [kq_rzB]
  exact jW_s (hP _ ⟨jCS_congr (fun a h1 h2 => by rw [jU_ne (by omega), jU_ne (by omega)]) j2, fun a x y => by rw [jU_ne y, jU_ne (by omega)]; exact j3 a x y, by rw [jU_ne (by omega), jU_ne (by omega)]; exact j4⟩)
theorem c_isShut (hL : jLay t u l m b c h) (hE : jCE I t l τ ω) (hσ : σ = 85 ∨ σ = 90) (hS : jCS I σ τ d r) (hr : jROK τ r) {g : Nat} (hg : g < τ 0 0) : ∃ J, F_Scene_isShut σ (nI g) (jz_I h I) = some (nB (s_sh τ ω d r g), jz_I h J) ∧ jCS J σ τ d r ∧ jSc l σ I J ∧ J (σ + 1) = I (σ + 1) := by
  have hl := jLay_l hL
  have o0 : τ 0 0 ≤ 9 := hE.2.1.1
  unfold F_Scene_isShut s_sh
  refine jE_i (fun P hP => ?_)
  simp (disch := omega) only [↓dK_S hL hσ, ↓dG_S hL hσ, ↓dP_S hL hσ, ↓dZ_S hL hσ (x := nI 0) (Or.inl rfl), ↓dZ_S hL hσ (x := nI 1) (Or.inr rfl), ↓dZ_S hL hσ (Or.inl rfl), ↓dZ_S hL hσ (Or.inr rfl), ↓dZ_S hL hσ (nB_01 _), ↓dR_S_1 hL hσ, ↓dR_S_2 hL hσ, ↓reduceIte, ↓kq_bi, ↓kq_let, ↓kq_rz0, ↓kq_rz1, ↓kq_rzB, ↓Option.bind_some, kq_dvn, kt_lt, kf_lt, kt_eq, kf_eq, decide_true, decide_false, eq_self, Bool.false_eq_true, Bool.true_eq_false, not_true_eq_false, not_false_eq_true, jU_eq, jU_ne, jU_U, jV_eq, jV_ne, jV_V, kn_lit, kn_add, kn_mul, kn_sdm, kn_sub, kn_div, kn_nsdm, kn_lt, kn_eq, kn_pred, kn_m1, kn_m1', kn_a31, kn_shl, kn_shr, kn_bit, nB_0, nB_1, nB_t, nB_f, Nat.zero_add, Nat.add_zero, Nat.reduceAdd, Nat.reduceMul, Nat.reduceSub, Nat.reducePow]
  refine jW_bn (c_looks hL hE hσ hS hr) (fun J1 hJ => ?_)
  obtain ⟨j1, j2, j3, j4⟩ := hJ
  simp (disch := omega) only [(j1.2.2.2 g hg).1, c_burning hL hσ j2.1, ↓dK_S hL hσ, ↓dG_S hL hσ, ↓dP_S hL hσ, ↓dZ_S hL hσ (x := nI 0) (Or.inl rfl), ↓dZ_S hL hσ (x := nI 1) (Or.inr rfl), ↓dZ_S hL hσ (Or.inl rfl), ↓dZ_S hL hσ (Or.inr rfl), ↓dZ_S hL hσ (nB_01 _), ↓dR_S_1 hL hσ, ↓dR_S_2 hL hσ, ↓dR_S_7 hL hσ, dI_S2 hL hσ, dS_S2 hL hσ, ↓reduceIte, ↓kq_bi, ↓kq_let, ↓kq_rz0, ↓kq_rz1, ↓kq_rzB, ↓Option.bind_some, kq_dvn, kt_lt, kf_lt, kt_eq, kf_eq, decide_true, decide_false, eq_self, Bool.false_eq_true, Bool.true_eq_false, not_true_eq_false, not_false_eq_true, jU_eq, jU_ne, jU_U, jV_eq, jV_ne, jV_V, kn_lit, kn_add, kn_mul, kn_sdm, kn_sub, kn_div, kn_nsdm, kn_lt, kn_eq, kn_pred, kn_m1, kn_m1', kn_a31, kn_shl, kn_shr, kn_bit, nB_0, nB_1, nB_t, nB_f, Nat.zero_add, Nat.add_zero, Nat.reduceAdd, Nat.reduceMul, Nat.reduceSub, Nat.reducePow]
  refine jW_bn (c_sense hL hE.2.1 hσ j2.1 j1 hr hg) (fun J2 hJ => ?_)
  obtain ⟨f, rfl, hf⟩ := hJ
  have hE2 := (jCE_Sc hL hσ (jSc_trans j3 (fun a x y => jU_ne (f := f) (a := σ + 4) (by omega))) hE)
  simp (disch := omega) only [↓dK_S hL hσ, ↓dG_S hL hσ, ↓dP_S hL hσ, ↓dZ_S hL hσ (x := nI 0) (Or.inl rfl), ↓dZ_S hL hσ (x := nI 1) (Or.inr rfl), ↓dZ_S hL hσ (Or.inl rfl), ↓dZ_S hL hσ (Or.inr rfl), ↓dZ_S hL hσ (nB_01 _), ↓dR_S_1 hL hσ, ↓dR_S_2 hL hσ, ↓dR_S_9 hL hσ, dI_S4 hL hσ, dS_S4 hL hσ, ↓dK_L hL hl, ↓dG_L hL hl, ↓dP_L hL hl, ↓reduceIte, ↓kq_bi, ↓kq_let, ↓kq_rz0, ↓kq_rz1, ↓kq_rzB, ↓Option.bind_some, kq_dvn, kt_lt, kf_lt, kt_eq, kf_eq, decide_true, decide_false, eq_self, Bool.false_eq_true, Bool.true_eq_false, not_true_eq_false, not_false_eq_true, jU_eq, jU_ne, jU_U, jV_eq, jV_ne, jV_V, kn_lit, kn_add, kn_mul, kn_sdm, kn_sub, kn_div, kn_nsdm, kn_lt, kn_eq, kn_pred, kn_m1, kn_m1', kn_a31, kn_shl, kn_shr, kn_bit, nB_0, nB_1, nB_t, nB_f, Nat.zero_add, Nat.add_zero, Nat.reduceAdd, Nat.reduceMul, Nat.reduceSub, Nat.reducePow]
  refine jW_bi (c_shuts hL hσ hE2.2.2.2 hE2.2.2.1 (kn := s_kn τ d r g (s_sma τ d r g) (r (108 + g))) (fun j hj => by rw [jU_eq]; exact hf j hj)) (fun J3 hJ => ?_)
  obtain ⟨st, rfl⟩ := hJ
  rw [kq_rzB]
  exact jW_s (hP _ ⟨jCS_congr (fun a h1 h2 => by rw [jU_ne (by omega), jU_ne (by omega)]) j2, fun a x y => by rw [jU_ne y, jU_ne (by omega)]; exact j3 a x y, by rw [jU_ne (by omega), jU_ne (by omega)]; exact j4⟩)
theorem jCR_U {ρ : Nat} (hf : jCR (fun _ => f) 0 r) : jCR (jU I ρ f) ρ r := by unfold jCR at hf ⊢; rw [jU_eq]; exact hf
theorem c_lay_row (ho : jTOK τ) (hr : jROK τ r) {g w : Nat} (hg : g < 9) (hw : w < τ 0 1) (hc : s_can r g w = true) (hR : jCR (fun _ => f) 0 r) : jCR (fun _ => jV (jV (jV (jV f (1 + w) (nI (r (117 + w) - 1))) (26 + (g * 6 + r (108 + g))) (nI w)) (80 + (g * 6 + r (108 + g))) (nI (τ 3 w))) (17 + g) (nI (r (108 + g) + 1))) 0 (s_lay τ r g w) := by
  obtain ⟨c1, c2⟩ := of_decide_eq_true hc
  have b1 := hr.1 g hg
  have o1 : τ 0 1 ≤ 6 := ho.2.1
  obtain ⟨a1, a2, a3, a4, a5⟩ := hR
  unfold s_lay
  refine ⟨?_, fun x hx => ?_, fun x hx => ?_, fun x hx => ?_, fun x k hx hk => ?_⟩
  · simp (disch := omega) only [jV_ne, nV_ne]; exact a1
  · by_cases hxw : x = w
    · subst hxw; simp (disch := omega) only [jV_ne, jV_eq, nV_eq]
    · simp (disch := omega) only [jV_ne, nV_ne]; exact a2 x hx
  · simp (disch := omega) only [jV_ne, nV_ne]; exact a3 x hx
  · by_cases hxg : x = g
    · subst hxg; simp (disch := omega) only [jV_eq, nV_ne, nV_eq]
    · simp (disch := omega) only [jV_ne, nV_ne]; exact a4 x hx
  · have b1x := hr.1 x hx
    by_cases hxg : x = g
    · subst hxg
      simp (disch := omega) only [nV_ne, nV_eq] at hk
      by_cases hk2 : k = r (108 + x)
      · subst hk2
        rw [show 6 * x = x * 6 from Nat.mul_comm 6 x]
        simp (disch := omega) only [jV_ne, jV_eq, nV_ne, nV_eq]
        exact ⟨trivial, trivial⟩
      · simp (disch := omega) only [jV_ne, nV_ne]; exact a5 x k hx (by omega)
    · simp (disch := omega) only [nV_ne] at hk
      simp (disch := omega) only [jV_ne, nV_ne]; exact a5 x k hx hk
theorem c_lay (hL : jLay t u l m b c h) (hE : jCE I t l τ ω) (hσ : σ = 85 ∨ σ = 90) (hS : jCS I σ τ d r) (hr : jROK τ r) {g w : Nat} (hg : g < 9) (hw : w < τ 0 1) : ∃ J, F_Scene_lay σ (nI g) (nI w) (jz_I h I) = some (nB (s_can r g w), jz_I h J) ∧ jCS J σ τ d (s_layd τ r g w) ∧ jSc l σ I J := by
  have ht := jLay_t hL
  have o1 : τ 0 1 ≤ 6 := hE.2.1.2.1
  have b1 := hr.1 g hg
  have b2 := hr.2.2.1 w (by omega)
  have b3 := hE.2.1.2.2.2.2.2.2.2.1 w hw
  obtain ⟨s1, s3, s4⟩ := hS
  have e1 := s1.2.1 w (by omega)
  have e2 := s1.2.2.2.1 g hg
  have hT3 : ∀ f : Nat → Int32, jU I (σ + 1) f (t + 3) w = nI (τ 3 w) := fun f => by rw [jU_ne (by omega)]; exact cT_a3 hE.1 hw
  unfold F_Scene_lay
  by_cases h1 : r (117 + w) = 0
  · have e : s_can r g w = false := decide_eq_false (by omega)
    refine ⟨I, ?_, by unfold s_layd; rw [e]; exact ⟨s1, s3, s4⟩, jSc_refl⟩
    simp (disch := omega) only [c_burning hL hσ s1, F_Scene_stored, e1, h1, e, F_Scene_lay_b20, ↓dK_S hL hσ, ↓dG_S hL hσ, ↓dP_S hL hσ, ↓dZ_S hL hσ (x := nI 0) (Or.inl rfl), ↓dZ_S hL hσ (x := nI 1) (Or.inr rfl), ↓dZ_S hL hσ (Or.inl rfl), ↓dZ_S hL hσ (Or.inr rfl), ↓dZ_S hL hσ (nB_01 _), ↓dR_S_1 hL hσ, ↓dR_S_2 hL hσ, ↓dR_S_0 hL hσ, dI_S1 hL hσ, dS_S1 hL hσ, ↓reduceIte, ↓kq_bi, ↓kq_let, ↓kq_rz0, ↓kq_rz1, ↓kq_rzB, ↓Option.bind_some, kq_dvn, kt_lt, kf_lt, kt_eq, kf_eq, decide_true, decide_false, eq_self, Bool.false_eq_true, Bool.true_eq_false, not_true_eq_false, not_false_eq_true, jU_eq, jU_ne, jU_U, jV_eq, jV_ne, jV_V, kn_lit, kn_add, kn_mul, kn_sdm, kn_sub, kn_div, kn_nsdm, kn_lt, kn_eq, kn_pred, kn_m1, kn_m1', kn_a31, kn_shl, kn_shr, kn_bit, nB_0, nB_1, nB_t, nB_f, Nat.zero_add, Nat.add_zero, Nat.reduceAdd, Nat.reduceMul, Nat.reduceSub, Nat.reducePow]
  · by_cases h2 : r (108 + g) = 6
    · have e : s_can r g w = false := decide_eq_false (by omega)
      refine ⟨I, ?_, by unfold s_layd; rw [e]; exact ⟨s1, s3, s4⟩, jSc_refl⟩
      simp (disch := omega) only [c_burning hL hσ s1, F_Scene_stored, e1, h2, e, F_Scene_lay_b20, ↓dK_S hL hσ, ↓dG_S hL hσ, ↓dP_S hL hσ, ↓dZ_S hL hσ (x := nI 0) (Or.inl rfl), ↓dZ_S hL hσ (x := nI 1) (Or.inr rfl), ↓dZ_S hL hσ (Or.inl rfl), ↓dZ_S hL hσ (Or.inr rfl), ↓dZ_S hL hσ (nB_01 _), ↓dR_S_1 hL hσ, ↓dR_S_2 hL hσ, ↓dR_S_0 hL hσ, dI_S1 hL hσ, dS_S1 hL hσ, ↓reduceIte, ↓kq_bi, ↓kq_let, ↓kq_rz0, ↓kq_rz1, ↓kq_rzB, ↓Option.bind_some, kq_dvn, kt_lt, kf_lt, kt_eq, kf_eq, decide_true, decide_false, eq_self, Bool.false_eq_true, Bool.true_eq_false, not_true_eq_false, not_false_eq_true, jU_eq, jU_ne, jU_U, jV_eq, jV_ne, jV_V, kn_lit, kn_add, kn_mul, kn_sdm, kn_sub, kn_div, kn_nsdm, kn_lt, kn_eq, kn_pred, kn_m1, kn_m1', kn_a31, kn_shl, kn_shr, kn_bit, nB_0, nB_1, nB_t, nB_f, Nat.zero_add, Nat.add_zero, Nat.reduceAdd, Nat.reduceMul, Nat.reduceSub, Nat.reducePow]
    · have e : s_can r g w = true := decide_eq_true ⟨h1, h2⟩
      rw [e]
      unfold s_layd
      rw [if_pos e]
      refine jE_i (fun P hP => ?_)
      simp (disch := omega) only [c_burning hL hσ s1, F_Scene_stored, e1, e2, hT3, F_Scene_lay_b20, ↓dK_S hL hσ, ↓dG_S hL hσ, ↓dP_S hL hσ, ↓dZ_S hL hσ (x := nI 0) (Or.inl rfl), ↓dZ_S hL hσ (x := nI 1) (Or.inr rfl), ↓dZ_S hL hσ (Or.inl rfl), ↓dZ_S hL hσ (Or.inr rfl), ↓dZ_S hL hσ (nB_01 _), ↓dR_S_1 hL hσ, ↓dR_S_2 hL hσ, ↓dR_S_0 hL hσ, dI_S1 hL hσ, dS_S1 hL hσ, ↓dK_T hL ht, ↓dG_T hL ht, ↓dP_T hL ht, ↓dR_T_8 hL ht, dI_T3 hL ht, dS_T3 hL ht, ↓reduceIte, ↓kq_bi, ↓kq_let, ↓kq_rz0, ↓kq_rz1, ↓kq_rzB, ↓Option.bind_some, kq_dvn, kt_lt, kf_lt, kt_eq, kf_eq, decide_true, decide_false, eq_self, Bool.false_eq_true, Bool.true_eq_false, not_true_eq_false, not_false_eq_true, jU_eq, jU_ne, jU_U, jV_eq, jV_ne, jV_V, kn_lit, kn_add, kn_mul, kn_sdm, kn_sub, kn_div, kn_nsdm, kn_lt, kn_eq, kn_pred, kn_m1, kn_m1', kn_a31, kn_shl, kn_shr, kn_bit, nB_0, nB_1, nB_t, nB_f, Nat.zero_add, Nat.add_zero, Nat.reduceAdd, Nat.reduceMul, Nat.reduceSub, Nat.reducePow]
      refine jW_s (hP _ ⟨⟨jCR_congr (jU_ne (by omega)) (jCR_U (c_lay_row hE.2.1 hr hg hw e s1)), ?_, Or.inl (by rw [jU_eq]; rfl)⟩, fun a x y => by rw [jU_ne (by omega), jU_ne (by omega)]⟩)
      rw [jU_eq, jV_ne (by omega)]
      exact s3
def s_dsd (r : JRw) (g : Nat) : JRw := if r (108 + g) = 0 then r else nV r (108 + g) 0
theorem c_quench (hL : jLay t u l m b c h) (hσ : σ = 85 ∨ σ = 90) (hS : jCS I σ τ d r) (hr : jROK τ r) {g : Nat} (hg : g < 9) : ∃ J, F_Scene_quench σ (nI g) (jz_I h I) = some (nB (decide (¬ r (108 + g) = 0)), jz_I h J) ∧ jCS J σ τ d (s_dsd r g) ∧ jSc l σ I J := by
  have b1 := hr.1 g hg
  obtain ⟨s1, s3, s4⟩ := hS
  unfold F_Scene_quench s_dsd
  by_cases h1 : r (108 + g) = 0
  · refine ⟨I, ?_, by rw [if_pos h1]; exact ⟨s1, s3, s4⟩, jSc_refl⟩
    simp (disch := omega) only [c_burning hL hσ s1, h1, not_true_eq_false, decide_false, ↓dK_S hL hσ, ↓dG_S hL hσ, ↓dP_S hL hσ, ↓dZ_S hL hσ (x := nI 0) (Or.inl rfl), ↓dZ_S hL hσ (x := nI 1) (Or.inr rfl), ↓dZ_S hL hσ (Or.inl rfl), ↓dZ_S hL hσ (Or.inr rfl), ↓dZ_S hL hσ (nB_01 _), ↓dR_S_1 hL hσ, ↓dR_S_2 hL hσ, ↓dR_S_0 hL hσ, dI_S1 hL hσ, dS_S1 hL hσ, ↓reduceIte, ↓kq_bi, ↓kq_let, ↓kq_rz0, ↓kq_rz1, ↓kq_rzB, ↓Option.bind_some, kq_dvn, kt_lt, kf_lt, kt_eq, kf_eq, decide_true, decide_false, eq_self, Bool.false_eq_true, Bool.true_eq_false, not_true_eq_false, not_false_eq_true, jU_eq, jU_ne, jU_U, jV_eq, jV_ne, jV_V, kn_lit, kn_add, kn_mul, kn_sdm, kn_sub, kn_div, kn_nsdm, kn_lt, kn_eq, kn_pred, kn_m1, kn_m1', kn_a31, kn_shl, kn_shr, kn_bit, nB_0, nB_1, nB_t, nB_f, Nat.zero_add, Nat.add_zero, Nat.reduceAdd, Nat.reduceMul, Nat.reduceSub, Nat.reducePow]
  · rw [if_neg h1, decide_eq_true h1]
    refine jE_i (fun P hP => ?_)
    simp (disch := omega) only [c_burning hL hσ s1, ↓dK_S hL hσ, ↓dG_S hL hσ, ↓dP_S hL hσ, ↓dZ_S hL hσ (x := nI 0) (Or.inl rfl), ↓dZ_S hL hσ (x := nI 1) (Or.inr rfl), ↓dZ_S hL hσ (Or.inl rfl), ↓dZ_S hL hσ (Or.inr rfl), ↓dZ_S hL hσ (nB_01 _), ↓dR_S_1 hL hσ, ↓dR_S_2 hL hσ, ↓dR_S_0 hL hσ, dI_S1 hL hσ, dS_S1 hL hσ, ↓reduceIte, ↓kq_bi, ↓kq_let, ↓kq_rz0, ↓kq_rz1, ↓kq_rzB, ↓Option.bind_some, kq_dvn, kt_lt, kf_lt, kt_eq, kf_eq, decide_true, decide_false, eq_self, Bool.false_eq_true, Bool.true_eq_false, not_true_eq_false, not_false_eq_true, jU_eq, jU_ne, jU_U, jV_eq, jV_ne, jV_V, kn_lit, kn_add, kn_mul, kn_sdm, kn_sub, kn_div, kn_nsdm, kn_lt, kn_eq, kn_pred, kn_m1, kn_m1', kn_a31, kn_shl, kn_shr, kn_bit, nB_0, nB_1, nB_t, nB_f, Nat.zero_add, Nat.add_zero, Nat.reduceAdd, Nat.reduceMul, Nat.reduceSub, Nat.reducePow]
    refine jW_s (hP _ ⟨⟨jCR_congr (jU_ne (by omega)) (jCR_U ?_), ?_, Or.inl (by rw [jU_eq]; rfl)⟩, fun a x y => by rw [jU_ne (by omega), jU_ne (by omega)]⟩)
    · obtain ⟨a1, a2, a3, a4, a5⟩ := s1
      refine ⟨?_, fun x hx => ?_, fun x hx => ?_, fun x hx => ?_, fun x k hx hk => ?_⟩
      · simp (disch := omega) only [jV_ne, nV_ne]; exact a1
      · simp (disch := omega) only [jV_ne, nV_ne]; exact a2 x hx
      · simp (disch := omega) only [jV_ne, nV_ne]; exact a3 x hx
      · by_cases hxg : x = g
        · subst hxg; simp (disch := omega) only [jV_eq, nV_eq]
        · simp (disch := omega) only [jV_ne, nV_ne]; exact a4 x hx
      · have b1x := hr.1 x hx
        by_cases hxg : x = g
        · subst hxg; simp (disch := omega) only [nV_eq] at hk; omega
        · simp (disch := omega) only [nV_ne] at hk
          simp (disch := omega) only [jV_ne, nV_ne]; exact a5 x k hx hk
    · rw [jU_eq, jV_ne (by omega)]
      exact s3
end

/-! PLAIN LEAN, 13: counts, both sides -/
/-- how many -/
def s_cnt (p : Nat → Bool) : Nat → Nat
  | 0 => 0
  | n + 1 => s_cnt p n + (if p n = true then 1 else 0)
theorem s_cnt_le (p : Nat → Bool) : ∀ n, s_cnt p n ≤ n
  | 0 => Nat.le_refl 0
  | n + 1 => by
    have := s_cnt_le p n
    show s_cnt p n + (if p n = true then 1 else 0) ≤ n + 1
    split <;> omega
theorem s_cnt_congr {p q : Nat → Bool} : ∀ n, (∀ k, k < n → p k = q k) → s_cnt p n = s_cnt q n
  | 0, _ => rfl
  | n + 1, h => by
    show s_cnt p n + (if p n = true then 1 else 0) = s_cnt q n + (if q n = true then 1 else 0)
    rw [s_cnt_congr n (fun k hk => h k (by omega)), h n (by omega)]
/-- the first of the greatest, among the first n (0 if there is none above 0) -/
def s_arg (f : Nat → Nat) : Nat → Nat
  | 0 => 0
  | n + 1 => if f (s_arg f n) < f n then n else s_arg f n
theorem s_arg_lt (f : Nat → Nat) : ∀ n, 0 < n → s_arg f n < n
  | 0, h => absurd h (Nat.lt_irrefl 0)
  | n + 1, _ => by
    show (if f (s_arg f n) < f n then n else s_arg f n) < n + 1
    by_cases hn : n = 0
    · subst hn; split <;> (show (_ : Nat) < 1; first | omega | exact Nat.lt_succ_self 0)
    · have := s_arg_lt f n (by omega)
      split <;> omega
def s_logs (τ : JTn) (r : JRw) : Nat := s_sum (fun g => r (108 + g)) (τ 0 0)
def s_store (τ : JTn) (r : JRw) : Nat := s_sum (fun w => r (117 + w)) (τ 0 1)
def s_came (τ : JTn) (r : JRw) (how : Nat) : Nat := s_cnt (fun c => decide (r (123 + c) = how)) (τ 0 2)
def s_bof (τ : JTn) (r : JRw) (w : Nat) : Nat := s_sum (fun g => s_cnt (fun k => decide (r (6 * g + k) = w)) (r (108 + g))) (τ 0 0)
def s_smk (τ : JTn) (r : JRw) : Nat := s_bits (fun g => decide (0 < r (108 + g))) (τ 0 0)
section
variable {t u l m b c : Nat} {h : LH} {I J K : Nat → Nat → Int32} {τ : JTn} {r q : JRw} {σ ρ i : Nat} {Q : Type} {x : Int32} {d : Bool} {ω : JLw} {f : Nat → Int32}
theorem s_logs_le (ho : jTOK τ) (hr : jROK τ r) {n : Nat} (hn : n ≤ 9) : s_sum (fun g => r (108 + g)) n ≤ 54 := by
  have := s_sum_le (f := fun g => r (108 + g)) (c := 6) n (fun k hk => hr.1 k (by omega))
  omega
theorem s_store_le (ho : jTOK τ) (hr : jROK τ r) {n : Nat} (hn : n ≤ 6) : s_sum (fun w => r (117 + w)) n ≤ 594 := by
  have := s_sum_le (f := fun w => r (117 + w)) (c := 99) n (fun k hk => hr.2.2.1 k (by omega))
  omega
theorem c_stored (hL : jLay t u l m b c h) (hσ : σ = 85 ∨ σ = 90) (hR : jCR I (σ + 1) r) {w : Nat} (hw : w < 6) : F_Scene_stored σ (nI w) (jz_I h I) = some (nI (r (117 + w)), jz_I h I) := by
  have e := hR.2.1 w hw
  unfold F_Scene_stored
  simp (disch := omega) only [e, ↓dK_S hL hσ, ↓dG_S hL hσ, ↓dP_S hL hσ, ↓dZ_S hL hσ (x := nI 0) (Or.inl rfl), ↓dZ_S hL hσ (x := nI 1) (Or.inr rfl), ↓dZ_S hL hσ (Or.inl rfl), ↓dZ_S hL hσ (Or.inr rfl), ↓dZ_S hL hσ (nB_01 _), ↓dR_S_1 hL hσ, ↓dR_S_2 hL hσ, ↓dR_S_0 hL hσ, dI_S1 hL hσ, dS_S1 hL hσ, ↓reduceIte, ↓kq_bi, ↓kq_let, ↓kq_rz0, ↓kq_rz1, ↓kq_rzB, ↓Option.bind_some, kq_dvn, kt_lt, kf_lt, kt_eq, kf_eq, decide_true, decide_false, eq_self, Bool.false_eq_true, Bool.true_eq_false, not_true_eq_false, not_false_eq_true, jU_eq, jU_ne, jU_U, jV_eq, jV_ne, jV_V, kn_lit, kn_add, kn_mul, kn_sdm, kn_sub, kn_div, kn_nsdm, kn_lt, kn_eq, kn_pred, kn_m1, kn_m1', kn_a31, kn_shl, kn_shr, kn_bit, nB_0, nB_1, nB_t, nB_f, Nat.zero_add, Nat.add_zero, Nat.reduceAdd, Nat.reduceMul, Nat.reduceSub, Nat.reducePow]
theorem c_came (hL : jLay t u l m b c h) (hσ : σ = 85 ∨ σ = 90) (hR : jCR I (σ + 1) r) {k : Nat} (hk : k < 10) : F_Scene_came σ (nI k) (jz_I h I) = some (nI (r (123 + k)), jz_I h I) := by
  have e := hR.2.2.1 k hk
  unfold F_Scene_came
  simp (disch := omega) only [e, ↓dK_S hL hσ, ↓dG_S hL hσ, ↓dP_S hL hσ, ↓dZ_S hL hσ (x := nI 0) (Or.inl rfl), ↓dZ_S hL hσ (x := nI 1) (Or.inr rfl), ↓dZ_S hL hσ (Or.inl rfl), ↓dZ_S hL hσ (Or.inr rfl), ↓dZ_S hL hσ (nB_01 _), ↓dR_S_1 hL hσ, ↓dR_S_2 hL hσ, ↓dR_S_0 hL hσ, dI_S1 hL hσ, dS_S1 hL hσ, ↓reduceIte, ↓kq_bi, ↓kq_let, ↓kq_rz0, ↓kq_rz1, ↓kq_rzB, ↓Option.bind_some, kq_dvn, kt_lt, kf_lt, kt_eq, kf_eq, decide_true, decide_false, eq_self, Bool.false_eq_true, Bool.true_eq_false, not_true_eq_false, not_false_eq_true, jU_eq, jU_ne, jU_U, jV_eq, jV_ne, jV_V, kn_lit, kn_add, kn_mul, kn_sdm, kn_sub, kn_div, kn_nsdm, kn_lt, kn_eq, kn_pred, kn_m1, kn_m1', kn_a31, kn_shl, kn_shr, kn_bit, nB_0, nB_1, nB_t, nB_f, Nat.zero_add, Nat.add_zero, Nat.reduceAdd, Nat.reduceMul, Nat.reduceSub, Nat.reducePow]
theorem c_allBurning (hL : jLay t u l m b c h) (hσ : σ = 85 ∨ σ = 90) (hT : jCT I t τ) (ho : jTOK τ) (hR : jCR I (σ + 1) r) (hr : jROK τ r) : F_Scene_allBurning σ (jz_I h I) = some (nI (s_logs τ r), jz_I h I) := by
  have ht := jLay_t hL
  have o0 : τ 0 0 ≤ 9 := ho.1
  unfold F_Scene_allBurning s_logs
  refine jz_for (fun fuel k s => F_Scene_allBurning_l4 fuel σ (nI s) (nI k) (jz_I h I)) (τ 0 0) (fun k => s_sum (fun g => r (108 + g)) k) _ (fun n k hk => ?_) (fun n => ?_) jF (by show _ < 1000; omega)
  · simp (disch := omega) only [F_Scene_allBurning_l4, F_Scene_allBurning_c4, cT_f0 hT, c_burning hL hσ hR, s_sum, ↓dK_S hL hσ, ↓dG_S hL hσ, ↓dP_S hL hσ, ↓dZ_S hL hσ (x := nI 0) (Or.inl rfl), ↓dZ_S hL hσ (x := nI 1) (Or.inr rfl), ↓dZ_S hL hσ (Or.inl rfl), ↓dZ_S hL hσ (Or.inr rfl), ↓dZ_S hL hσ (nB_01 _), ↓dR_S_1 hL hσ, ↓dR_S_2 hL hσ, ↓dK_T hL ht, ↓dG_T hL ht, ↓dP_T hL ht, ↓reduceIte, ↓kq_bi, ↓kq_let, ↓kq_rz0, ↓kq_rz1, ↓kq_rzB, ↓Option.bind_some, kq_dvn, kt_lt, kf_lt, kt_eq, kf_eq, decide_true, decide_false, eq_self, Bool.false_eq_true, Bool.true_eq_false, not_true_eq_false, not_false_eq_true, jU_eq, jU_ne, jU_U, jV_eq, jV_ne, jV_V, kn_lit, kn_add, kn_mul, kn_sdm, kn_sub, kn_div, kn_nsdm, kn_lt, kn_eq, kn_pred, kn_m1, kn_m1', kn_a31, kn_shl, kn_shr, kn_bit, nB_0, nB_1, nB_t, nB_f, Nat.zero_add, Nat.add_zero, Nat.reduceAdd, Nat.reduceMul, Nat.reduceSub, Nat.reducePow]
  · simp (disch := omega) only [F_Scene_allBurning_l4, F_Scene_allBurning_c4, cT_f0 hT, ↓dK_S hL hσ, ↓dG_S hL hσ, ↓dP_S hL hσ, ↓dZ_S hL hσ (x := nI 0) (Or.inl rfl), ↓dZ_S hL hσ (x := nI 1) (Or.inr rfl), ↓dZ_S hL hσ (Or.inl rfl), ↓dZ_S hL hσ (Or.inr rfl), ↓dZ_S hL hσ (nB_01 _), ↓dR_S_1 hL hσ, ↓dR_S_2 hL hσ, ↓dK_T hL ht, ↓dG_T hL ht, ↓dP_T hL ht, ↓reduceIte, ↓kq_bi, ↓kq_let, ↓kq_rz0, ↓kq_rz1, ↓kq_rzB, ↓Option.bind_some, kq_dvn, kt_lt, kf_lt, kt_eq, kf_eq, decide_true, decide_false, eq_self, Bool.false_eq_true, Bool.true_eq_false, not_true_eq_false, not_false_eq_true, jU_eq, jU_ne, jU_U, jV_eq, jV_ne, jV_V, kn_lit, kn_add, kn_mul, kn_sdm, kn_sub, kn_div, kn_nsdm, kn_lt, kn_eq, kn_pred, kn_m1, kn_m1', kn_a31, kn_shl, kn_shr, kn_bit, nB_0, nB_1, nB_t, nB_f, Nat.zero_add, Nat.add_zero, Nat.reduceAdd, Nat.reduceMul, Nat.reduceSub, Nat.reducePow]
theorem c_allStored (hL : jLay t u l m b c h) (hσ : σ = 85 ∨ σ = 90) (hT : jCT I t τ) (ho : jTOK τ) (hR : jCR I (σ + 1) r) (hr : jROK τ r) : F_Scene_allStored σ (jz_I h I) = some (nI (s_store τ r), jz_I h I) := by
  have ht := jLay_t hL
  have o1 : τ 0 1 ≤ 6 := ho.2.1
  unfold F_Scene_allStored s_store
  refine jz_for (fun fuel k s => F_Scene_allStored_l4 fuel σ (nI s) (nI k) (jz_I h I)) (τ 0 1) (fun k => s_sum (fun w => r (117 + w)) k) _ (fun n k hk => ?_) (fun n => ?_) jF (by show _ < 1000; omega)
  · simp (disch := omega) only [F_Scene_allStored_l4, F_Scene_allStored_c4, cT_f1 hT, c_stored hL hσ hR, s_sum, ↓dK_S hL hσ, ↓dG_S hL hσ, ↓dP_S hL hσ, ↓dZ_S hL hσ (x := nI 0) (Or.inl rfl), ↓dZ_S hL hσ (x := nI 1) (Or.inr rfl), ↓dZ_S hL hσ (Or.inl rfl), ↓dZ_S hL hσ (Or.inr rfl), ↓dZ_S hL hσ (nB_01 _), ↓dR_S_1 hL hσ, ↓dR_S_2 hL hσ, ↓dK_T hL ht, ↓dG_T hL ht, ↓dP_T hL ht, ↓reduceIte, ↓kq_bi, ↓kq_let, ↓kq_rz0, ↓kq_rz1, ↓kq_rzB, ↓Option.bind_some, kq_dvn, kt_lt, kf_lt, kt_eq, kf_eq, decide_true, decide_false, eq_self, Bool.false_eq_true, Bool.true_eq_false, not_true_eq_false, not_false_eq_true, jU_eq, jU_ne, jU_U, jV_eq, jV_ne, jV_V, kn_lit, kn_add, kn_mul, kn_sdm, kn_sub, kn_div, kn_nsdm, kn_lt, kn_eq, kn_pred, kn_m1, kn_m1', kn_a31, kn_shl, kn_shr, kn_bit, nB_0, nB_1, nB_t, nB_f, Nat.zero_add, Nat.add_zero, Nat.reduceAdd, Nat.reduceMul, Nat.reduceSub, Nat.reducePow]
  · simp (disch := omega) only [F_Scene_allStored_l4, F_Scene_allStored_c4, cT_f1 hT, ↓dK_S hL hσ, ↓dG_S hL hσ, ↓dP_S hL hσ, ↓dZ_S hL hσ (x := nI 0) (Or.inl rfl), ↓dZ_S hL hσ (x := nI 1) (Or.inr rfl), ↓dZ_S hL hσ (Or.inl rfl), ↓dZ_S hL hσ (Or.inr rfl), ↓dZ_S hL hσ (nB_01 _), ↓dR_S_1 hL hσ, ↓dR_S_2 hL hσ, ↓dK_T hL ht, ↓dG_T hL ht, ↓dP_T hL ht, ↓reduceIte, ↓kq_bi, ↓kq_let, ↓kq_rz0, ↓kq_rz1, ↓kq_rzB, ↓Option.bind_some, kq_dvn, kt_lt, kf_lt, kt_eq, kf_eq, decide_true, decide_false, eq_self, Bool.false_eq_true, Bool.true_eq_false, not_true_eq_false, not_false_eq_true, jU_eq, jU_ne, jU_U, jV_eq, jV_ne, jV_V, kn_lit, kn_add, kn_mul, kn_sdm, kn_sub, kn_div, kn_nsdm, kn_lt, kn_eq, kn_pred, kn_m1, kn_m1', kn_a31, kn_shl, kn_shr, kn_bit, nB_0, nB_1, nB_t, nB_f, Nat.zero_add, Nat.add_zero, Nat.reduceAdd, Nat.reduceMul, Nat.reduceSub, Nat.reducePow]
theorem c_comersThat (hL : jLay t u l m b c h) (hσ : σ = 85 ∨ σ = 90) (hT : jCT I t τ) (ho : jTOK τ) (hR : jCR I (σ + 1) r) (hr : jROK τ r) {how : Nat} (hh : how < 10) : F_Scene_comersThat σ (nI how) (jz_I h I) = some (nI (s_came τ r how), jz_I h I) := by
  have ht := jLay_t hL
  have o2 : τ 0 2 ≤ 10 := ho.2.2.1
  unfold F_Scene_comersThat s_came
  refine jz_for (fun fuel k s => F_Scene_comersThat_l4 fuel σ (nI how) (nI s) (nI k) (jz_I h I)) (τ 0 2) (fun k => s_cnt (fun c => decide (r (123 + c) = how)) k) _ (fun n k hk => ?_) (fun n => ?_) jF (by show _ < 1000; omega)
  · have b := hr.2.2.2.1 k (by omega)
    by_cases hc : r (123 + k) = how
    · simp (disch := omega) only [F_Scene_comersThat_l4, F_Scene_comersThat_c4, F_Scene_comersThat_b27, cT_f4 hT, c_came hL hσ hR, s_cnt, hc, decide_true, ↓dK_S hL hσ, ↓dG_S hL hσ, ↓dP_S hL hσ, ↓dZ_S hL hσ (x := nI 0) (Or.inl rfl), ↓dZ_S hL hσ (x := nI 1) (Or.inr rfl), ↓dZ_S hL hσ (Or.inl rfl), ↓dZ_S hL hσ (Or.inr rfl), ↓dZ_S hL hσ (nB_01 _), ↓dR_S_1 hL hσ, ↓dR_S_2 hL hσ, ↓dK_T hL ht, ↓dG_T hL ht, ↓dP_T hL ht, ↓reduceIte, ↓kq_bi, ↓kq_let, ↓kq_rz0, ↓kq_rz1, ↓kq_rzB, ↓Option.bind_some, kq_dvn, kt_lt, kf_lt, kt_eq, kf_eq, decide_true, decide_false, eq_self, Bool.false_eq_true, Bool.true_eq_false, not_true_eq_false, not_false_eq_true, jU_eq, jU_ne, jU_U, jV_eq, jV_ne, jV_V, kn_lit, kn_add, kn_mul, kn_sdm, kn_sub, kn_div, kn_nsdm, kn_lt, kn_eq, kn_pred, kn_m1, kn_m1', kn_a31, kn_shl, kn_shr, kn_bit, nB_0, nB_1, nB_t, nB_f, Nat.zero_add, Nat.add_zero, Nat.reduceAdd, Nat.reduceMul, Nat.reduceSub, Nat.reducePow]
    · simp (disch := omega) only [F_Scene_comersThat_l4, F_Scene_comersThat_c4, F_Scene_comersThat_b27, cT_f4 hT, c_came hL hσ hR, s_cnt, decide_eq_false hc, Bool.false_eq_true, ↓dK_S hL hσ, ↓dG_S hL hσ, ↓dP_S hL hσ, ↓dZ_S hL hσ (x := nI 0) (Or.inl rfl), ↓dZ_S hL hσ (x := nI 1) (Or.inr rfl), ↓dZ_S hL hσ (Or.inl rfl), ↓dZ_S hL hσ (Or.inr rfl), ↓dZ_S hL hσ (nB_01 _), ↓dR_S_1 hL hσ, ↓dR_S_2 hL hσ, ↓dK_T hL ht, ↓dG_T hL ht, ↓dP_T hL ht, ↓reduceIte, ↓kq_bi, ↓kq_let, ↓kq_rz0, ↓kq_rz1, ↓kq_rzB, ↓Option.bind_some, kq_dvn, kt_lt, kf_lt, kt_eq, kf_eq, decide_true, decide_false, eq_self, Bool.false_eq_true, Bool.true_eq_false, not_true_eq_false, not_false_eq_true, jU_eq, jU_ne, jU_U, jV_eq, jV_ne, jV_V, kn_lit, kn_add, kn_mul, kn_sdm, kn_sub, kn_div, kn_nsdm, kn_lt, kn_eq, kn_pred, kn_m1, kn_m1', kn_a31, kn_shl, kn_shr, kn_bit, nB_0, nB_1, nB_t, nB_f, Nat.zero_add, Nat.add_zero, Nat.reduceAdd, Nat.reduceMul, Nat.reduceSub, Nat.reducePow]
  · simp (disch := omega) only [F_Scene_comersThat_l4, F_Scene_comersThat_c4, cT_f4 hT, ↓dK_S hL hσ, ↓dG_S hL hσ, ↓dP_S hL hσ, ↓dZ_S hL hσ (x := nI 0) (Or.inl rfl), ↓dZ_S hL hσ (x := nI 1) (Or.inr rfl), ↓dZ_S hL hσ (Or.inl rfl), ↓dZ_S hL hσ (Or.inr rfl), ↓dZ_S hL hσ (nB_01 _), ↓dR_S_1 hL hσ, ↓dR_S_2 hL hσ, ↓dK_T hL ht, ↓dG_T hL ht, ↓dP_T hL ht, ↓reduceIte, ↓kq_bi, ↓kq_let, ↓kq_rz0, ↓kq_rz1, ↓kq_rzB, ↓Option.bind_some, kq_dvn, kt_lt, kf_lt, kt_eq, kf_eq, decide_true, decide_false, eq_self, Bool.false_eq_true, Bool.true_eq_false, not_true_eq_false, not_false_eq_true, jU_eq, jU_ne, jU_U, jV_eq, jV_ne, jV_V, kn_lit, kn_add, kn_mul, kn_sdm, kn_sub, kn_div, kn_nsdm, kn_lt, kn_eq, kn_pred, kn_m1, kn_m1', kn_a31, kn_shl, kn_shr, kn_bit, nB_0, nB_1, nB_t, nB_f, Nat.zero_add, Nat.add_zero, Nat.reduceAdd, Nat.reduceMul, Nat.reduceSub, Nat.reducePow]
theorem c_smokingGates (hL : jLay t u l m b c h) (hσ : σ = 85 ∨ σ = 90) (hT : jCT I t τ) (ho : jTOK τ) (hR : jCR I (σ + 1) r) (hr : jROK τ r) : F_Scene_smokingGates σ (jz_I h I) = some (nI (s_smk τ r), jz_I h I) := by
  have ht := jLay_t hL
  have o0 : τ 0 0 ≤ 9 := ho.1
  unfold F_Scene_smokingGates s_smk
  refine jz_for (fun fuel k s => F_Scene_smokingGates_l4 fuel σ (nI s) (nI k) (jz_I h I)) (τ 0 0) (fun k => s_bits (fun g => decide (0 < r (108 + g))) k) _ (fun n k hk => ?_) (fun n => ?_) jF (by show _ < 1000; omega)
  · have b := hr.1 k (by omega)
    have hp := kn_pow (k := k) (by omega)
    show F_Scene_smokingGates_l4 (n + 1) σ (nI (s_bits (fun g => decide (0 < r (108 + g))) k)) (nI k) (jz_I h I) = F_Scene_smokingGates_l4 n σ (nI (s_bits (fun g => decide (0 < r (108 + g))) k ||| (if decide (0 < r (108 + k)) = true then 2 ^ k else 0))) (nI (k + 1)) (jz_I h I)
    by_cases hc : 0 < r (108 + k)
    · simp (disch := omega) only [F_Scene_smokingGates_l4, F_Scene_smokingGates_c4, F_Scene_smokingGates_b29, cT_f0 hT, c_burning hL hσ hR, hc, decide_true, kn_or, Nat.one_mul, ↓dK_S hL hσ, ↓dG_S hL hσ, ↓dP_S hL hσ, ↓dZ_S hL hσ (x := nI 0) (Or.inl rfl), ↓dZ_S hL hσ (x := nI 1) (Or.inr rfl), ↓dZ_S hL hσ (Or.inl rfl), ↓dZ_S hL hσ (Or.inr rfl), ↓dZ_S hL hσ (nB_01 _), ↓dR_S_1 hL hσ, ↓dR_S_2 hL hσ, ↓dK_T hL ht, ↓dG_T hL ht, ↓dP_T hL ht, ↓reduceIte, ↓kq_bi, ↓kq_let, ↓kq_rz0, ↓kq_rz1, ↓kq_rzB, ↓Option.bind_some, kq_dvn, kt_lt, kf_lt, kt_eq, kf_eq, decide_true, decide_false, eq_self, Bool.false_eq_true, Bool.true_eq_false, not_true_eq_false, not_false_eq_true, jU_eq, jU_ne, jU_U, jV_eq, jV_ne, jV_V, kn_lit, kn_add, kn_mul, kn_sdm, kn_sub, kn_div, kn_nsdm, kn_lt, kn_eq, kn_pred, kn_m1, kn_m1', kn_a31, kn_shl, kn_shr, kn_bit, nB_0, nB_1, nB_t, nB_f, Nat.zero_add, Nat.add_zero, Nat.reduceAdd, Nat.reduceMul, Nat.reduceSub, Nat.reducePow]
    · simp (disch := omega) only [F_Scene_smokingGates_l4, F_Scene_smokingGates_c4, F_Scene_smokingGates_b29, cT_f0 hT, c_burning hL hσ hR, decide_eq_false hc, Bool.false_eq_true, Nat.or_zero, ↓dK_S hL hσ, ↓dG_S hL hσ, ↓dP_S hL hσ, ↓dZ_S hL hσ (x := nI 0) (Or.inl rfl), ↓dZ_S hL hσ (x := nI 1) (Or.inr rfl), ↓dZ_S hL hσ (Or.inl rfl), ↓dZ_S hL hσ (Or.inr rfl), ↓dZ_S hL hσ (nB_01 _), ↓dR_S_1 hL hσ, ↓dR_S_2 hL hσ, ↓dK_T hL ht, ↓dG_T hL ht, ↓dP_T hL ht, ↓reduceIte, ↓kq_bi, ↓kq_let, ↓kq_rz0, ↓kq_rz1, ↓kq_rzB, ↓Option.bind_some, kq_dvn, kt_lt, kf_lt, kt_eq, kf_eq, decide_true, decide_false, eq_self, Bool.false_eq_true, Bool.true_eq_false, not_true_eq_false, not_false_eq_true, jU_eq, jU_ne, jU_U, jV_eq, jV_ne, jV_V, kn_lit, kn_add, kn_mul, kn_sdm, kn_sub, kn_div, kn_nsdm, kn_lt, kn_eq, kn_pred, kn_m1, kn_m1', kn_a31, kn_shl, kn_shr, kn_bit, nB_0, nB_1, nB_t, nB_f, Nat.zero_add, Nat.add_zero, Nat.reduceAdd, Nat.reduceMul, Nat.reduceSub, Nat.reducePow]
  · simp (disch := omega) only [F_Scene_smokingGates_l4, F_Scene_smokingGates_c4, cT_f0 hT, ↓dK_S hL hσ, ↓dG_S hL hσ, ↓dP_S hL hσ, ↓dZ_S hL hσ (x := nI 0) (Or.inl rfl), ↓dZ_S hL hσ (x := nI 1) (Or.inr rfl), ↓dZ_S hL hσ (Or.inl rfl), ↓dZ_S hL hσ (Or.inr rfl), ↓dZ_S hL hσ (nB_01 _), ↓dR_S_1 hL hσ, ↓dR_S_2 hL hσ, ↓dK_T hL ht, ↓dG_T hL ht, ↓dP_T hL ht, ↓reduceIte, ↓kq_bi, ↓kq_let, ↓kq_rz0, ↓kq_rz1, ↓kq_rzB, ↓Option.bind_some, kq_dvn, kt_lt, kf_lt, kt_eq, kf_eq, decide_true, decide_false, eq_self, Bool.false_eq_true, Bool.true_eq_false, not_true_eq_false, not_false_eq_true, jU_eq, jU_ne, jU_U, jV_eq, jV_ne, jV_V, kn_lit, kn_add, kn_mul, kn_sdm, kn_sub, kn_div, kn_nsdm, kn_lt, kn_eq, kn_pred, kn_m1, kn_m1', kn_a31, kn_shl, kn_shr, kn_bit, nB_0, nB_1, nB_t, nB_f, Nat.zero_add, Nat.add_zero, Nat.reduceAdd, Nat.reduceMul, Nat.reduceSub, Nat.reducePow]
theorem c_mostStored (hL : jLay t u l m b c h) (hσ : σ = 85 ∨ σ = 90) (hT : jCT I t τ) (ho : jTOK τ) (hR : jCR I (σ + 1) r) (hr : jROK τ r) (h0 : 0 < τ 0 1) : F_Scene_mostStored σ (jz_I h I) = some (nI (s_arg (fun w => r (117 + w)) (τ 0 1)), jz_I h I) := by
  have ht := jLay_t hL
  have o1 : τ 0 1 ≤ 6 := ho.2.1
  unfold F_Scene_mostStored
  have e1 : s_arg (fun w => r (117 + w)) 1 = 0 := by unfold s_arg s_arg; split <;> rfl
  have key : ∀ (fuel k : Nat), k ≤ τ 0 1 → 1 ≤ k → τ 0 1 - k < fuel → F_Scene_mostStored_l4 fuel σ (nI (s_arg (fun w => r (117 + w)) k)) (nI k) (jz_I h I) = some (nI (s_arg (fun w => r (117 + w)) (τ 0 1)), jz_I h I) := by
    intro fuel
    induction fuel with
    | zero => intro k _ _ h; omega
    | succ n ih =>
      intro k hk hk1 hf
      have ha := s_arg_lt (fun w => r (117 + w)) k (by omega)
      have b2 := hr.2.2.1 (s_arg (fun w => r (117 + w)) k) (by omega)
      rcases Nat.lt_or_eq_of_le hk with hl | hl
      · have b1 := hr.2.2.1 k (by omega)
        have ih' := ih (k + 1) hl (by omega) (by omega)
        have es : s_arg (fun w => r (117 + w)) (k + 1) = (if r (117 + s_arg (fun w => r (117 + w)) k) < r (117 + k) then k else s_arg (fun w => r (117 + w)) k) := rfl
        rw [es] at ih'
        by_cases hc : r (117 + s_arg (fun w => r (117 + w)) k) < r (117 + k)
        · rw [if_pos hc] at ih'
          simp (disch := omega) only [F_Scene_mostStored_l4, F_Scene_mostStored_c4, F_Scene_mostStored_b30, cT_f1 hT, c_stored hL hσ hR, hc, ↓dK_S hL hσ, ↓dG_S hL hσ, ↓dP_S hL hσ, ↓dZ_S hL hσ (x := nI 0) (Or.inl rfl), ↓dZ_S hL hσ (x := nI 1) (Or.inr rfl), ↓dZ_S hL hσ (Or.inl rfl), ↓dZ_S hL hσ (Or.inr rfl), ↓dZ_S hL hσ (nB_01 _), ↓dR_S_1 hL hσ, ↓dR_S_2 hL hσ, ↓dK_T hL ht, ↓dG_T hL ht, ↓dP_T hL ht, ↓reduceIte, ↓kq_bi, ↓kq_let, ↓kq_rz0, ↓kq_rz1, ↓kq_rzB, ↓Option.bind_some, kq_dvn, kt_lt, kf_lt, kt_eq, kf_eq, decide_true, decide_false, eq_self, Bool.false_eq_true, Bool.true_eq_false, not_true_eq_false, not_false_eq_true, jU_eq, jU_ne, jU_U, jV_eq, jV_ne, jV_V, kn_lit, kn_add, kn_mul, kn_sdm, kn_sub, kn_div, kn_nsdm, kn_lt, kn_eq, kn_pred, kn_m1, kn_m1', kn_a31, kn_shl, kn_shr, kn_bit, nB_0, nB_1, nB_t, nB_f, Nat.zero_add, Nat.add_zero, Nat.reduceAdd, Nat.reduceMul, Nat.reduceSub, Nat.reducePow]
          exact ih'
        · rw [if_neg hc] at ih'
          simp (disch := omega) only [F_Scene_mostStored_l4, F_Scene_mostStored_c4, F_Scene_mostStored_b30, cT_f1 hT, c_stored hL hσ hR, hc, ↓dK_S hL hσ, ↓dG_S hL hσ, ↓dP_S hL hσ, ↓dZ_S hL hσ (x := nI 0) (Or.inl rfl), ↓dZ_S hL hσ (x := nI 1) (Or.inr rfl), ↓dZ_S hL hσ (Or.inl rfl), ↓dZ_S hL hσ (Or.inr rfl), ↓dZ_S hL hσ (nB_01 _), ↓dR_S_1 hL hσ, ↓dR_S_2 hL hσ, ↓dK_T hL ht, ↓dG_T hL ht, ↓dP_T hL ht, ↓reduceIte, ↓kq_bi, ↓kq_let, ↓kq_rz0, ↓kq_rz1, ↓kq_rzB, ↓Option.bind_some, kq_dvn, kt_lt, kf_lt, kt_eq, kf_eq, decide_true, decide_false, eq_self, Bool.false_eq_true, Bool.true_eq_false, not_true_eq_false, not_false_eq_true, jU_eq, jU_ne, jU_U, jV_eq, jV_ne, jV_V, kn_lit, kn_add, kn_mul, kn_sdm, kn_sub, kn_div, kn_nsdm, kn_lt, kn_eq, kn_pred, kn_m1, kn_m1', kn_a31, kn_shl, kn_shr, kn_bit, nB_0, nB_1, nB_t, nB_f, Nat.zero_add, Nat.add_zero, Nat.reduceAdd, Nat.reduceMul, Nat.reduceSub, Nat.reducePow]
          exact ih'
      · subst hl
        simp (disch := omega) only [F_Scene_mostStored_l4, F_Scene_mostStored_c4, cT_f1 hT, ↓dK_S hL hσ, ↓dG_S hL hσ, ↓dP_S hL hσ, ↓dZ_S hL hσ (x := nI 0) (Or.inl rfl), ↓dZ_S hL hσ (x := nI 1) (Or.inr rfl), ↓dZ_S hL hσ (Or.inl rfl), ↓dZ_S hL hσ (Or.inr rfl), ↓dZ_S hL hσ (nB_01 _), ↓dR_S_1 hL hσ, ↓dR_S_2 hL hσ, ↓dK_T hL ht, ↓dG_T hL ht, ↓dP_T hL ht, ↓reduceIte, ↓kq_bi, ↓kq_let, ↓kq_rz0, ↓kq_rz1, ↓kq_rzB, ↓Option.bind_some, kq_dvn, kt_lt, kf_lt, kt_eq, kf_eq, decide_true, decide_false, eq_self, Bool.false_eq_true, Bool.true_eq_false, not_true_eq_false, not_false_eq_true, jU_eq, jU_ne, jU_U, jV_eq, jV_ne, jV_V, kn_lit, kn_add, kn_mul, kn_sdm, kn_sub, kn_div, kn_nsdm, kn_lt, kn_eq, kn_pred, kn_m1, kn_m1', kn_a31, kn_shl, kn_shr, kn_bit, nB_0, nB_1, nB_t, nB_f, Nat.zero_add, Nat.add_zero, Nat.reduceAdd, Nat.reduceMul, Nat.reduceSub, Nat.reducePow]
  have := key jF 1 h0 (Nat.le_refl 1) (by show _ < 1000; omega)
  rw [e1] at this
  exact this
theorem c_burningOf (hL : jLay t u l m b c h) (hσ : σ = 85 ∨ σ = 90) (hT : jCT I t τ) (ho : jTOK τ) (hR : jCR I (σ + 1) r) (hr : jROK τ r) {w : Nat} (hw : w < 6) : F_Scene_burningOf σ (nI w) (jz_I h I) = some (nI (s_bof τ r w), jz_I h I) := by
  have ht := jLay_t hL
  have o0 : τ 0 0 ≤ 9 := ho.1
  have o1 : τ 0 1 ≤ 6 := ho.2.1
  unfold F_Scene_burningOf s_bof
  refine jz_for (fun fuel k s => F_Scene_burningOf_l4 fuel σ (nI w) (nI s) (nI k) (jz_I h I)) (τ 0 0) (fun k => s_sum (fun g => s_cnt (fun k => decide (r (6 * g + k) = w)) (r (108 + g))) k) _ (fun n g hg => ?_) (fun n => ?_) jF (by show _ < 1000; omega)
  · have b := hr.1 g (by omega)
    simp (disch := omega) only [F_Scene_burningOf_l4, F_Scene_burningOf_c4, cT_f0 hT, s_sum, ↓dK_S hL hσ, ↓dG_S hL hσ, ↓dP_S hL hσ, ↓dZ_S hL hσ (x := nI 0) (Or.inl rfl), ↓dZ_S hL hσ (x := nI 1) (Or.inr rfl), ↓dZ_S hL hσ (Or.inl rfl), ↓dZ_S hL hσ (Or.inr rfl), ↓dZ_S hL hσ (nB_01 _), ↓dR_S_1 hL hσ, ↓dR_S_2 hL hσ, ↓dK_T hL ht, ↓dG_T hL ht, ↓dP_T hL ht, ↓reduceIte, ↓kq_bi, ↓kq_let, ↓kq_rz0, ↓kq_rz1, ↓kq_rzB, ↓Option.bind_some, kq_dvn, kt_lt, kf_lt, kt_eq, kf_eq, decide_true, decide_false, eq_self, Bool.false_eq_true, Bool.true_eq_false, not_true_eq_false, not_false_eq_true, jU_eq, jU_ne, jU_U, jV_eq, jV_ne, jV_V, kn_lit, kn_add, kn_mul, kn_sdm, kn_sub, kn_div, kn_nsdm, kn_lt, kn_eq, kn_pred, kn_m1, kn_m1', kn_a31, kn_shl, kn_shr, kn_bit, nB_0, nB_1, nB_t, nB_f, Nat.zero_add, Nat.add_zero, Nat.reduceAdd, Nat.reduceMul, Nat.reduceSub, Nat.reducePow]
    refine jz_forI (fun fuel k s => F_Scene_burningOf_l18 (F_Scene_burningOf_l4 n) fuel σ (nI w) (nI s) (nI g) (nI k) (jz_I h I)) (r (108 + g)) (fun k => s_sum (fun g => s_cnt (fun k => decide (r (6 * g + k) = w)) (r (108 + g))) g + s_cnt (fun k => decide (r (6 * g + k) = w)) k) _ (Nat.add_zero _).symm (fun n' k hk => ?_) (fun n' => ?_) jF (by show _ < 1000; omega)
    · have hw2 := (hr.2.1 g k (by omega) hk).1
      by_cases hc : r (6 * g + k) = w
      · simp (disch := omega) only [F_Scene_burningOf_l18, F_Scene_burningOf_c18, F_Scene_burningOf_b42, c_burning hL hσ hR, c_woodOf hL hσ hR hr, hc, s_cnt, decide_true, Nat.add_assoc, ↓dK_S hL hσ, ↓dG_S hL hσ, ↓dP_S hL hσ, ↓dZ_S hL hσ (x := nI 0) (Or.inl rfl), ↓dZ_S hL hσ (x := nI 1) (Or.inr rfl), ↓dZ_S hL hσ (Or.inl rfl), ↓dZ_S hL hσ (Or.inr rfl), ↓dZ_S hL hσ (nB_01 _), ↓dR_S_1 hL hσ, ↓dR_S_2 hL hσ, ↓dK_T hL ht, ↓dG_T hL ht, ↓dP_T hL ht, ↓reduceIte, ↓kq_bi, ↓kq_let, ↓kq_rz0, ↓kq_rz1, ↓kq_rzB, ↓Option.bind_some, kq_dvn, kt_lt, kf_lt, kt_eq, kf_eq, decide_true, decide_false, eq_self, Bool.false_eq_true, Bool.true_eq_false, not_true_eq_false, not_false_eq_true, jU_eq, jU_ne, jU_U, jV_eq, jV_ne, jV_V, kn_lit, kn_add, kn_mul, kn_sdm, kn_sub, kn_div, kn_nsdm, kn_lt, kn_eq, kn_pred, kn_m1, kn_m1', kn_a31, kn_shl, kn_shr, kn_bit, nB_0, nB_1, nB_t, nB_f, Nat.zero_add, Nat.add_zero, Nat.reduceAdd, Nat.reduceMul, Nat.reduceSub, Nat.reducePow]
      · simp (disch := omega) only [F_Scene_burningOf_l18, F_Scene_burningOf_c18, F_Scene_burningOf_b42, c_burning hL hσ hR, c_woodOf hL hσ hR hr, s_cnt, decide_eq_false hc, Bool.false_eq_true, ↓dK_S hL hσ, ↓dG_S hL hσ, ↓dP_S hL hσ, ↓dZ_S hL hσ (x := nI 0) (Or.inl rfl), ↓dZ_S hL hσ (x := nI 1) (Or.inr rfl), ↓dZ_S hL hσ (Or.inl rfl), ↓dZ_S hL hσ (Or.inr rfl), ↓dZ_S hL hσ (nB_01 _), ↓dR_S_1 hL hσ, ↓dR_S_2 hL hσ, ↓dK_T hL ht, ↓dG_T hL ht, ↓dP_T hL ht, ↓reduceIte, ↓kq_bi, ↓kq_let, ↓kq_rz0, ↓kq_rz1, ↓kq_rzB, ↓Option.bind_some, kq_dvn, kt_lt, kf_lt, kt_eq, kf_eq, decide_true, decide_false, eq_self, Bool.false_eq_true, Bool.true_eq_false, not_true_eq_false, not_false_eq_true, jU_eq, jU_ne, jU_U, jV_eq, jV_ne, jV_V, kn_lit, kn_add, kn_mul, kn_sdm, kn_sub, kn_div, kn_nsdm, kn_lt, kn_eq, kn_pred, kn_m1, kn_m1', kn_a31, kn_shl, kn_shr, kn_bit, nB_0, nB_1, nB_t, nB_f, Nat.zero_add, Nat.add_zero, Nat.reduceAdd, Nat.reduceMul, Nat.reduceSub, Nat.reducePow]
    · simp (disch := omega) only [F_Scene_burningOf_l18, F_Scene_burningOf_c18, c_burning hL hσ hR, ↓dK_S hL hσ, ↓dG_S hL hσ, ↓dP_S hL hσ, ↓dZ_S hL hσ (x := nI 0) (Or.inl rfl), ↓dZ_S hL hσ (x := nI 1) (Or.inr rfl), ↓dZ_S hL hσ (Or.inl rfl), ↓dZ_S hL hσ (Or.inr rfl), ↓dZ_S hL hσ (nB_01 _), ↓dR_S_1 hL hσ, ↓dR_S_2 hL hσ, ↓dK_T hL ht, ↓dG_T hL ht, ↓dP_T hL ht, ↓reduceIte, ↓kq_bi, ↓kq_let, ↓kq_rz0, ↓kq_rz1, ↓kq_rzB, ↓Option.bind_some, kq_dvn, kt_lt, kf_lt, kt_eq, kf_eq, decide_true, decide_false, eq_self, Bool.false_eq_true, Bool.true_eq_false, not_true_eq_false, not_false_eq_true, jU_eq, jU_ne, jU_U, jV_eq, jV_ne, jV_V, kn_lit, kn_add, kn_mul, kn_sdm, kn_sub, kn_div, kn_nsdm, kn_lt, kn_eq, kn_pred, kn_m1, kn_m1', kn_a31, kn_shl, kn_shr, kn_bit, nB_0, nB_1, nB_t, nB_f, Nat.zero_add, Nat.add_zero, Nat.reduceAdd, Nat.reduceMul, Nat.reduceSub, Nat.reducePow]
  · simp (disch := omega) only [F_Scene_burningOf_l4, F_Scene_burningOf_c4, cT_f0 hT, ↓dK_S hL hσ, ↓dG_S hL hσ, ↓dP_S hL hσ, ↓dZ_S hL hσ (x := nI 0) (Or.inl rfl), ↓dZ_S hL hσ (x := nI 1) (Or.inr rfl), ↓dZ_S hL hσ (Or.inl rfl), ↓dZ_S hL hσ (Or.inr rfl), ↓dZ_S hL hσ (nB_01 _), ↓dR_S_1 hL hσ, ↓dR_S_2 hL hσ, ↓dK_T hL ht, ↓dG_T hL ht, ↓dP_T hL ht, ↓reduceIte, ↓kq_bi, ↓kq_let, ↓kq_rz0, ↓kq_rz1, ↓kq_rzB, ↓Option.bind_some, kq_dvn, kt_lt, kf_lt, kt_eq, kf_eq, decide_true, decide_false, eq_self, Bool.false_eq_true, Bool.true_eq_false, not_true_eq_false, not_false_eq_true, jU_eq, jU_ne, jU_U, jV_eq, jV_ne, jV_V, kn_lit, kn_add, kn_mul, kn_sdm, kn_sub, kn_div, kn_nsdm, kn_lt, kn_eq, kn_pred, kn_m1, kn_m1', kn_a31, kn_shl, kn_shr, kn_bit, nB_0, nB_1, nB_t, nB_f, Nat.zero_add, Nat.add_zero, Nat.reduceAdd, Nat.reduceMul, Nat.reduceSub, Nat.reducePow]
end

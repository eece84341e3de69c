/-! PLAIN LEAN, 14: counts, the reference -/
section
variable {t u l m b c : Nat} {h : LH} {I J K : Nat → Nat → Int32} {τ : JTn} {r q : JRw} {σ ρ i : Nat} {Q : Type} {x : Int32} {d : Bool} {ω : JLw} {f : Nat → Int32}
theorem m_logsIn (hL : jLay t u l m b c h) (hT : jMT I τ) (ho : jTOK τ) (hρ : ρ = 691 ∨ ρ = 692) (hR : jMR I ρ r) (hr : jROK τ r) : F_Mod_logsIn 205 ρ (jz_I h I) = some (nI (s_logs τ r), jz_I h I) := by
  have o0 : τ 0 0 ≤ 9 := ho.1
  unfold F_Mod_logsIn s_logs
  refine jz_for (fun fuel k s => F_Mod_logsIn_l4 fuel 205 ρ (nI s) (nI k) (jz_I h I)) (τ 0 0) (fun k => s_sum (fun g => r (108 + g)) k) _ (fun n k hk => ?_) (fun n => ?_) jF (by show _ < 1000; omega)
  · simp (disch := omega) only [F_Mod_logsIn_l4, F_Mod_logsIn_c4, hT.1, dI_R hL hρ, jMR_at hR, s_sum, ↓dK_205 hL, ↓dG_205 hL, ↓dP_205 hL, ↓dZ_205 hL (x := nI 0) (Or.inl rfl), ↓dZ_205 hL (x := nI 1) (Or.inr rfl), ↓dZ_205 hL (Or.inl rfl), ↓dZ_205 hL (Or.inr rfl), ↓dZ_205 hL (nB_01 _), ↓dR_205_12 hL, dI_209 hL, dS_209 hL, ↓reduceIte, ↓kq_bi, ↓kq_let, ↓kq_rz0, ↓kq_rz1, ↓kq_rzB, ↓Option.bind_some, kq_dvn, kt_lt, kf_lt, kt_eq, kf_eq, decide_true, decide_false, eq_self, Bool.false_eq_true, Bool.true_eq_false, not_true_eq_false, not_false_eq_true, jU_eq, jU_ne, jU_U, jV_eq, jV_ne, jV_V, kn_lit, kn_add, kn_mul, kn_sdm, kn_sub, kn_div, kn_nsdm, kn_lt, kn_eq, kn_pred, kn_m1, kn_m1', kn_a31, kn_shl, kn_shr, kn_bit, nB_0, nB_1, nB_t, nB_f, Nat.zero_add, Nat.add_zero, Nat.reduceAdd, Nat.reduceMul, Nat.reduceSub, Nat.reducePow]
  · simp (disch := omega) only [F_Mod_logsIn_l4, F_Mod_logsIn_c4, hT.1, ↓dK_205 hL, ↓dG_205 hL, ↓dP_205 hL, ↓dZ_205 hL (x := nI 0) (Or.inl rfl), ↓dZ_205 hL (x := nI 1) (Or.inr rfl), ↓dZ_205 hL (Or.inl rfl), ↓dZ_205 hL (Or.inr rfl), ↓dZ_205 hL (nB_01 _), ↓dR_205_12 hL, dI_209 hL, dS_209 hL, ↓reduceIte, ↓kq_bi, ↓kq_let, ↓kq_rz0, ↓kq_rz1, ↓kq_rzB, ↓Option.bind_some, kq_dvn, kt_lt, kf_lt, kt_eq, kf_eq, decide_true, decide_false, eq_self, Bool.false_eq_true, Bool.true_eq_false, not_true_eq_false, not_false_eq_true, jU_eq, jU_ne, jU_U, jV_eq, jV_ne, jV_V, kn_lit, kn_add, kn_mul, kn_sdm, kn_sub, kn_div, kn_nsdm, kn_lt, kn_eq, kn_pred, kn_m1, kn_m1', kn_a31, kn_shl, kn_shr, kn_bit, nB_0, nB_1, nB_t, nB_f, Nat.zero_add, Nat.add_zero, Nat.reduceAdd, Nat.reduceMul, Nat.reduceSub, Nat.reducePow]
theorem m_storedIn (hL : jLay t u l m b c h) (hT : jMT I τ) (ho : jTOK τ) (hρ : ρ = 691 ∨ ρ = 692) (hR : jMR I ρ r) (hr : jROK τ r) : F_Mod_storedIn 205 ρ (jz_I h I) = some (nI (s_store τ r), jz_I h I) := by
  have o1 : τ 0 1 ≤ 6 := ho.2.1
  unfold F_Mod_storedIn s_store
  refine jz_for (fun fuel k s => F_Mod_storedIn_l4 fuel 205 ρ (nI s) (nI k) (jz_I h I)) (τ 0 1) (fun k => s_sum (fun w => r (117 + w)) k) _ (fun n k hk => ?_) (fun n => ?_) jF (by show _ < 1000; omega)
  · simp (disch := omega) only [F_Mod_storedIn_l4, F_Mod_storedIn_c4, hT.1, dI_R hL hρ, jMR_at hR, s_sum, ↓dK_205 hL, ↓dG_205 hL, ↓dP_205 hL, ↓dZ_205 hL (x := nI 0) (Or.inl rfl), ↓dZ_205 hL (x := nI 1) (Or.inr rfl), ↓dZ_205 hL (Or.inl rfl), ↓dZ_205 hL (Or.inr rfl), ↓dZ_205 hL (nB_01 _), ↓dR_205_12 hL, dI_209 hL, dS_209 hL, ↓reduceIte, ↓kq_bi, ↓kq_let, ↓kq_rz0, ↓kq_rz1, ↓kq_rzB, ↓Option.bind_some, kq_dvn, kt_lt, kf_lt, kt_eq, kf_eq, decide_true, decide_false, eq_self, Bool.false_eq_true, Bool.true_eq_false, not_true_eq_false, not_false_eq_true, jU_eq, jU_ne, jU_U, jV_eq, jV_ne, jV_V, kn_lit, kn_add, kn_mul, kn_sdm, kn_sub, kn_div, kn_nsdm, kn_lt, kn_eq, kn_pred, kn_m1, kn_m1', kn_a31, kn_shl, kn_shr, kn_bit, nB_0, nB_1, nB_t, nB_f, Nat.zero_add, Nat.add_zero, Nat.reduceAdd, Nat.reduceMul, Nat.reduceSub, Nat.reducePow]
  · simp (disch := omega) only [F_Mod_storedIn_l4, F_Mod_storedIn_c4, hT.1, ↓dK_205 hL, ↓dG_205 hL, ↓dP_205 hL, ↓dZ_205 hL (x := nI 0) (Or.inl rfl), ↓dZ_205 hL (x := nI 1) (Or.inr rfl), ↓dZ_205 hL (Or.inl rfl), ↓dZ_205 hL (Or.inr rfl), ↓dZ_205 hL (nB_01 _), ↓dR_205_12 hL, dI_209 hL, dS_209 hL, ↓reduceIte, ↓kq_bi, ↓kq_let, ↓kq_rz0, ↓kq_rz1, ↓kq_rzB, ↓Option.bind_some, kq_dvn, kt_lt, kf_lt, kt_eq, kf_eq, decide_true, decide_false, eq_self, Bool.false_eq_true, Bool.true_eq_false, not_true_eq_false, not_false_eq_true, jU_eq, jU_ne, jU_U, jV_eq, jV_ne, jV_V, kn_lit, kn_add, kn_mul, kn_sdm, kn_sub, kn_div, kn_nsdm, kn_lt, kn_eq, kn_pred, kn_m1, kn_m1', kn_a31, kn_shl, kn_shr, kn_bit, nB_0, nB_1, nB_t, nB_f, Nat.zero_add, Nat.add_zero, Nat.reduceAdd, Nat.reduceMul, Nat.reduceSub, Nat.reducePow]
theorem m_cameIn (hL : jLay t u l m b c h) (hT : jMT I τ) (ho : jTOK τ) (hρ : ρ = 691 ∨ ρ = 692) (hR : jMR I ρ r) (hr : jROK τ r) {how : Nat} (hh : how < 10) : F_Mod_cameIn 205 ρ (nI how) (jz_I h I) = some (nI (s_came τ r how), jz_I h I) := by
  have o2 : τ 0 2 ≤ 10 := ho.2.2.1
  unfold F_Mod_cameIn s_came
  refine jz_for (fun fuel k s => F_Mod_cameIn_l5 fuel 205 ρ (nI how) (nI s) (nI k) (jz_I h I)) (τ 0 2) (fun k => s_cnt (fun c => decide (r (123 + c) = how)) k) _ (fun n k hk => ?_) (fun n => ?_) jF (by show _ < 1000; omega)
  · have b := hr.2.2.2.1 k (by omega)
    by_cases hc : r (123 + k) = how
    · simp (disch := omega) only [F_Mod_cameIn_l5, F_Mod_cameIn_c5, F_Mod_cameIn_b33, hT.1, dI_R hL hρ, jMR_at hR, s_cnt, hc, decide_true, ↓dK_205 hL, ↓dG_205 hL, ↓dP_205 hL, ↓dZ_205 hL (x := nI 0) (Or.inl rfl), ↓dZ_205 hL (x := nI 1) (Or.inr rfl), ↓dZ_205 hL (Or.inl rfl), ↓dZ_205 hL (Or.inr rfl), ↓dZ_205 hL (nB_01 _), ↓dR_205_12 hL, dI_209 hL, dS_209 hL, ↓reduceIte, ↓kq_bi, ↓kq_let, ↓kq_rz0, ↓kq_rz1, ↓kq_rzB, ↓Option.bind_some, kq_dvn, kt_lt, kf_lt, kt_eq, kf_eq, decide_true, decide_false, eq_self, Bool.false_eq_true, Bool.true_eq_false, not_true_eq_false, not_false_eq_true, jU_eq, jU_ne, jU_U, jV_eq, jV_ne, jV_V, kn_lit, kn_add, kn_mul, kn_sdm, kn_sub, kn_div, kn_nsdm, kn_lt, kn_eq, kn_pred, kn_m1, kn_m1', kn_a31, kn_shl, kn_shr, kn_bit, nB_0, nB_1, nB_t, nB_f, Nat.zero_add, Nat.add_zero, Nat.reduceAdd, Nat.reduceMul, Nat.reduceSub, Nat.reducePow]
    · simp (disch := omega) only [F_Mod_cameIn_l5, F_Mod_cameIn_c5, F_Mod_cameIn_b33, hT.1, dI_R hL hρ, jMR_at hR, s_cnt, decide_eq_false hc, Bool.false_eq_true, ↓dK_205 hL, ↓dG_205 hL, ↓dP_205 hL, ↓dZ_205 hL (x := nI 0) (Or.inl rfl), ↓dZ_205 hL (x := nI 1) (Or.inr rfl), ↓dZ_205 hL (Or.inl rfl), ↓dZ_205 hL (Or.inr rfl), ↓dZ_205 hL (nB_01 _), ↓dR_205_12 hL, dI_209 hL, dS_209 hL, ↓reduceIte, ↓kq_bi, ↓kq_let, ↓kq_rz0, ↓kq_rz1, ↓kq_rzB, ↓Option.bind_some, kq_dvn, kt_lt, kf_lt, kt_eq, kf_eq, decide_true, decide_false, eq_self, Bool.false_eq_true, Bool.true_eq_false, not_true_eq_false, not_false_eq_true, jU_eq, jU_ne, jU_U, jV_eq, jV_ne, jV_V, kn_lit, kn_add, kn_mul, kn_sdm, kn_sub, kn_div, kn_nsdm, kn_lt, kn_eq, kn_pred, kn_m1, kn_m1', kn_a31, kn_shl, kn_shr, kn_bit, nB_0, nB_1, nB_t, nB_f, Nat.zero_add, Nat.add_zero, Nat.reduceAdd, Nat.reduceMul, Nat.reduceSub, Nat.reducePow]
  · simp (disch := omega) only [F_Mod_cameIn_l5, F_Mod_cameIn_c5, hT.1, ↓dK_205 hL, ↓dG_205 hL, ↓dP_205 hL, ↓dZ_205 hL (x := nI 0) (Or.inl rfl), ↓dZ_205 hL (x := nI 1) (Or.inr rfl), ↓dZ_205 hL (Or.inl rfl), ↓dZ_205 hL (Or.inr rfl), ↓dZ_205 hL (nB_01 _), ↓dR_205_12 hL, dI_209 hL, dS_209 hL, ↓reduceIte, ↓kq_bi, ↓kq_let, ↓kq_rz0, ↓kq_rz1, ↓kq_rzB, ↓Option.bind_some, kq_dvn, kt_lt, kf_lt, kt_eq, kf_eq, decide_true, decide_false, eq_self, Bool.false_eq_true, Bool.true_eq_false, not_true_eq_false, not_false_eq_true, jU_eq, jU_ne, jU_U, jV_eq, jV_ne, jV_V, kn_lit, kn_add, kn_mul, kn_sdm, kn_sub, kn_div, kn_nsdm, kn_lt, kn_eq, kn_pred, kn_m1, kn_m1', kn_a31, kn_shl, kn_shr, kn_bit, nB_0, nB_1, nB_t, nB_f, Nat.zero_add, Nat.add_zero, Nat.reduceAdd, Nat.reduceMul, Nat.reduceSub, Nat.reducePow]
/-- bits counted -/
def s_ones (v n : Nat) : Nat := s_sum (fun k => v / 2 ^ k % 2) n
theorem s_ones_le (v n : Nat) : s_ones v n ≤ n := by
  have := s_sum_le (f := fun k => v / 2 ^ k % 2) (c := 1) n (fun k _ => by have := Nat.mod_lt (v / 2 ^ k) (by omega : 0 < 2); omega)
  unfold s_ones
  omega
theorem m_ones {v : Nat} (hv : v < 2147483648) (g : LH) : F_Mod_ones (nI v) g = some (nI (s_ones v 10), g) := by
  unfold F_Mod_ones
  refine jz_for (fun fuel k s => F_Mod_ones_l4 fuel (nI v) (nI s) (nI k) g) 10 (fun k => s_ones v k) _ (fun n k hk => ?_) (fun n => ?_) jF (by show _ < 1000; omega)
  · show F_Mod_ones_l4 (n + 1) (nI v) (nI (s_ones v k)) (nI k) g = F_Mod_ones_l4 n (nI v) (nI (s_ones v k + v / 2 ^ k % 2)) (nI (k + 1)) g
    simp (disch := omega) only [F_Mod_ones_l4, F_Mod_ones_c4, ↓reduceIte, ↓kq_bi, ↓kq_let, ↓kq_rz0, ↓kq_rz1, ↓kq_rzB, ↓Option.bind_some, kq_dvn, kt_lt, kf_lt, kt_eq, kf_eq, decide_true, decide_false, eq_self, Bool.false_eq_true, Bool.true_eq_false, not_true_eq_false, not_false_eq_true, jU_eq, jU_ne, jU_U, jV_eq, jV_ne, jV_V, kn_lit, kn_add, kn_mul, kn_sdm, kn_sub, kn_div, kn_nsdm, kn_lt, kn_eq, kn_pred, kn_m1, kn_m1', kn_a31, kn_shl, kn_shr, kn_bit, nB_0, nB_1, nB_t, nB_f, Nat.zero_add, Nat.add_zero, Nat.reduceAdd, Nat.reduceMul, Nat.reduceSub, Nat.reducePow]
  · simp (disch := omega) only [F_Mod_ones_l4, F_Mod_ones_c4, ↓reduceIte, ↓kq_bi, ↓kq_let, ↓kq_rz0, ↓kq_rz1, ↓kq_rzB, ↓Option.bind_some, kq_dvn, kt_lt, kf_lt, kt_eq, kf_eq, decide_true, decide_false, eq_self, Bool.false_eq_true, Bool.true_eq_false, not_true_eq_false, not_false_eq_true, jU_eq, jU_ne, jU_U, jV_eq, jV_ne, jV_V, kn_lit, kn_add, kn_mul, kn_sdm, kn_sub, kn_div, kn_nsdm, kn_lt, kn_eq, kn_pred, kn_m1, kn_m1', kn_a31, kn_shl, kn_shr, kn_bit, nB_0, nB_1, nB_t, nB_f, Nat.zero_add, Nat.add_zero, Nat.reduceAdd, Nat.reduceMul, Nat.reduceSub, Nat.reducePow]
theorem s_ones_bits (p : Nat → Bool) {n : Nat} : ∀ {k : Nat}, n ≤ k → s_ones (s_bits p n) k = s_cnt p n := by
  have low : ∀ k, k ≤ n → s_ones (s_bits p n) k = s_cnt p k := by
    intro k
    induction k with
    | zero => intro _; rfl
    | succ k ih =>
      intro hk
      show s_ones (s_bits p n) k + s_bits p n / 2 ^ k % 2 = s_cnt p k + (if p k = true then 1 else 0)
      rw [ih (by omega), s_bits_has p (show k < n by omega)]
  intro k
  induction k with
  | zero => intro h; have : n = 0 := by omega
            subst this; rfl
  | succ k ih =>
    intro h
    by_cases hk : n ≤ k
    · show s_ones (s_bits p n) k + s_bits p n / 2 ^ k % 2 = s_cnt p n
      have h0 : s_bits p n / 2 ^ k = 0 := Nat.div_eq_of_lt (Nat.lt_of_lt_of_le (s_bits_lt p n) (Nat.pow_le_pow_right (by omega) hk))
      rw [ih hk, h0, Nat.zero_mod, Nat.add_zero]
    · have : n = k + 1 := by omega
      subst this
      exact low _ (Nat.le_refl _)
set_option maxRecDepth 100000 in
theorem c_bits0 : ∀ v, v < 512 → ((fun v1 : Int32 => (fun v2 : Int32 => (fun v3 : Int32 => (fun v4 : Int32 => (fun v5 : Int32 => v5 &&& (63 : Int32)) (v4 + (ji_ushr v4 (16 : Int32)))) (v3 + (ji_ushr v3 (8 : Int32)))) ((v2 + (ji_ushr v2 (4 : Int32))) &&& (252645135 : Int32))) ((v1 &&& (858993459 : Int32)) + ((ji_ushr v1 (2 : Int32)) &&& (858993459 : Int32)))) (nI v - ((ji_ushr (nI v) (1 : Int32)) &&& (1431655765 : Int32)))) = nI (s_ones v 10) := by decide +kernel
theorem c_bitCount {v : Nat} (hv : v < 512) (g : LH) : F_Int_bitCount (nI v) g = some (nI (s_ones v 10), g) := by
  have := c_bits0 v hv
  unfold F_Int_bitCount
  simp only [kq_let]
  exact congrArg (fun z => some (z, g)) this
/-- the fullest store: none, if all are empty -/
def s_full (τ : JTn) (r : JRw) (n : Nat) : Option Nat := if r (117 + s_arg (fun w => r (117 + w)) n) = 0 ∨ n = 0 then none else some (s_arg (fun w => r (117 + w)) n)
def nO (o : Option Nat) : Int32 := o.elim (-nI 1) nI
theorem s_arg_max (f : Nat → Nat) : ∀ n k, k < n → f k ≤ f (s_arg f n)
  | 0, k, h => absurd h (Nat.not_lt_zero k)
  | n + 1, k, h => by
    show f k ≤ f (if f (s_arg f n) < f n then n else s_arg f n)
    by_cases hc : f (s_arg f n) < f n
    · rw [if_pos hc]
      by_cases hk : k = n
      · rw [hk]; exact Nat.le_refl _
      · have := s_arg_max f n k (by omega); omega
    · rw [if_neg hc]
      by_cases hk : k = n
      · rw [hk]; omega
      · exact s_arg_max f n k (by omega)
theorem m_fullest (hL : jLay t u l m b c h) (hT : jMT I τ) (ho : jTOK τ) (hρ : ρ = 691 ∨ ρ = 692) (hR : jMR I ρ r) (hr : jROK τ r) : F_Mod_fullest 205 ρ (jz_I h I) = some (nO (s_full τ r (τ 0 1)), jz_I h I) := by
  have o1 : τ 0 1 ≤ 6 := ho.2.1
  unfold F_Mod_fullest
  refine jz_forI (fun fuel k (s : Option Nat) => F_Mod_fullest_l4 fuel 205 ρ (nO s) (nI k) (jz_I h I)) (τ 0 1) (fun k => s_full τ r k) _ (s0 := none) (by unfold s_full; rw [if_pos (Or.inr rfl)]) (fun n k hk => ?_) (fun n => ?_) jF (by show _ < 1000; omega)
  · have b1 := hr.2.2.1 k (by omega)
    have es : s_arg (fun w => r (117 + w)) (k + 1) = (if r (117 + s_arg (fun w => r (117 + w)) k) < r (117 + k) then k else s_arg (fun w => r (117 + w)) k) := rfl
    show F_Mod_fullest_c4 (F_Mod_fullest_l4 n) 205 ρ (nO (s_full τ r k)) (nI k) (jz_I h I) = F_Mod_fullest_l4 n 205 ρ (nO (s_full τ r (k + 1))) (nI (k + 1)) (jz_I h I)
    unfold F_Mod_fullest_c4
    by_cases h0 : r (117 + s_arg (fun w => r (117 + w)) k) = 0 ∨ k = 0
    · have e0 : s_full τ r k = none := by unfold s_full; rw [if_pos h0]
      rw [e0]
      show _ = F_Mod_fullest_l4 n 205 ρ (nO (s_full τ r (k + 1))) (nI (k + 1)) (jz_I h I)
      by_cases hp : 0 < r (117 + k)
      · have ea : s_arg (fun w => r (117 + w)) (k + 1) = k := by
          rw [es]
          rcases h0 with h0 | h0
          · rw [h0, if_pos hp]
          · subst h0; show (if r (117 + 0) < r (117 + 0) then 0 else 0) = 0; split <;> rfl
        have e1 : s_full τ r (k + 1) = some k := by unfold s_full; rw [ea, if_neg (by omega)]
        rw [e1]
        simp only [nO, Option.elim_none, Option.elim_some]
        simp (disch := omega) only [hT.1, dI_R hL hρ, jMR_at hR, F_Mod_fullest_b35, F_Mod_fullest_b40, ↓dK_205 hL, ↓dG_205 hL, ↓dP_205 hL, ↓dZ_205 hL (x := nI 0) (Or.inl rfl), ↓dZ_205 hL (x := nI 1) (Or.inr rfl), ↓dZ_205 hL (Or.inl rfl), ↓dZ_205 hL (Or.inr rfl), ↓dZ_205 hL (nB_01 _), ↓dR_205_12 hL, dI_209 hL, dS_209 hL, ↓reduceIte, ↓kq_bi, ↓kq_let, ↓kq_rz0, ↓kq_rz1, ↓kq_rzB, ↓Option.bind_some, kq_dvn, kt_lt, kf_lt, kt_eq, kf_eq, decide_true, decide_false, eq_self, Bool.false_eq_true, Bool.true_eq_false, not_true_eq_false, not_false_eq_true, jU_eq, jU_ne, jU_U, jV_eq, jV_ne, jV_V, kn_lit, kn_add, kn_mul, kn_sdm, kn_sub, kn_div, kn_nsdm, kn_lt, kn_eq, kn_pred, kn_m1, kn_m1', kn_a31, kn_shl, kn_shr, kn_bit, nB_0, nB_1, nB_t, nB_f, Nat.zero_add, Nat.add_zero, Nat.reduceAdd, Nat.reduceMul, Nat.reduceSub, Nat.reducePow]
      · have hz : r (117 + k) = 0 := by omega
        have ea : r (117 + s_arg (fun w => r (117 + w)) (k + 1)) = 0 := by
          rw [es]
          rcases h0 with h0 | h0
          · rw [if_neg (by omega)]; exact h0
          · subst h0; show r (117 + (if r (117 + 0) < r (117 + 0) then 0 else 0)) = 0; split <;> exact hz
        have e1 : s_full τ r (k + 1) = none := by unfold s_full; rw [if_pos (Or.inl ea)]
        rw [e1]
        simp only [nO, Option.elim_none, Option.elim_some]
        simp (disch := omega) only [hT.1, dI_R hL hρ, jMR_at hR, hz, F_Mod_fullest_b35, F_Mod_fullest_b40, ↓dK_205 hL, ↓dG_205 hL, ↓dP_205 hL, ↓dZ_205 hL (x := nI 0) (Or.inl rfl), ↓dZ_205 hL (x := nI 1) (Or.inr rfl), ↓dZ_205 hL (Or.inl rfl), ↓dZ_205 hL (Or.inr rfl), ↓dZ_205 hL (nB_01 _), ↓dR_205_12 hL, dI_209 hL, dS_209 hL, ↓reduceIte, ↓kq_bi, ↓kq_let, ↓kq_rz0, ↓kq_rz1, ↓kq_rzB, ↓Option.bind_some, kq_dvn, kt_lt, kf_lt, kt_eq, kf_eq, decide_true, decide_false, eq_self, Bool.false_eq_true, Bool.true_eq_false, not_true_eq_false, not_false_eq_true, jU_eq, jU_ne, jU_U, jV_eq, jV_ne, jV_V, kn_lit, kn_add, kn_mul, kn_sdm, kn_sub, kn_div, kn_nsdm, kn_lt, kn_eq, kn_pred, kn_m1, kn_m1', kn_a31, kn_shl, kn_shr, kn_bit, nB_0, nB_1, nB_t, nB_f, Nat.zero_add, Nat.add_zero, Nat.reduceAdd, Nat.reduceMul, Nat.reduceSub, Nat.reducePow]
    · have e0 : s_full τ r k = some (s_arg (fun w => r (117 + w)) k) := by unfold s_full; rw [if_neg h0]
      have ha := s_arg_lt (fun w => r (117 + w)) k (by omega)
      have b2 := hr.2.2.1 (s_arg (fun w => r (117 + w)) k) (by omega)
      rw [e0]
      by_cases hp : r (117 + s_arg (fun w => r (117 + w)) k) < r (117 + k)
      · have ea : s_arg (fun w => r (117 + w)) (k + 1) = k := by rw [es, if_pos hp]
        have e1 : s_full τ r (k + 1) = some k := by unfold s_full; rw [ea, if_neg (by omega)]
        rw [e1]
        simp only [nO, Option.elim_none, Option.elim_some]
        simp (disch := omega) only [hT.1, dI_R hL hρ, jMR_at hR, F_Mod_fullest_b35, F_Mod_fullest_b40, ↓dK_205 hL, ↓dG_205 hL, ↓dP_205 hL, ↓dZ_205 hL (x := nI 0) (Or.inl rfl), ↓dZ_205 hL (x := nI 1) (Or.inr rfl), ↓dZ_205 hL (Or.inl rfl), ↓dZ_205 hL (Or.inr rfl), ↓dZ_205 hL (nB_01 _), ↓dR_205_12 hL, dI_209 hL, dS_209 hL, ↓reduceIte, ↓kq_bi, ↓kq_let, ↓kq_rz0, ↓kq_rz1, ↓kq_rzB, ↓Option.bind_some, kq_dvn, kt_lt, kf_lt, kt_eq, kf_eq, decide_true, decide_false, eq_self, Bool.false_eq_true, Bool.true_eq_false, not_true_eq_false, not_false_eq_true, jU_eq, jU_ne, jU_U, jV_eq, jV_ne, jV_V, kn_lit, kn_add, kn_mul, kn_sdm, kn_sub, kn_div, kn_nsdm, kn_lt, kn_eq, kn_pred, kn_m1, kn_m1', kn_a31, kn_shl, kn_shr, kn_bit, nB_0, nB_1, nB_t, nB_f, Nat.zero_add, Nat.add_zero, Nat.reduceAdd, Nat.reduceMul, Nat.reduceSub, Nat.reducePow]
      · have ea : s_arg (fun w => r (117 + w)) (k + 1) = s_arg (fun w => r (117 + w)) k := by rw [es, if_neg hp]
        have e1 : s_full τ r (k + 1) = some (s_arg (fun w => r (117 + w)) k) := by unfold s_full; rw [ea, if_neg (by omega)]
        rw [e1]
        simp only [nO, Option.elim_none, Option.elim_some]
        simp (disch := omega) only [hT.1, dI_R hL hρ, jMR_at hR, F_Mod_fullest_b35, F_Mod_fullest_b40, ↓dK_205 hL, ↓dG_205 hL, ↓dP_205 hL, ↓dZ_205 hL (x := nI 0) (Or.inl rfl), ↓dZ_205 hL (x := nI 1) (Or.inr rfl), ↓dZ_205 hL (Or.inl rfl), ↓dZ_205 hL (Or.inr rfl), ↓dZ_205 hL (nB_01 _), ↓dR_205_12 hL, dI_209 hL, dS_209 hL, ↓reduceIte, ↓kq_bi, ↓kq_let, ↓kq_rz0, ↓kq_rz1, ↓kq_rzB, ↓Option.bind_some, kq_dvn, kt_lt, kf_lt, kt_eq, kf_eq, decide_true, decide_false, eq_self, Bool.false_eq_true, Bool.true_eq_false, not_true_eq_false, not_false_eq_true, jU_eq, jU_ne, jU_U, jV_eq, jV_ne, jV_V, kn_lit, kn_add, kn_mul, kn_sdm, kn_sub, kn_div, kn_nsdm, kn_lt, kn_eq, kn_pred, kn_m1, kn_m1', kn_a31, kn_shl, kn_shr, kn_bit, nB_0, nB_1, nB_t, nB_f, Nat.zero_add, Nat.add_zero, Nat.reduceAdd, Nat.reduceMul, Nat.reduceSub, Nat.reducePow]
  · show F_Mod_fullest_c4 (F_Mod_fullest_l4 n) 205 ρ (nO (s_full τ r (τ 0 1))) (nI (τ 0 1)) (jz_I h I) = _
    unfold F_Mod_fullest_c4
    simp (disch := omega) only [hT.1, ↓dK_205 hL, ↓dG_205 hL, ↓dP_205 hL, ↓dZ_205 hL (x := nI 0) (Or.inl rfl), ↓dZ_205 hL (x := nI 1) (Or.inr rfl), ↓dZ_205 hL (Or.inl rfl), ↓dZ_205 hL (Or.inr rfl), ↓dZ_205 hL (nB_01 _), ↓dR_205_12 hL, dI_209 hL, dS_209 hL, ↓reduceIte, ↓kq_bi, ↓kq_let, ↓kq_rz0, ↓kq_rz1, ↓kq_rzB, ↓Option.bind_some, kq_dvn, kt_lt, kf_lt, kt_eq, kf_eq, decide_true, decide_false, eq_self, Bool.false_eq_true, Bool.true_eq_false, not_true_eq_false, not_false_eq_true, jU_eq, jU_ne, jU_U, jV_eq, jV_ne, jV_V, kn_lit, kn_add, kn_mul, kn_sdm, kn_sub, kn_div, kn_nsdm, kn_lt, kn_eq, kn_pred, kn_m1, kn_m1', kn_a31, kn_shl, kn_shr, kn_bit, nB_0, nB_1, nB_t, nB_f, Nat.zero_add, Nat.add_zero, Nat.reduceAdd, Nat.reduceMul, Nat.reduceSub, Nat.reducePow]
end

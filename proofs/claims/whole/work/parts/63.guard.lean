/-! PLAIN LEAN, 29: guard of the reference -/
section
variable {t u l m b c : Nat} {h : LH} {I J K : Nat → Nat → Int32} {τ : JTn} {r q : JRw} {σ ρ i : Nat} {Q : Type} {x : Int32} {d : Bool} {ω : JLw} {f : Nat → Int32} {G C N : Nat} {op : Nat → Bool}
/-- which gates are shut in which hour stands in the reference's row -/
def jSI (I : Nat → Nat → Int32) (τ : JTn) (op : Nat → Bool) (N : Nat) : Prop := ∀ k, k < N → I 715 k = nI (s_bits (fun g => !(op (k * τ 0 0 + g))) (τ 0 0))
theorem m_steals (hL : jLay t u l m b c h) (ho : jTOK τ) (hN : N ≤ 24) (hS : jSI I τ op N) {k g y : Nat} (hk : k < N) (hg : g < τ 0 0) (hy : y < τ 0 0) : F_Mod_steals 205 (nI k) (nI g) (nI y) (jz_I h I) = some (nQ (s_py (τ 0 0) op (k * τ 0 0 + g) y), jz_I h I) := by
  have o0 : τ 0 0 ≤ 9 := ho.1
  obtain ⟨a1, a2, a3⟩ := s_gG (G := τ 0 0) hg hk
  have e := hS k hk
  have hb9 := s_bits_lt9 (fun g => !(op (k * τ 0 0 + g))) (n := τ 0 0) (by omega)
  have hs := s_bits_has (fun g => !(op (k * τ 0 0 + g))) hg
  unfold F_Mod_steals s_py
  rw [a2]
  by_cases h1 : g = y
  · rw [if_pos h1]
    subst h1
    simp (disch := omega) only [nQ_0, F_Mod_steals_b28, ↓dK_205 hL, ↓dG_205 hL, ↓dP_205 hL, ↓dZ_205 hL (x := nI 0) (Or.inl rfl), ↓dZ_205 hL (x := nI 1) (Or.inr rfl), ↓dZ_205 hL (Or.inl rfl), ↓dZ_205 hL (Or.inr rfl), ↓dZ_205 hL (nB_01 _), ↓reduceIte, ↓kq_bi, ↓kq_let, ↓kq_rz0, ↓kq_rz1, ↓kq_rzB, ↓Option.bind_some, kq_dvn, kt_lt, kf_lt, kt_eq, kf_eq, decide_true, decide_false, eq_self, Bool.false_eq_true, Bool.true_eq_false, not_true_eq_false, not_false_eq_true, jU_eq, jU_ne, jU_U, jV_eq, jV_ne, jV_V, kn_lit, kn_add, kn_mul, kn_sdm, kn_sub, kn_div, kn_nsdm, kn_lt, kn_eq, kn_pred, kn_m1, kn_m1', kn_a31, kn_shl, kn_shr, kn_bit, nB_0, nB_1, nB_t, nB_f, Nat.zero_add, Nat.add_zero, Nat.reduceAdd, Nat.reduceMul, Nat.reduceSub, Nat.reducePow]
  · rw [if_neg h1]
    cases hb : op (k * τ 0 0 + g)
    · rw [hb, if_pos (show (!false) = true from rfl)] at hs
      simp (disch := omega) only [e, m_has, hs, F_Mod_steals_b28, ↓dK_205 hL, ↓dG_205 hL, ↓dP_205 hL, ↓dZ_205 hL (x := nI 0) (Or.inl rfl), ↓dZ_205 hL (x := nI 1) (Or.inr rfl), ↓dZ_205 hL (Or.inl rfl), ↓dZ_205 hL (Or.inr rfl), ↓dZ_205 hL (nB_01 _), ↓dR_205_48 hL, dI_715 hL, dS_715 hL, ↓reduceIte, ↓kq_bi, ↓kq_let, ↓kq_rz0, ↓kq_rz1, ↓kq_rzB, ↓Option.bind_some, kq_dvn, kt_lt, kf_lt, kt_eq, kf_eq, decide_true, decide_false, eq_self, Bool.false_eq_true, Bool.true_eq_false, not_true_eq_false, not_false_eq_true, jU_eq, jU_ne, jU_U, jV_eq, jV_ne, jV_V, kn_lit, kn_add, kn_mul, kn_sdm, kn_sub, kn_div, kn_nsdm, kn_lt, kn_eq, kn_pred, kn_m1, kn_m1', kn_a31, kn_shl, kn_shr, kn_bit, nB_0, nB_1, nB_t, nB_f, Nat.zero_add, Nat.add_zero, Nat.reduceAdd, Nat.reduceMul, Nat.reduceSub, Nat.reducePow]
      rw [nQ_2]
    · rw [hb, if_neg (show ¬ (!true) = true by decide)] at hs
      simp (disch := omega) only [e, m_has, hs, F_Mod_steals_b28, ↓dK_205 hL, ↓dG_205 hL, ↓dP_205 hL, ↓dZ_205 hL (x := nI 0) (Or.inl rfl), ↓dZ_205 hL (x := nI 1) (Or.inr rfl), ↓dZ_205 hL (Or.inl rfl), ↓dZ_205 hL (Or.inr rfl), ↓dZ_205 hL (nB_01 _), ↓dR_205_48 hL, dI_715 hL, dS_715 hL, ↓reduceIte, ↓kq_bi, ↓kq_let, ↓kq_rz0, ↓kq_rz1, ↓kq_rzB, ↓Option.bind_some, kq_dvn, kt_lt, kf_lt, kt_eq, kf_eq, decide_true, decide_false, eq_self, Bool.false_eq_true, Bool.true_eq_false, not_true_eq_false, not_false_eq_true, jU_eq, jU_ne, jU_U, jV_eq, jV_ne, jV_V, kn_lit, kn_add, kn_mul, kn_sdm, kn_sub, kn_div, kn_nsdm, kn_lt, kn_eq, kn_pred, kn_m1, kn_m1', kn_a31, kn_shl, kn_shr, kn_bit, nB_0, nB_1, nB_t, nB_f, Nat.zero_add, Nat.add_zero, Nat.reduceAdd, Nat.reduceMul, Nat.reduceSub, Nat.reducePow]
      rw [nQ_5]
theorem s_any_lt {p : Nat → Bool} : ∀ {n k : Nat}, s_any p n = false → k < n → p k = false := fun {n k} ha hk => by
  cases hp : p k
  · rfl
  · exact absurd (s_any_true.mpr ⟨k, hk, hp⟩) (Bool.eq_false_iff.mp ha)
theorem m_isRest (hL : jLay t u l m b c h) (hT : jMT I τ) (ho : jTOK τ) (hN : N ≤ 24) (hS : jSI I τ op N) {k g y : Nat} (hk : k < N) (hg : g < τ 0 0) (hy : y < τ 0 0) : F_Mod_isRest 205 (nI N) (nI k) (nI g) (nI y) (jz_I h I) = some (nB (s_rs (τ 0 0) (τ 0 0 * N) op (k * τ 0 0 + g) y), jz_I h I) := by
  have o0 : τ 0 0 ≤ 9 := ho.1
  obtain ⟨a1, a2, a3⟩ := s_gG (G := τ 0 0) hg hk
  rw [s_rs_any a1 hy]
  generalize hv : s_py (τ 0 0) op (k * τ 0 0 + g) y = v
  have hv6 : v < 6 := by rw [← hv]; exact s_py_lt
  unfold F_Mod_isRest
  simp (disch := omega) only [m_steals hL ho hN hS hk hg hy, hv, ↓dK_205 hL, ↓dG_205 hL, ↓dP_205 hL, ↓dZ_205 hL (x := nI 0) (Or.inl rfl), ↓dZ_205 hL (x := nI 1) (Or.inr rfl), ↓dZ_205 hL (Or.inl rfl), ↓dZ_205 hL (Or.inr rfl), ↓dZ_205 hL (nB_01 _), ↓reduceIte, ↓kq_bi, ↓kq_let, ↓kq_rz0, ↓kq_rz1, ↓kq_rzB, ↓Option.bind_some, kq_dvn, kt_lt, kf_lt, kt_eq, kf_eq, decide_true, decide_false, eq_self, Bool.false_eq_true, Bool.true_eq_false, not_true_eq_false, not_false_eq_true, jU_eq, jU_ne, jU_U, jV_eq, jV_ne, jV_V, kn_lit, kn_add, kn_mul, kn_sdm, kn_sub, kn_div, kn_nsdm, kn_lt, kn_eq, kn_pred, kn_m1, kn_m1', kn_a31, kn_shl, kn_shr, kn_bit, nB_0, nB_1, nB_t, nB_f, Nat.zero_add, Nat.add_zero, Nat.reduceAdd, Nat.reduceMul, Nat.reduceSub, Nat.reducePow]
  obtain ⟨z, hz, hzP⟩ : jW (F_Mod_isRest_l13 jF 205 (nI N) (nI k) (nI g) (nI y) (nQ v) (nI 0) (jz_I h I)) (fun q => q = (nB (!s_any (fun c' => decide (v < s_py (τ 0 0) op c' y)) (τ 0 0 * N) && !s_any (fun x => decide (s_py (τ 0 0) op (k * τ 0 0 + g) x < v)) (τ 0 0)), jz_I h I)) := by
    generalize hP9 : (fun q : Int32 × LH => q = (nB (!s_any (fun c' => decide (v < s_py (τ 0 0) op c' y)) (τ 0 0 * N) && !s_any (fun x => decide (s_py (τ 0 0) op (k * τ 0 0 + g) x < v)) (τ 0 0)), jz_I h I)) = P
    have bad : (∃ c', c' < τ 0 0 * N ∧ v < s_py (τ 0 0) op c' y) → P (nI 0, jz_I h I) := fun ⟨c', b1, b2⟩ => by
      rw [← hP9]
      have : s_any (fun c' => decide (v < s_py (τ 0 0) op c' y)) (τ 0 0 * N) = true := s_any_true.mpr ⟨c', b1, decide_eq_true b2⟩
      rw [this]; rfl
    refine jW_for0 (f := fun fuel k' (_ : Unit) => F_Mod_isRest_l13 fuel 205 (nI N) (nI k) (nI g) (nI y) (nQ v) (nI k') (jz_I h I)) N (fun k' _ => ∀ c', c' < k' * τ 0 0 → ¬ v < s_py (τ 0 0) op c' y) () (fun c' hc => absurd hc (by rw [Nat.zero_mul]; exact Nat.not_lt_zero _)) (by omega) (fun n k' _ hk' hV ih => ?_) (fun n _ hV => ?_)
    · show jW (F_Mod_isRest_c13 (F_Mod_isRest_l13 n) 205 (nI N) (nI k) (nI g) (nI y) (nQ v) (nI k') (jz_I h I)) P
      unfold F_Mod_isRest_c13
      simp (disch := omega) only [↓reduceIte, ↓kq_bi, ↓kq_let, ↓kq_rz0, ↓kq_rz1, ↓kq_rzB, ↓Option.bind_some, kq_dvn, kt_lt, kf_lt, kt_eq, kf_eq, decide_true, decide_false, eq_self, Bool.false_eq_true, Bool.true_eq_false, not_true_eq_false, not_false_eq_true, jU_eq, jU_ne, jU_U, jV_eq, jV_ne, jV_V, kn_lit, kn_add, kn_mul, kn_sdm, kn_sub, kn_div, kn_nsdm, kn_lt, kn_eq, kn_pred, kn_m1, kn_m1', kn_a31, kn_shl, kn_shr, kn_bit, nB_0, nB_1, nB_t, nB_f, Nat.zero_add, Nat.add_zero, Nat.reduceAdd, Nat.reduceMul, Nat.reduceSub, Nat.reducePow]
      refine jW_for0 (f := fun fuel x (_ : Unit) => F_Mod_isRest_l22 (F_Mod_isRest_l13 n) fuel 205 (nI N) (nI k) (nI g) (nI y) (nQ v) (nI k') (nI x) (jz_I h I)) (τ 0 0) (fun x _ => ∀ c', c' < k' * τ 0 0 + x → ¬ v < s_py (τ 0 0) op c' y) () hV (by omega) (fun n2 x _ hx hV ih2 => ?_) (fun n2 _ hV => ?_)
      · have p1 := s_py_lt (G := τ 0 0) (op := op) (c := k' * τ 0 0 + x) (k := y)
        show jW (F_Mod_isRest_c22 (F_Mod_isRest_l13 n) (F_Mod_isRest_l22 (F_Mod_isRest_l13 n) n2) 205 (nI N) (nI k) (nI g) (nI y) (nQ v) (nI k') (nI x) (jz_I h I)) P
        unfold F_Mod_isRest_c22
        by_cases hc : v < s_py (τ 0 0) op (k' * τ 0 0 + x) y
        · simp (disch := omega) only [hT.1, m_steals hL ho hN hS hk' hx hy, nQ_lt, ↓dK_205 hL, ↓dG_205 hL, ↓dP_205 hL, ↓dZ_205 hL (x := nI 0) (Or.inl rfl), ↓dZ_205 hL (x := nI 1) (Or.inr rfl), ↓dZ_205 hL (Or.inl rfl), ↓dZ_205 hL (Or.inr rfl), ↓dZ_205 hL (nB_01 _), ↓dR_205_12 hL, dI_209 hL, dS_209 hL, ↓reduceIte, ↓kq_bi, ↓kq_let, ↓kq_rz0, ↓kq_rz1, ↓kq_rzB, ↓Option.bind_some, kq_dvn, kt_lt, kf_lt, kt_eq, kf_eq, decide_true, decide_false, eq_self, Bool.false_eq_true, Bool.true_eq_false, not_true_eq_false, not_false_eq_true, jU_eq, jU_ne, jU_U, jV_eq, jV_ne, jV_V, kn_lit, kn_add, kn_mul, kn_sdm, kn_sub, kn_div, kn_nsdm, kn_lt, kn_eq, kn_pred, kn_m1, kn_m1', kn_a31, kn_shl, kn_shr, kn_bit, nB_0, nB_1, nB_t, nB_f, Nat.zero_add, Nat.add_zero, Nat.reduceAdd, Nat.reduceMul, Nat.reduceSub, Nat.reducePow]
          exact jW_s (bad ⟨_, (s_gG (G := τ 0 0) hx hk').1, hc⟩)
        · simp (disch := omega) only [hT.1, m_steals hL ho hN hS hk' hx hy, nQ_lt, ↓dK_205 hL, ↓dG_205 hL, ↓dP_205 hL, ↓dZ_205 hL (x := nI 0) (Or.inl rfl), ↓dZ_205 hL (x := nI 1) (Or.inr rfl), ↓dZ_205 hL (Or.inl rfl), ↓dZ_205 hL (Or.inr rfl), ↓dZ_205 hL (nB_01 _), ↓dR_205_12 hL, dI_209 hL, dS_209 hL, ↓reduceIte, ↓kq_bi, ↓kq_let, ↓kq_rz0, ↓kq_rz1, ↓kq_rzB, ↓Option.bind_some, kq_dvn, kt_lt, kf_lt, kt_eq, kf_eq, decide_true, decide_false, eq_self, Bool.false_eq_true, Bool.true_eq_false, not_true_eq_false, not_false_eq_true, jU_eq, jU_ne, jU_U, jV_eq, jV_ne, jV_V, kn_lit, kn_add, kn_mul, kn_sdm, kn_sub, kn_div, kn_nsdm, kn_lt, kn_eq, kn_pred, kn_m1, kn_m1', kn_a31, kn_shl, kn_shr, kn_bit, nB_0, nB_1, nB_t, nB_f, Nat.zero_add, Nat.add_zero, Nat.reduceAdd, Nat.reduceMul, Nat.reduceSub, Nat.reducePow]
          refine ih2 () (fun c' hc' => ?_)
          by_cases he : c' = k' * τ 0 0 + x
          · rw [he]; exact hc
          · exact hV c' (by omega)
      · show jW (F_Mod_isRest_c22 (F_Mod_isRest_l13 n) (F_Mod_isRest_l22 (F_Mod_isRest_l13 n) n2) 205 (nI N) (nI k) (nI g) (nI y) (nQ v) (nI k') (nI (τ 0 0)) (jz_I h I)) P
        unfold F_Mod_isRest_c22
        simp (disch := omega) only [hT.1, ↓dK_205 hL, ↓dG_205 hL, ↓dP_205 hL, ↓dZ_205 hL (x := nI 0) (Or.inl rfl), ↓dZ_205 hL (x := nI 1) (Or.inr rfl), ↓dZ_205 hL (Or.inl rfl), ↓dZ_205 hL (Or.inr rfl), ↓dZ_205 hL (nB_01 _), ↓dR_205_12 hL, dI_209 hL, dS_209 hL, ↓reduceIte, ↓kq_bi, ↓kq_let, ↓kq_rz0, ↓kq_rz1, ↓kq_rzB, ↓Option.bind_some, kq_dvn, kt_lt, kf_lt, kt_eq, kf_eq, decide_true, decide_false, eq_self, Bool.false_eq_true, Bool.true_eq_false, not_true_eq_false, not_false_eq_true, jU_eq, jU_ne, jU_U, jV_eq, jV_ne, jV_V, kn_lit, kn_add, kn_mul, kn_sdm, kn_sub, kn_div, kn_nsdm, kn_lt, kn_eq, kn_pred, kn_m1, kn_m1', kn_a31, kn_shl, kn_shr, kn_bit, nB_0, nB_1, nB_t, nB_f, Nat.zero_add, Nat.add_zero, Nat.reduceAdd, Nat.reduceMul, Nat.reduceSub, Nat.reducePow]
        exact ih () (fun c' hc' => hV c' (by rw [← Nat.succ_mul]; exact hc'))
    · have hno : s_any (fun c' => decide (v < s_py (τ 0 0) op c' y)) (τ 0 0 * N) = false := by
        rw [Bool.eq_false_iff]
        intro ha
        obtain ⟨c', b1, b2⟩ := s_any_true.mp ha
        exact hV c' (by rw [Nat.mul_comm]; exact b1) (of_decide_eq_true b2)
      show jW (F_Mod_isRest_c13 (F_Mod_isRest_l13 n) 205 (nI N) (nI k) (nI g) (nI y) (nQ v) (nI N) (jz_I h I)) P
      unfold F_Mod_isRest_c13
      simp (disch := omega) only [↓reduceIte, ↓kq_bi, ↓kq_let, ↓kq_rz0, ↓kq_rz1, ↓kq_rzB, ↓Option.bind_some, kq_dvn, kt_lt, kf_lt, kt_eq, kf_eq, decide_true, decide_false, eq_self, Bool.false_eq_true, Bool.true_eq_false, not_true_eq_false, not_false_eq_true, jU_eq, jU_ne, jU_U, jV_eq, jV_ne, jV_V, kn_lit, kn_add, kn_mul, kn_sdm, kn_sub, kn_div, kn_nsdm, kn_lt, kn_eq, kn_pred, kn_m1, kn_m1', kn_a31, kn_shl, kn_shr, kn_bit, nB_0, nB_1, nB_t, nB_f, Nat.zero_add, Nat.add_zero, Nat.reduceAdd, Nat.reduceMul, Nat.reduceSub, Nat.reducePow]
      rw [hno] at hP9
      refine jW_e (q := (nB (!s_any (fun x => decide (s_py (τ 0 0) op (k * τ 0 0 + g) x < v)) (τ 0 0)), jz_I h I)) ?_ (by rw [← hP9]; rfl)
      refine (jz_any (fun fuel x => F_Mod_isRest_l65 fuel 205 (nI k) (nI g) (nQ v) (nI x) (jz_I h I)) (τ 0 0) (fun x => decide (s_py (τ 0 0) op (k * τ 0 0 + g) x < v)) (some (nI 0, jz_I h I)) (some (nI 1, jz_I h I)) (fun n x hx hp => ?_) (fun n x hx hp => ?_) (fun n => ?_) jF (by show _ < 1000; omega)).trans (by cases s_any (fun x => decide (s_py (τ 0 0) op (k * τ 0 0 + g) x < v)) (τ 0 0) <;> rfl)
      · have hp := of_decide_eq_false hp
        have p1 := s_py_lt (G := τ 0 0) (op := op) (c := k * τ 0 0 + g) (k := x)
        show F_Mod_isRest_c65 (F_Mod_isRest_l65 n) 205 (nI k) (nI g) (nQ v) (nI x) (jz_I h I) = F_Mod_isRest_l65 n 205 (nI k) (nI g) (nQ v) (nI (x + 1)) (jz_I h I)
        unfold F_Mod_isRest_c65
        simp (disch := omega) only [hT.1, m_steals hL ho hN hS hk hg hx, nQ_lt, ↓dK_205 hL, ↓dG_205 hL, ↓dP_205 hL, ↓dZ_205 hL (x := nI 0) (Or.inl rfl), ↓dZ_205 hL (x := nI 1) (Or.inr rfl), ↓dZ_205 hL (Or.inl rfl), ↓dZ_205 hL (Or.inr rfl), ↓dZ_205 hL (nB_01 _), ↓dR_205_12 hL, dI_209 hL, dS_209 hL, ↓reduceIte, ↓kq_bi, ↓kq_let, ↓kq_rz0, ↓kq_rz1, ↓kq_rzB, ↓Option.bind_some, kq_dvn, kt_lt, kf_lt, kt_eq, kf_eq, decide_true, decide_false, eq_self, Bool.false_eq_true, Bool.true_eq_false, not_true_eq_false, not_false_eq_true, jU_eq, jU_ne, jU_U, jV_eq, jV_ne, jV_V, kn_lit, kn_add, kn_mul, kn_sdm, kn_sub, kn_div, kn_nsdm, kn_lt, kn_eq, kn_pred, kn_m1, kn_m1', kn_a31, kn_shl, kn_shr, kn_bit, nB_0, nB_1, nB_t, nB_f, Nat.zero_add, Nat.add_zero, Nat.reduceAdd, Nat.reduceMul, Nat.reduceSub, Nat.reducePow]
      · have hp := of_decide_eq_true hp
        have p1 := s_py_lt (G := τ 0 0) (op := op) (c := k * τ 0 0 + g) (k := x)
        show F_Mod_isRest_c65 (F_Mod_isRest_l65 n) 205 (nI k) (nI g) (nQ v) (nI x) (jz_I h I) = some (nI 0, jz_I h I)
        unfold F_Mod_isRest_c65
        simp (disch := omega) only [hT.1, m_steals hL ho hN hS hk hg hx, nQ_lt, ↓dK_205 hL, ↓dG_205 hL, ↓dP_205 hL, ↓dZ_205 hL (x := nI 0) (Or.inl rfl), ↓dZ_205 hL (x := nI 1) (Or.inr rfl), ↓dZ_205 hL (Or.inl rfl), ↓dZ_205 hL (Or.inr rfl), ↓dZ_205 hL (nB_01 _), ↓dR_205_12 hL, dI_209 hL, dS_209 hL, ↓reduceIte, ↓kq_bi, ↓kq_let, ↓kq_rz0, ↓kq_rz1, ↓kq_rzB, ↓Option.bind_some, kq_dvn, kt_lt, kf_lt, kt_eq, kf_eq, decide_true, decide_false, eq_self, Bool.false_eq_true, Bool.true_eq_false, not_true_eq_false, not_false_eq_true, jU_eq, jU_ne, jU_U, jV_eq, jV_ne, jV_V, kn_lit, kn_add, kn_mul, kn_sdm, kn_sub, kn_div, kn_nsdm, kn_lt, kn_eq, kn_pred, kn_m1, kn_m1', kn_a31, kn_shl, kn_shr, kn_bit, nB_0, nB_1, nB_t, nB_f, Nat.zero_add, Nat.add_zero, Nat.reduceAdd, Nat.reduceMul, Nat.reduceSub, Nat.reducePow]
      · show F_Mod_isRest_c65 (F_Mod_isRest_l65 n) 205 (nI k) (nI g) (nQ v) (nI (τ 0 0)) (jz_I h I) = some (nI 1, jz_I h I)
        unfold F_Mod_isRest_c65
        simp (disch := omega) only [hT.1, ↓dK_205 hL, ↓dG_205 hL, ↓dP_205 hL, ↓dZ_205 hL (x := nI 0) (Or.inl rfl), ↓dZ_205 hL (x := nI 1) (Or.inr rfl), ↓dZ_205 hL (Or.inl rfl), ↓dZ_205 hL (Or.inr rfl), ↓dZ_205 hL (nB_01 _), ↓dR_205_12 hL, dI_209 hL, dS_209 hL, ↓reduceIte, ↓kq_bi, ↓kq_let, ↓kq_rz0, ↓kq_rz1, ↓kq_rzB, ↓Option.bind_some, kq_dvn, kt_lt, kf_lt, kt_eq, kf_eq, decide_true, decide_false, eq_self, Bool.false_eq_true, Bool.true_eq_false, not_true_eq_false, not_false_eq_true, jU_eq, jU_ne, jU_U, jV_eq, jV_ne, jV_V, kn_lit, kn_add, kn_mul, kn_sdm, kn_sub, kn_div, kn_nsdm, kn_lt, kn_eq, kn_pred, kn_m1, kn_m1', kn_a31, kn_shl, kn_shr, kn_bit, nB_0, nB_1, nB_t, nB_f, Nat.zero_add, Nat.add_zero, Nat.reduceAdd, Nat.reduceMul, Nat.reduceSub, Nat.reducePow]
  rw [hz, hzP]
theorem m_guard (hL : jLay t u l m b c h) (hQ : jQM I τ ω r) {N w : Nat} (h1 : 1 ≤ N) (hN : N ≤ 24) (hw : w ≤ 2) : ∃ J, F_Mod_guard 205 (nI N) (nI w) (jz_I h I) = some (s_guard τ ω r N w, jz_I h J) ∧ jN I J := by
  have N0 := jN_0 hQ
  have ho := hQ.1.2.1
  have o0 : τ 0 0 ≤ 9 := ho.1
  refine jE_i (fun P hP => ?_)
  unfold F_Mod_guard
  simp (disch := omega) only [m_in1, m_bad0 hL N0.2.2.2, F_Mod_guard_b30, ↓dK_205 hL, ↓dG_205 hL, ↓dP_205 hL, ↓dZ_205 hL (x := nI 0) (Or.inl rfl), ↓dZ_205 hL (x := nI 1) (Or.inr rfl), ↓dZ_205 hL (Or.inl rfl), ↓dZ_205 hL (Or.inr rfl), ↓dZ_205 hL (nB_01 _), ↓reduceIte, ↓kq_bi, ↓kq_let, ↓kq_rz0, ↓kq_rz1, ↓kq_rzB, ↓Option.bind_some, kq_dvn, kt_lt, kf_lt, kt_eq, kf_eq, decide_true, decide_false, eq_self, Bool.false_eq_true, Bool.true_eq_false, not_true_eq_false, not_false_eq_true, jU_eq, jU_ne, jU_U, jV_eq, jV_ne, jV_V, kn_lit, kn_add, kn_mul, kn_sdm, kn_sub, kn_div, kn_nsdm, kn_lt, kn_eq, kn_pred, kn_m1, kn_m1', kn_a31, kn_shl, kn_shr, kn_bit, nB_0, nB_1, nB_t, nB_f, Nat.zero_add, Nat.add_zero, Nat.reduceAdd, Nat.reduceMul, Nat.reduceSub, Nat.reducePow]
  refine jW_bn (m_trial hL hQ N0) (fun J hJ => ?_)
  refine jW_for0 (f := fun fuel k (J : Nat → Nat → Int32) => F_Mod_guard_l55 fuel 205 (nI N) (nI w) (nI 0) (-nI 1) (nI 0) (nI k) (jz_I h J)) N (fun k J => (jN I J ∧ jMR J 692 (s_hrs τ ω r k)) ∧ jSI J τ (s_opn τ ω r) k) J ⟨hJ, fun k hk => absurd hk (Nat.not_lt_zero k)⟩ (by omega) (fun n k J hk hV ih => ?_) (fun n J hV => ?_)
  · obtain ⟨⟨v1, v2⟩, v3⟩ := hV
    obtain ⟨hq, -⟩ := s_hrs_ok (ω := ω) ho hQ.2.2.1 hQ.2.2.2 k (by omega)
    show jW (F_Mod_guard_c55 (F_Mod_guard_l55 n) 205 (nI N) (nI w) (nI 0) (-nI 1) (nI 0) (nI k) (jz_I h J)) P
    unfold F_Mod_guard_c55
    simp (disch := omega) only [↓dK_205 hL, ↓dG_205 hL, ↓dP_205 hL, ↓dZ_205 hL (x := nI 0) (Or.inl rfl), ↓dZ_205 hL (x := nI 1) (Or.inr rfl), ↓dZ_205 hL (Or.inl rfl), ↓dZ_205 hL (Or.inr rfl), ↓dZ_205 hL (nB_01 _), ↓dR_205_36 hL, dI_692 hL, dS_692 hL, ↓dR_205_48 hL, dI_715 hL, dS_715 hL, ↓reduceIte, ↓kq_bi, ↓kq_let, ↓kq_rz0, ↓kq_rz1, ↓kq_rzB, ↓Option.bind_some, kq_dvn, kt_lt, kf_lt, kt_eq, kf_eq, decide_true, decide_false, eq_self, Bool.false_eq_true, Bool.true_eq_false, not_true_eq_false, not_false_eq_true, jU_eq, jU_ne, jU_U, jV_eq, jV_ne, jV_V, kn_lit, kn_add, kn_mul, kn_sdm, kn_sub, kn_div, kn_nsdm, kn_lt, kn_eq, kn_pred, kn_m1, kn_m1', kn_a31, kn_shl, kn_shr, kn_bit, nB_0, nB_1, nB_t, nB_f, Nat.zero_add, Nat.add_zero, Nat.reduceAdd, Nat.reduceMul, Nat.reduceSub, Nat.reducePow]
    refine jW_bi (m_shutBits hL (jN_QM v1 hQ).1 (Or.inr rfl) v2 hq) (fun J2 hJ2 => ?_)
    simp (disch := omega) only [↓dK_205 hL, ↓dG_205 hL, ↓dP_205 hL, ↓dZ_205 hL (x := nI 0) (Or.inl rfl), ↓dZ_205 hL (x := nI 1) (Or.inr rfl), ↓dZ_205 hL (Or.inl rfl), ↓dZ_205 hL (Or.inr rfl), ↓dZ_205 hL (nB_01 _), ↓dR_205_36 hL, dI_692 hL, dS_692 hL, ↓dR_205_48 hL, dI_715 hL, dS_715 hL, ↓reduceIte, ↓kq_bi, ↓kq_let, ↓kq_rz0, ↓kq_rz1, ↓kq_rzB, ↓Option.bind_some, kq_dvn, kt_lt, kf_lt, kt_eq, kf_eq, decide_true, decide_false, eq_self, Bool.false_eq_true, Bool.true_eq_false, not_true_eq_false, not_false_eq_true, jU_eq, jU_ne, jU_U, jV_eq, jV_ne, jV_V, kn_lit, kn_add, kn_mul, kn_sdm, kn_sub, kn_div, kn_nsdm, kn_lt, kn_eq, kn_pred, kn_m1, kn_m1', kn_a31, kn_shl, kn_shr, kn_bit, nB_0, nB_1, nB_t, nB_f, Nat.zero_add, Nat.add_zero, Nat.reduceAdd, Nat.reduceMul, Nat.reduceSub, Nat.reducePow]
    have N2 := jN_89 v1 hJ2
    have n2 : jN I (jU J2 715 (jV (J2 715) k (nI (s_bits (s_sh τ ω false (s_hrs τ ω r k)) (τ 0 0))))) := by
      obtain ⟨n1, n2, n3, n4⟩ := N2
      exact ⟨fun a a1 a2 a3 a4 a5 => by rw [jU_ne (by omega)]; exact n1 a a1 a2 a3 a4 a5, fun j j1 j2 => by rw [jU_ne (by omega)]; exact n2 j j1 j2, by rw [jU_ne (by omega)]; exact n3, by rw [jU_ne (by omega)]; exact n4⟩
    refine jW_bn (m_hourEnds hL (jN_QM n2 hQ).1 (Or.inr rfl) (r := s_hrs τ ω r k) (fun j hj => by rw [jU_ne (by omega), hJ2 692 (by omega) (by omega)]; exact v2 j hj) hq) (fun J3 hJ3 => ?_)
    refine ih J3 ⟨⟨jN_S3 n2 hJ3.2, hJ3.1⟩, fun k' hk' => ?_⟩
    rw [hJ3.2 715 (by omega) (by omega) (by omega), jU_eq]
    by_cases hkk : k' = k
    · rw [hkk, jV_eq]
      congr 1
      refine s_or_congr _ (fun g hg => ?_)
      obtain ⟨a1, a2, a3⟩ := s_gG (G := τ 0 0) hg hk
      have : (!(s_opn τ ω r (k * τ 0 0 + g))) = s_sh τ ω false (s_hrs τ ω r k) g := by unfold s_opn; rw [a2, a3, Bool.not_not]
      show (if s_sh τ ω false (s_hrs τ ω r k) g = true then 2 ^ g else 0) = (if (!(s_opn τ ω r (k * τ 0 0 + g))) = true then 2 ^ g else 0)
      rw [this]
    · rw [jV_ne hkk, hJ2 715 (by omega) (by omega)]
      exact v3 k' (by omega)
  · obtain ⟨⟨v1, v2⟩, v3⟩ := hV
    have hQ' := jN_QM v1 hQ
    have hT := hQ'.1.1
    have fin := hP J v1
    have h216 : τ 0 0 * N ≤ 216 := Nat.le_trans (Nat.mul_le_mul o0 hN) (by decide)
    unfold s_guard s_grd at fin
    generalize hop : s_opn τ ω r = op at v3 fin
    generalize hCC : τ 0 0 * N = C at fin h216
    have bnd : ∀ c, c ≤ C → (s_gdo (τ 0 0) C op c).1 ≤ 2000 := fun c hc => Nat.le_trans (s_gdo_le c) (Nat.le_trans (Nat.mul_le_mul (show c ≤ 216 by omega) o0) (by decide))
    show jW (F_Mod_guard_c55 (F_Mod_guard_l55 n) 205 (nI N) (nI w) (nI 0) (-nI 1) (nI 0) (nI N) (jz_I h J)) P
    unfold F_Mod_guard_c55
    simp (disch := omega) only [↓reduceIte, ↓kq_bi, ↓kq_let, ↓kq_rz0, ↓kq_rz1, ↓kq_rzB, ↓Option.bind_some, kq_dvn, kt_lt, kf_lt, kt_eq, kf_eq, decide_true, decide_false, eq_self, Bool.false_eq_true, Bool.true_eq_false, not_true_eq_false, not_false_eq_true, jU_eq, jU_ne, jU_U, jV_eq, jV_ne, jV_V, kn_lit, kn_add, kn_mul, kn_sdm, kn_sub, kn_div, kn_nsdm, kn_lt, kn_eq, kn_pred, kn_m1, kn_m1', kn_a31, kn_shl, kn_shr, kn_bit, nB_0, nB_1, nB_t, nB_f, Nat.zero_add, Nat.add_zero, Nat.reduceAdd, Nat.reduceMul, Nat.reduceSub, Nat.reducePow]
    have main : F_Mod_guard_l93 jF 205 (nI N) (nI w) (nI 0) (-nI 1) (nI 0) (nI 0) (jz_I h J) = some (if w = 0 then nI (s_gdo (τ 0 0) C op C).1 else if w = 1 then nO (s_gdo (τ 0 0) C op C).2.1 else nQ (s_gdo (τ 0 0) C op C).2.2, jz_I h J) := by
      refine jz_forI (fun fuel k (s : JGd) => F_Mod_guard_l93 fuel 205 (nI N) (nI w) (nI s.1) (nO s.2.1) (nQ s.2.2) (nI k) (jz_I h J)) N (fun k => s_gdo (τ 0 0) C op (k * τ 0 0)) _ (s0 := (0, none, 2)) (by rw [Nat.zero_mul]; rfl) (fun n k hk => ?_) (fun n => ?_) jF (by show _ < 1000; omega)
      · simp (disch := omega) only [F_Mod_guard_l93, F_Mod_guard_c93, ↓reduceIte, ↓kq_bi, ↓kq_let, ↓kq_rz0, ↓kq_rz1, ↓kq_rzB, ↓Option.bind_some, kq_dvn, kt_lt, kf_lt, kt_eq, kf_eq, decide_true, decide_false, eq_self, Bool.false_eq_true, Bool.true_eq_false, not_true_eq_false, not_false_eq_true, jU_eq, jU_ne, jU_U, jV_eq, jV_ne, jV_V, kn_lit, kn_add, kn_mul, kn_sdm, kn_sub, kn_div, kn_nsdm, kn_lt, kn_eq, kn_pred, kn_m1, kn_m1', kn_a31, kn_shl, kn_shr, kn_bit, nB_0, nB_1, nB_t, nB_f, Nat.zero_add, Nat.add_zero, Nat.reduceAdd, Nat.reduceMul, Nat.reduceSub, Nat.reducePow]
        rw [Nat.succ_mul]
        refine jz_forI (fun fuel g (s : JGd) => F_Mod_guard_l102 (F_Mod_guard_l93 n) fuel 205 (nI N) (nI w) (nI s.1) (nO s.2.1) (nQ s.2.2) (nI k) (nI g) (jz_I h J)) (τ 0 0) (fun g => s_gdo (τ 0 0) C op (k * τ 0 0 + g)) _ (s0 := s_gdo (τ 0 0) C op (k * τ 0 0)) rfl (fun n2 g hg => ?_) (fun n2 => ?_) jF (by show _ < 1000; omega)
        · obtain ⟨a1, a2, a3⟩ := s_gG (G := τ 0 0) hg hk
          simp (disch := omega) only [F_Mod_guard_l102, F_Mod_guard_c102, hT.1, ↓dK_205 hL, ↓dG_205 hL, ↓dP_205 hL, ↓dZ_205 hL (x := nI 0) (Or.inl rfl), ↓dZ_205 hL (x := nI 1) (Or.inr rfl), ↓dZ_205 hL (Or.inl rfl), ↓dZ_205 hL (Or.inr rfl), ↓dZ_205 hL (nB_01 _), ↓dR_205_12 hL, dI_209 hL, dS_209 hL, ↓reduceIte, ↓kq_bi, ↓kq_let, ↓kq_rz0, ↓kq_rz1, ↓kq_rzB, ↓Option.bind_some, kq_dvn, kt_lt, kf_lt, kt_eq, kf_eq, decide_true, decide_false, eq_self, Bool.false_eq_true, Bool.true_eq_false, not_true_eq_false, not_false_eq_true, jU_eq, jU_ne, jU_U, jV_eq, jV_ne, jV_V, kn_lit, kn_add, kn_mul, kn_sdm, kn_sub, kn_div, kn_nsdm, kn_lt, kn_eq, kn_pred, kn_m1, kn_m1', kn_a31, kn_shl, kn_shr, kn_bit, nB_0, nB_1, nB_t, nB_f, Nat.zero_add, Nat.add_zero, Nat.reduceAdd, Nat.reduceMul, Nat.reduceSub, Nat.reducePow]
          have hb0 := bnd (k * τ 0 0 + g) (by omega)
          refine jz_forI (fun fuel y (s : JGd) => F_Mod_guard_l116 (F_Mod_guard_l93 n) (F_Mod_guard_l102 (F_Mod_guard_l93 n) n2) fuel 205 (nI N) (nI w) (nI s.1) (nO s.2.1) (nQ s.2.2) (nI k) (nI g) (nI y) (jz_I h J)) (τ 0 0) (fun y => s_gdi (τ 0 0) C op (k * τ 0 0 + g) (s_gdo (τ 0 0) C op (k * τ 0 0 + g)) y) _ (s0 := s_gdo (τ 0 0) C op (k * τ 0 0 + g)) rfl (fun n3 y hy => ?_) (fun n3 => ?_) jF (by show _ < 1000; omega)
          · have hle := s_gdi_le (G := τ 0 0) (C := C) (op := op) (c := k * τ 0 0 + g) (s := s_gdo (τ 0 0) C op (k * τ 0 0 + g)) y
            have er := m_isRest hL hT ho hN v3 hk hg hy
            rw [hCC] at er
            show F_Mod_guard_c116 (F_Mod_guard_l93 n) (F_Mod_guard_l102 (F_Mod_guard_l93 n) n2) (F_Mod_guard_l116 (F_Mod_guard_l93 n) (F_Mod_guard_l102 (F_Mod_guard_l93 n) n2) n3) 205 (nI N) (nI w) (nI (s_gdi (τ 0 0) C op (k * τ 0 0 + g) (s_gdo (τ 0 0) C op (k * τ 0 0 + g)) y).1) (nO (s_gdi (τ 0 0) C op (k * τ 0 0 + g) (s_gdo (τ 0 0) C op (k * τ 0 0 + g)) y).2.1) (nQ (s_gdi (τ 0 0) C op (k * τ 0 0 + g) (s_gdo (τ 0 0) C op (k * τ 0 0 + g)) y).2.2) (nI k) (nI g) (nI y) (jz_I h J) = F_Mod_guard_l116 (F_Mod_guard_l93 n) (F_Mod_guard_l102 (F_Mod_guard_l93 n) n2) n3 205 (nI N) (nI w) (nI (s_gdu (τ 0 0) C op (k * τ 0 0 + g) y (s_gdi (τ 0 0) C op (k * τ 0 0 + g) (s_gdo (τ 0 0) C op (k * τ 0 0 + g)) y)).1) (nO (s_gdu (τ 0 0) C op (k * τ 0 0 + g) y (s_gdi (τ 0 0) C op (k * τ 0 0 + g) (s_gdo (τ 0 0) C op (k * τ 0 0 + g)) y)).2.1) (nQ (s_gdu (τ 0 0) C op (k * τ 0 0 + g) y (s_gdi (τ 0 0) C op (k * τ 0 0 + g) (s_gdo (τ 0 0) C op (k * τ 0 0 + g)) y)).2.2) (nI k) (nI g) (nI (y + 1)) (jz_I h J)
            unfold F_Mod_guard_c116 s_gdu
            rw [a2, a3]
            generalize s_gdi (τ 0 0) C op (k * τ 0 0 + g) (s_gdo (τ 0 0) C op (k * τ 0 0 + g)) y = z at hle
            obtain ⟨z1, z2, z3⟩ := z
            cases hr : s_rs (τ 0 0) C op (k * τ 0 0 + g) y
            · rw [if_neg (show ¬ false = true by decide)]
              simp (disch := omega) only [hT.1, er, hr, F_Mod_guard_b193, ↓dK_205 hL, ↓dG_205 hL, ↓dP_205 hL, ↓dZ_205 hL (x := nI 0) (Or.inl rfl), ↓dZ_205 hL (x := nI 1) (Or.inr rfl), ↓dZ_205 hL (Or.inl rfl), ↓dZ_205 hL (Or.inr rfl), ↓dZ_205 hL (nB_01 _), ↓dR_205_12 hL, dI_209 hL, dS_209 hL, ↓reduceIte, ↓kq_bi, ↓kq_let, ↓kq_rz0, ↓kq_rz1, ↓kq_rzB, ↓Option.bind_some, kq_dvn, kt_lt, kf_lt, kt_eq, kf_eq, decide_true, decide_false, eq_self, Bool.false_eq_true, Bool.true_eq_false, not_true_eq_false, not_false_eq_true, jU_eq, jU_ne, jU_U, jV_eq, jV_ne, jV_V, kn_lit, kn_add, kn_mul, kn_sdm, kn_sub, kn_div, kn_nsdm, kn_lt, kn_eq, kn_pred, kn_m1, kn_m1', kn_a31, kn_shl, kn_shr, kn_bit, nB_0, nB_1, nB_t, nB_f, Nat.zero_add, Nat.add_zero, Nat.reduceAdd, Nat.reduceMul, Nat.reduceSub, Nat.reducePow]
            · rw [if_pos (show true = true from rfl)]
              by_cases h0 : z1 = 0
              · subst h0
                simp only [if_true, nO_some]
                simp (disch := omega) only [hT.1, er, hr, m_steals hL ho hN v3 hk hg hy, F_Mod_guard_b163, F_Mod_guard_b188, F_Mod_guard_b193, ↓dK_205 hL, ↓dG_205 hL, ↓dP_205 hL, ↓dZ_205 hL (x := nI 0) (Or.inl rfl), ↓dZ_205 hL (x := nI 1) (Or.inr rfl), ↓dZ_205 hL (Or.inl rfl), ↓dZ_205 hL (Or.inr rfl), ↓dZ_205 hL (nB_01 _), ↓dR_205_12 hL, dI_209 hL, dS_209 hL, ↓reduceIte, ↓kq_bi, ↓kq_let, ↓kq_rz0, ↓kq_rz1, ↓kq_rzB, ↓Option.bind_some, kq_dvn, kt_lt, kf_lt, kt_eq, kf_eq, decide_true, decide_false, eq_self, Bool.false_eq_true, Bool.true_eq_false, not_true_eq_false, not_false_eq_true, jU_eq, jU_ne, jU_U, jV_eq, jV_ne, jV_V, kn_lit, kn_add, kn_mul, kn_sdm, kn_sub, kn_div, kn_nsdm, kn_lt, kn_eq, kn_pred, kn_m1, kn_m1', kn_a31, kn_shl, kn_shr, kn_bit, nB_0, nB_1, nB_t, nB_f, Nat.zero_add, Nat.add_zero, Nat.reduceAdd, Nat.reduceMul, Nat.reduceSub, Nat.reducePow]
              · simp only [h0, if_false]
                simp (disch := omega) only [hT.1, er, hr, F_Mod_guard_b163, F_Mod_guard_b188, F_Mod_guard_b193, ↓dK_205 hL, ↓dG_205 hL, ↓dP_205 hL, ↓dZ_205 hL (x := nI 0) (Or.inl rfl), ↓dZ_205 hL (x := nI 1) (Or.inr rfl), ↓dZ_205 hL (Or.inl rfl), ↓dZ_205 hL (Or.inr rfl), ↓dZ_205 hL (nB_01 _), ↓dR_205_12 hL, dI_209 hL, dS_209 hL, ↓reduceIte, ↓kq_bi, ↓kq_let, ↓kq_rz0, ↓kq_rz1, ↓kq_rzB, ↓Option.bind_some, kq_dvn, kt_lt, kf_lt, kt_eq, kf_eq, decide_true, decide_false, eq_self, Bool.false_eq_true, Bool.true_eq_false, not_true_eq_false, not_false_eq_true, jU_eq, jU_ne, jU_U, jV_eq, jV_ne, jV_V, kn_lit, kn_add, kn_mul, kn_sdm, kn_sub, kn_div, kn_nsdm, kn_lt, kn_eq, kn_pred, kn_m1, kn_m1', kn_a31, kn_shl, kn_shr, kn_bit, nB_0, nB_1, nB_t, nB_f, Nat.zero_add, Nat.add_zero, Nat.reduceAdd, Nat.reduceMul, Nat.reduceSub, Nat.reducePow]
          · generalize hz : s_gdi (τ 0 0) C op (k * τ 0 0 + g) (s_gdo (τ 0 0) C op (k * τ 0 0 + g)) (τ 0 0) = z
            have ez : s_gdo (τ 0 0) C op (k * τ 0 0 + (g + 1)) = z := hz
            show F_Mod_guard_c116 (F_Mod_guard_l93 n) (F_Mod_guard_l102 (F_Mod_guard_l93 n) n2) (F_Mod_guard_l116 (F_Mod_guard_l93 n) (F_Mod_guard_l102 (F_Mod_guard_l93 n) n2) n3) 205 (nI N) (nI w) (nI z.1) (nO z.2.1) (nQ z.2.2) (nI k) (nI g) (nI (τ 0 0)) (jz_I h J) = _
            unfold F_Mod_guard_c116
            simp (disch := omega) only [hT.1, ez, ↓dK_205 hL, ↓dG_205 hL, ↓dP_205 hL, ↓dZ_205 hL (x := nI 0) (Or.inl rfl), ↓dZ_205 hL (x := nI 1) (Or.inr rfl), ↓dZ_205 hL (Or.inl rfl), ↓dZ_205 hL (Or.inr rfl), ↓dZ_205 hL (nB_01 _), ↓dR_205_12 hL, dI_209 hL, dS_209 hL, ↓reduceIte, ↓kq_bi, ↓kq_let, ↓kq_rz0, ↓kq_rz1, ↓kq_rzB, ↓Option.bind_some, kq_dvn, kt_lt, kf_lt, kt_eq, kf_eq, decide_true, decide_false, eq_self, Bool.false_eq_true, Bool.true_eq_false, not_true_eq_false, not_false_eq_true, jU_eq, jU_ne, jU_U, jV_eq, jV_ne, jV_V, kn_lit, kn_add, kn_mul, kn_sdm, kn_sub, kn_div, kn_nsdm, kn_lt, kn_eq, kn_pred, kn_m1, kn_m1', kn_a31, kn_shl, kn_shr, kn_bit, nB_0, nB_1, nB_t, nB_f, Nat.zero_add, Nat.add_zero, Nat.reduceAdd, Nat.reduceMul, Nat.reduceSub, Nat.reducePow]
        · show F_Mod_guard_c102 (F_Mod_guard_l93 n) (F_Mod_guard_l102 (F_Mod_guard_l93 n) n2) 205 (nI N) (nI w) (nI (s_gdo (τ 0 0) C op (k * τ 0 0 + τ 0 0)).1) (nO (s_gdo (τ 0 0) C op (k * τ 0 0 + τ 0 0)).2.1) (nQ (s_gdo (τ 0 0) C op (k * τ 0 0 + τ 0 0)).2.2) (nI k) (nI (τ 0 0)) (jz_I h J) = _
          unfold F_Mod_guard_c102
          simp (disch := omega) only [hT.1, ↓dK_205 hL, ↓dG_205 hL, ↓dP_205 hL, ↓dZ_205 hL (x := nI 0) (Or.inl rfl), ↓dZ_205 hL (x := nI 1) (Or.inr rfl), ↓dZ_205 hL (Or.inl rfl), ↓dZ_205 hL (Or.inr rfl), ↓dZ_205 hL (nB_01 _), ↓dR_205_12 hL, dI_209 hL, dS_209 hL, ↓reduceIte, ↓kq_bi, ↓kq_let, ↓kq_rz0, ↓kq_rz1, ↓kq_rzB, ↓Option.bind_some, kq_dvn, kt_lt, kf_lt, kt_eq, kf_eq, decide_true, decide_false, eq_self, Bool.false_eq_true, Bool.true_eq_false, not_true_eq_false, not_false_eq_true, jU_eq, jU_ne, jU_U, jV_eq, jV_ne, jV_V, kn_lit, kn_add, kn_mul, kn_sdm, kn_sub, kn_div, kn_nsdm, kn_lt, kn_eq, kn_pred, kn_m1, kn_m1', kn_a31, kn_shl, kn_shr, kn_bit, nB_0, nB_1, nB_t, nB_f, Nat.zero_add, Nat.add_zero, Nat.reduceAdd, Nat.reduceMul, Nat.reduceSub, Nat.reducePow]
      · rw [show N * τ 0 0 = C by rw [Nat.mul_comm]; exact hCC]
        generalize s_gdo (τ 0 0) C op C = z
        show F_Mod_guard_c93 (F_Mod_guard_l93 n) 205 (nI N) (nI w) (nI z.1) (nO z.2.1) (nQ z.2.2) (nI N) (jz_I h J) = _
        unfold F_Mod_guard_c93
        have : w = 0 ∨ w = 1 ∨ w = 2 := by omega
        rcases this with rfl | rfl | rfl
        · simp (disch := omega) only [F_Mod_guard_b231, ↓reduceIte, ↓kq_bi, ↓kq_let, ↓kq_rz0, ↓kq_rz1, ↓kq_rzB, ↓Option.bind_some, kq_dvn, kt_lt, kf_lt, kt_eq, kf_eq, decide_true, decide_false, eq_self, Bool.false_eq_true, Bool.true_eq_false, not_true_eq_false, not_false_eq_true, jU_eq, jU_ne, jU_U, jV_eq, jV_ne, jV_V, kn_lit, kn_add, kn_mul, kn_sdm, kn_sub, kn_div, kn_nsdm, kn_lt, kn_eq, kn_pred, kn_m1, kn_m1', kn_a31, kn_shl, kn_shr, kn_bit, nB_0, nB_1, nB_t, nB_f, Nat.zero_add, Nat.add_zero, Nat.reduceAdd, Nat.reduceMul, Nat.reduceSub, Nat.reducePow]
        · simp (disch := omega) only [F_Mod_guard_b231, ↓reduceIte, ↓kq_bi, ↓kq_let, ↓kq_rz0, ↓kq_rz1, ↓kq_rzB, ↓Option.bind_some, kq_dvn, kt_lt, kf_lt, kt_eq, kf_eq, decide_true, decide_false, eq_self, Bool.false_eq_true, Bool.true_eq_false, not_true_eq_false, not_false_eq_true, jU_eq, jU_ne, jU_U, jV_eq, jV_ne, jV_V, kn_lit, kn_add, kn_mul, kn_sdm, kn_sub, kn_div, kn_nsdm, kn_lt, kn_eq, kn_pred, kn_m1, kn_m1', kn_a31, kn_shl, kn_shr, kn_bit, nB_0, nB_1, nB_t, nB_f, Nat.zero_add, Nat.add_zero, Nat.reduceAdd, Nat.reduceMul, Nat.reduceSub, Nat.reducePow]
        · simp (disch := omega) only [F_Mod_guard_b231, ↓reduceIte, ↓kq_bi, ↓kq_let, ↓kq_rz0, ↓kq_rz1, ↓kq_rzB, ↓Option.bind_some, kq_dvn, kt_lt, kf_lt, kt_eq, kf_eq, decide_true, decide_false, eq_self, Bool.false_eq_true, Bool.true_eq_false, not_true_eq_false, not_false_eq_true, jU_eq, jU_ne, jU_U, jV_eq, jV_ne, jV_V, kn_lit, kn_add, kn_mul, kn_sdm, kn_sub, kn_div, kn_nsdm, kn_lt, kn_eq, kn_pred, kn_m1, kn_m1', kn_a31, kn_shl, kn_shr, kn_bit, nB_0, nB_1, nB_t, nB_f, Nat.zero_add, Nat.add_zero, Nat.reduceAdd, Nat.reduceMul, Nat.reduceSub, Nat.reducePow]
    exact jW_e main fin
end

/-! PLAIN LEAN, 55: the reference is fed -/
def s_arg5 (a b c d e : Int32) (i : Nat) : Int32 := if i < 4 then a else if i < 8 then b else if i < 12 then c else if i < 16 then d else e
section
variable {t u l m b c : Nat} {h : LH} {I J K : Nat → Nat → Int32} {tp : Nat → Nat} {q : Nat} {x : Int32} {x1 x2 x3 x4 x5 : Int32}
theorem s_fd_lo {k : Nat} (hk : k < q) : s_fd tp q x1 x2 x3 x4 x5 k = tp k := by
  unfold s_fd s_ap
  rw [if_neg (by omega), if_neg (by omega), if_neg (by omega), if_neg (by omega), if_neg (by omega)]
theorem s_fd_at {i : Nat} (hi : i < 20) : s_fd tp q x1 x2 x3 x4 x5 (q + i) = s_lb (s_arg5 x1 x2 x3 x4 x5 i >>> nI (24 - 8 * (i % 4))) := by
  unfold s_fd s_ap s_arg5
  by_cases z1 : i < 4
  · rw [if_neg (by omega), if_neg (by omega), if_neg (by omega), if_neg (by omega), if_pos (by omega), if_pos z1, show q + i - q = i % 4 by omega]
  · by_cases z2 : i < 8
    · rw [if_neg (by omega), if_neg (by omega), if_neg (by omega), if_pos (by omega), if_neg z1, if_pos z2, show q + i - (q + 4) = i % 4 by omega]
    · by_cases z3 : i < 12
      · rw [if_neg (by omega), if_neg (by omega), if_pos (by omega), if_neg z1, if_neg z2, if_pos z3, show q + i - (q + 8) = i % 4 by omega]
      · by_cases z4 : i < 16
        · rw [if_neg (by omega), if_pos (by omega), if_neg z1, if_neg z2, if_neg z3, if_pos z4, show q + i - (q + 12) = i % 4 by omega]
        · rw [if_pos (by omega), if_neg z1, if_neg z2, if_neg z3, if_neg z4, show q + i - (q + 16) = i % 4 by omega]
theorem m_feed (hL : jLay t u l m b c h) (h1 : J 205 1 = nI q) (htp : ∀ k, k < q → J 206 k = nI (tp k)) (hr : q + 20 ≤ 600) : ∃ K, F_Mod_feed 205 x1 x2 x3 x4 x5 (jz_I h J) = some (nI (q + 20), jz_I h K) ∧ K 205 0 = nI 0 ∧ K 205 1 = nI (q + 20) ∧ (∀ k, k < q + 20 → K 206 k = nI (s_fd tp q x1 x2 x3 x4 x5 k)) ∧ (∀ f, ¬ f = 0 → ¬ f = 1 → K 205 f = J 205 f) ∧ ∀ a, ¬ a = 205 → ¬ a = 206 → K a = J a := by
  refine jE_i (fun P hP => ?_)
  unfold F_Mod_feed
  simp (disch := omega) only [h1, ↓dK_205 hL, ↓dG_205 hL, ↓dP_205 hL, ↓dZ_205 hL (x := nI 0) (Or.inl rfl), ↓dZ_205 hL (x := nI 1) (Or.inr rfl), ↓dZ_205 hL (Or.inl rfl), ↓dZ_205 hL (Or.inr rfl), ↓dZ_205 hL (nB_01 _), ↓reduceIte, ↓kq_bi, ↓kq_let, ↓kq_rz0, ↓kq_rz1, ↓kq_rzB, ↓Option.bind_some, kq_dvn, kt_lt, kf_lt, kt_eq, kf_eq, decide_true, decide_false, eq_self, Bool.false_eq_true, Bool.true_eq_false, not_true_eq_false, not_false_eq_true, jU_eq, jU_ne, jU_U, jV_eq, jV_ne, jV_V, kn_lit, kn_add, kn_mul, kn_sdm, kn_sub, kn_div, kn_nsdm, kn_lt, kn_eq, kn_pred, kn_m1, kn_m1', kn_a31, kn_shl, kn_shr, kn_bit, nB_0, nB_1, nB_t, nB_f, Nat.zero_add, Nat.add_zero, Nat.reduceAdd, Nat.reduceMul, Nat.reduceSub, Nat.reducePow]
  refine jW_for0 (A := Nat → Nat → Int32) (f := fun fuel i s => F_Mod_feed_l23 fuel 205 x1 x2 x3 x4 x5 (nI i) (jz_I h s)) 20 (fun i s => s 205 0 = nI 0 ∧ s 205 1 = nI (q + i) ∧ (∀ k, k < q + i → s 206 k = nI (s_fd tp q x1 x2 x3 x4 x5 k)) ∧ (∀ f, ¬ f = 0 → ¬ f = 1 → s 205 f = J 205 f) ∧ ∀ a, ¬ a = 205 → ¬ a = 206 → s a = J a) _ ⟨by rw [jU_eq, jV_eq], by rw [jU_eq, jV_ne (by omega)]; exact h1, fun k hk => by rw [jU_ne (by omega), htp k hk, s_fd_lo (q := q) hk], fun f a1 _ => by rw [jU_eq, jV_ne a1], fun a a1 _ => jU_ne a1⟩ (by omega) (fun F i s hi hV ih => ?_) (fun F s hV => ?_)
  · obtain ⟨v0, v1, v2, v3, v4⟩ := hV
    have key : ∀ s', s' 205 0 = nI 0 → s' 205 1 = nI (q + (i + 1)) → s' 206 = jV (s 206) (q + i) (nI (s_fd tp q x1 x2 x3 x4 x5 (q + i))) → (∀ f, ¬ f = 1 → s' 205 f = s 205 f) → (∀ a, ¬ a = 205 → ¬ a = 206 → s' a = s a) → jW (F_Mod_feed_l23 F 205 x1 x2 x3 x4 x5 (nI (i + 1)) (jz_I h s')) P := fun s' a0 a1 a2 a3 a4 => by
      refine ih s' ⟨a0, a1, fun k hk => ?_, fun f f0 hf => (a3 f hf).trans (v3 f f0 hf), fun a x1 x2 => (a4 a x1 x2).trans (v4 a x1 x2)⟩
      rw [a2]
      by_cases z : k = q + i
      · rw [z, jV_eq]
      · rw [jV_ne z]; exact v2 k (by omega)
    rw [s_fd_at hi] at key
    have fin : ∀ y : Int32, y = s_arg5 x1 x2 x3 x4 x5 i → jW (F_Mod_feed_b76 (F_Mod_feed_l23 F) 205 x1 x2 x3 x4 x5 (nI i) y (jz_I h s)) P := fun y hy => by
      rw [← hy] at key
      unfold F_Mod_feed_b76
      simp (disch := omega) only [v1, s_lb_and, Nat.add_assoc, ↓dK_205 hL, ↓dG_205 hL, ↓dP_205 hL, ↓dZ_205 hL (x := nI 0) (Or.inl rfl), ↓dZ_205 hL (x := nI 1) (Or.inr rfl), ↓dZ_205 hL (Or.inl rfl), ↓dZ_205 hL (Or.inr rfl), ↓dZ_205 hL (nB_01 _), ↓dR_205_9 hL, dI_206 hL, dS_206 hL, ↓reduceIte, ↓kq_bi, ↓kq_let, ↓kq_rz0, ↓kq_rz1, ↓kq_rzB, ↓Option.bind_some, kq_dvn, kt_lt, kf_lt, kt_eq, kf_eq, decide_true, decide_false, eq_self, Bool.false_eq_true, Bool.true_eq_false, not_true_eq_false, not_false_eq_true, jU_eq, jU_ne, jU_U, jV_eq, jV_ne, jV_V, kn_lit, kn_add, kn_mul, kn_sdm, kn_sub, kn_div, kn_nsdm, kn_lt, kn_eq, kn_pred, kn_m1, kn_m1', kn_a31, kn_shl, kn_shr, kn_bit, nB_0, nB_1, nB_t, nB_f, Nat.zero_add, Nat.add_zero, Nat.reduceAdd, Nat.reduceMul, Nat.reduceSub, Nat.reducePow]
      refine key _ ?_ ?_ ?_ (fun f hf => ?_) (fun a a1 a2 => ?_)
      · simp (disch := omega) only [jU_eq, jU_ne, jV_ne]; exact v0
      · simp (disch := omega) only [jU_eq, jV_eq]
      · simp (disch := omega) only [jU_eq, jU_ne]
      · simp (disch := omega) only [jU_eq, jU_ne, jV_ne]
      · simp (disch := omega) only [jU_ne]
    show jW (F_Mod_feed_c23 (F_Mod_feed_l23 F) 205 x1 x2 x3 x4 x5 (nI i) (jz_I h s)) P
    unfold F_Mod_feed_c23
    by_cases z1 : i < 4
    · simp (disch := omega) only [↓reduceIte, ↓kq_bi, ↓kq_let, ↓kq_rz0, ↓kq_rz1, ↓kq_rzB, ↓Option.bind_some, kq_dvn, kt_lt, kf_lt, kt_eq, kf_eq, decide_true, decide_false, eq_self, Bool.false_eq_true, Bool.true_eq_false, not_true_eq_false, not_false_eq_true, jU_eq, jU_ne, jU_U, jV_eq, jV_ne, jV_V, kn_lit, kn_add, kn_mul, kn_sdm, kn_sub, kn_div, kn_nsdm, kn_lt, kn_eq, kn_pred, kn_m1, kn_m1', kn_a31, kn_shl, kn_shr, kn_bit, nB_0, nB_1, nB_t, nB_f, Nat.zero_add, Nat.add_zero, Nat.reduceAdd, Nat.reduceMul, Nat.reduceSub, Nat.reducePow]
      exact fin x1 (by unfold s_arg5; rw [if_pos z1])
    · by_cases z2 : i < 8
      · simp (disch := omega) only [↓reduceIte, ↓kq_bi, ↓kq_let, ↓kq_rz0, ↓kq_rz1, ↓kq_rzB, ↓Option.bind_some, kq_dvn, kt_lt, kf_lt, kt_eq, kf_eq, decide_true, decide_false, eq_self, Bool.false_eq_true, Bool.true_eq_false, not_true_eq_false, not_false_eq_true, jU_eq, jU_ne, jU_U, jV_eq, jV_ne, jV_V, kn_lit, kn_add, kn_mul, kn_sdm, kn_sub, kn_div, kn_nsdm, kn_lt, kn_eq, kn_pred, kn_m1, kn_m1', kn_a31, kn_shl, kn_shr, kn_bit, nB_0, nB_1, nB_t, nB_f, Nat.zero_add, Nat.add_zero, Nat.reduceAdd, Nat.reduceMul, Nat.reduceSub, Nat.reducePow]
        exact fin x2 (by unfold s_arg5; rw [if_neg z1, if_pos z2])
      · by_cases z3 : i < 12
        · simp (disch := omega) only [↓reduceIte, ↓kq_bi, ↓kq_let, ↓kq_rz0, ↓kq_rz1, ↓kq_rzB, ↓Option.bind_some, kq_dvn, kt_lt, kf_lt, kt_eq, kf_eq, decide_true, decide_false, eq_self, Bool.false_eq_true, Bool.true_eq_false, not_true_eq_false, not_false_eq_true, jU_eq, jU_ne, jU_U, jV_eq, jV_ne, jV_V, kn_lit, kn_add, kn_mul, kn_sdm, kn_sub, kn_div, kn_nsdm, kn_lt, kn_eq, kn_pred, kn_m1, kn_m1', kn_a31, kn_shl, kn_shr, kn_bit, nB_0, nB_1, nB_t, nB_f, Nat.zero_add, Nat.add_zero, Nat.reduceAdd, Nat.reduceMul, Nat.reduceSub, Nat.reducePow]
          exact fin x3 (by unfold s_arg5; rw [if_neg z1, if_neg z2, if_pos z3])
        · by_cases z4 : i < 16
          · simp (disch := omega) only [↓reduceIte, ↓kq_bi, ↓kq_let, ↓kq_rz0, ↓kq_rz1, ↓kq_rzB, ↓Option.bind_some, kq_dvn, kt_lt, kf_lt, kt_eq, kf_eq, decide_true, decide_false, eq_self, Bool.false_eq_true, Bool.true_eq_false, not_true_eq_false, not_false_eq_true, jU_eq, jU_ne, jU_U, jV_eq, jV_ne, jV_V, kn_lit, kn_add, kn_mul, kn_sdm, kn_sub, kn_div, kn_nsdm, kn_lt, kn_eq, kn_pred, kn_m1, kn_m1', kn_a31, kn_shl, kn_shr, kn_bit, nB_0, nB_1, nB_t, nB_f, Nat.zero_add, Nat.add_zero, Nat.reduceAdd, Nat.reduceMul, Nat.reduceSub, Nat.reducePow]
            exact fin x4 (by unfold s_arg5; rw [if_neg z1, if_neg z2, if_neg z3, if_pos z4])
          · simp (disch := omega) only [↓reduceIte, ↓kq_bi, ↓kq_let, ↓kq_rz0, ↓kq_rz1, ↓kq_rzB, ↓Option.bind_some, kq_dvn, kt_lt, kf_lt, kt_eq, kf_eq, decide_true, decide_false, eq_self, Bool.false_eq_true, Bool.true_eq_false, not_true_eq_false, not_false_eq_true, jU_eq, jU_ne, jU_U, jV_eq, jV_ne, jV_V, kn_lit, kn_add, kn_mul, kn_sdm, kn_sub, kn_div, kn_nsdm, kn_lt, kn_eq, kn_pred, kn_m1, kn_m1', kn_a31, kn_shl, kn_shr, kn_bit, nB_0, nB_1, nB_t, nB_f, Nat.zero_add, Nat.add_zero, Nat.reduceAdd, Nat.reduceMul, Nat.reduceSub, Nat.reducePow]
            exact fin x5 (by unfold s_arg5; rw [if_neg z1, if_neg z2, if_neg z3, if_neg z4])
  · obtain ⟨v0, v1, v2, v3, v4⟩ := hV
    show jW (F_Mod_feed_c23 (F_Mod_feed_l23 F) 205 x1 x2 x3 x4 x5 (nI 20) (jz_I h s)) P
    unfold F_Mod_feed_c23
    simp (disch := omega) only [v1, ↓dK_205 hL, ↓dG_205 hL, ↓dP_205 hL, ↓dZ_205 hL (x := nI 0) (Or.inl rfl), ↓dZ_205 hL (x := nI 1) (Or.inr rfl), ↓dZ_205 hL (Or.inl rfl), ↓dZ_205 hL (Or.inr rfl), ↓dZ_205 hL (nB_01 _), ↓reduceIte, ↓kq_bi, ↓kq_let, ↓kq_rz0, ↓kq_rz1, ↓kq_rzB, ↓Option.bind_some, kq_dvn, kt_lt, kf_lt, kt_eq, kf_eq, decide_true, decide_false, eq_self, Bool.false_eq_true, Bool.true_eq_false, not_true_eq_false, not_false_eq_true, jU_eq, jU_ne, jU_U, jV_eq, jV_ne, jV_V, kn_lit, kn_add, kn_mul, kn_sdm, kn_sub, kn_div, kn_nsdm, kn_lt, kn_eq, kn_pred, kn_m1, kn_m1', kn_a31, kn_shl, kn_shr, kn_bit, nB_0, nB_1, nB_t, nB_f, Nat.zero_add, Nat.add_zero, Nat.reduceAdd, Nat.reduceMul, Nat.reduceSub, Nat.reducePow]
    exact jW_s (hP s ⟨v0, v1, v2, v3, v4⟩)
theorem m_feedF (hL : jLay t u l m b c h) (h1 : J 205 1 = nI q) (hq : q ≤ 600) (hr : 600 < q + 20) : F_Mod_feed 205 x1 x2 x3 x4 x5 (jz_I h J) = some (-nI 1, jz_I h (jU J 205 (jV (J 205) 0 (nI 0)))) := by
  unfold F_Mod_feed
  simp (disch := omega) only [h1, ↓dK_205 hL, ↓dG_205 hL, ↓dP_205 hL, ↓dZ_205 hL (x := nI 0) (Or.inl rfl), ↓dZ_205 hL (x := nI 1) (Or.inr rfl), ↓dZ_205 hL (Or.inl rfl), ↓dZ_205 hL (Or.inr rfl), ↓dZ_205 hL (nB_01 _), ↓reduceIte, ↓kq_bi, ↓kq_let, ↓kq_rz0, ↓kq_rz1, ↓kq_rzB, ↓Option.bind_some, kq_dvn, kt_lt, kf_lt, kt_eq, kf_eq, decide_true, decide_false, eq_self, Bool.false_eq_true, Bool.true_eq_false, not_true_eq_false, not_false_eq_true, jU_eq, jU_ne, jU_U, jV_eq, jV_ne, jV_V, kn_lit, kn_add, kn_mul, kn_sdm, kn_sub, kn_div, kn_nsdm, kn_lt, kn_eq, kn_pred, kn_m1, kn_m1', kn_a31, kn_shl, kn_shr, kn_bit, nB_0, nB_1, nB_t, nB_f, Nat.zero_add, Nat.add_zero, Nat.reduceAdd, Nat.reduceMul, Nat.reduceSub, Nat.reducePow]
end

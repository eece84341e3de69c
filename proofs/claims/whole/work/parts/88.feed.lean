/-! PLAIN LEAN, 54: the class is fed -/
def s_ap (tp : Nat → Nat) (q : Nat) (x : Int32) : Nat → Nat := fun k => if q ≤ k ∧ k < q + 4 then s_lb (x >>> nI (24 - 8 * (k - q))) else tp k
theorem nS_nar {v : Nat} (hv : v < 256) : vp_nar .byte (nS v) = nS v := nS_nar0 v hv
theorem s_ap_lt {tp : Nat → Nat} {q : Nat} {x : Int32} (h : ∀ k, tp k < 256) : ∀ k, s_ap tp q x k < 256 := fun k => by
  unfold s_ap
  split
  · exact s_lb_lt _
  · exact h k
section
variable {t u l m b c : Nat} {h : LH} {I J K : Nat → Nat → Int32} {tp : Nat → Nat} {q : Nat} {x : Int32}
theorem c_append (hL : jLay t u l m b c h) (hq : q + 4 ≤ 600) (h1 : J 65 1 = nI q) (htp : ∀ k, k < q → J 66 k = nS (tp k)) : ∃ K, F_Text_append 65 x (jz_I h J) = some (jz_I h K) ∧ K 65 1 = nI (q + 4) ∧ (∀ k, k < q + 4 → K 66 k = nS (s_ap tp q x k)) ∧ (∀ f, ¬ f = 1 → K 65 f = J 65 f) ∧ ∀ a, ¬ a = 65 → ¬ a = 66 → K a = J a := by
  refine jE_n (fun P hP => ?_)
  unfold F_Text_append
  have ap : ∀ i, i < 4 → s_ap tp q x (q + i) = s_lb (x >>> nI (24 - 8 * i)) := fun i hi => by
    unfold s_ap
    rw [if_pos (by omega), show q + i - q = i by omega]
  refine jW_for0 (A := Nat → Nat → Int32) (f := fun fuel i s => F_Text_append_l3 fuel 65 x (nI 24 - nI (8 * i)) (jz_I h s)) 4 (fun i s => s 65 1 = nI (q + i) ∧ (∀ k, k < q + i → s 66 k = nS (s_ap tp q x k)) ∧ (∀ f, ¬ f = 1 → s 65 f = J 65 f) ∧ ∀ a, ¬ a = 65 → ¬ a = 66 → s a = J a) J ⟨h1, fun k hk => by rw [htp k hk]; unfold s_ap; rw [if_neg (by omega)], fun _ _ => rfl, fun _ _ _ => rfl⟩ (by omega) (fun F i s hi hV ih => ?_) (fun F s hV => ?_)
  · obtain ⟨v1, v2, v3, v4⟩ := hV
    have key : ∀ s', s' 65 1 = nI (q + (i + 1)) → s' 66 = jV (s 66) (q + i) (nS (s_ap tp q x (q + i))) → (∀ f, ¬ f = 1 → s' 65 f = s 65 f) → (∀ a, ¬ a = 65 → ¬ a = 66 → s' a = s a) → jW (F_Text_append_l3 F 65 x (nI 24 - nI (8 * (i + 1))) (jz_I h s')) P := fun s' a1 a2 a3 a4 => by
      refine ih s' ⟨a1, fun k hk => ?_, fun f hf => (a3 f hf).trans (v3 f hf), fun a x1 x2 => (a4 a x1 x2).trans (v4 a x1 x2)⟩
      rw [a2]
      by_cases z : k = q + i
      · rw [z, jV_eq]
      · rw [jV_ne z]; exact v2 k (by omega)
    have hb := s_lb_lt (x >>> nI (24 - 8 * i))
    have hn := s_lb_n (x >>> nI (24 - 8 * i))
    have hna := nS_nar hb
    rw [ap i hi] at key
    show jW (F_Text_append_c3 (F_Text_append_l3 F) 65 x (nI 24 - nI (8 * i)) (jz_I h s)) P
    rw [kn_sub (show 8 * i ≤ 24 by omega)]
    have hsh : nI (24 - 8 * i) + -nI 8 = nI 24 - nI (8 * (i + 1)) := by
      rcases (show i = 0 ∨ i = 1 ∨ i = 2 ∨ i = 3 by omega) with rfl | rfl | rfl | rfl <;> decide
    have hsl : 24 - 8 * i < 32 := by omega
    generalize 24 - 8 * i = sh at hb hn hna key hsh hsl
    generalize nI 24 - nI (8 * (i + 1)) = sh2 at key hsh
    unfold F_Text_append_c3
    simp (disch := omega) only [v1, hn, hna, hsh, Nat.add_assoc, ↓dR_64_0 hL, ↓dK_65 hL, ↓dG_65 hL, ↓dP_65 hL, ↓dR_65_0 hL, dI_66 hL, dS_66 hL, ↓reduceIte, ↓kq_bi, ↓kq_let, ↓kq_rz0, ↓kq_rz1, ↓kq_rzB, ↓Option.bind_some, kq_dvn, kt_lt, kf_lt, kt_eq, kf_eq, decide_true, decide_false, eq_self, Bool.false_eq_true, Bool.true_eq_false, not_true_eq_false, not_false_eq_true, jU_eq, jU_ne, jU_U, jV_eq, jV_ne, jV_V, kn_lit, kn_add, kn_mul, kn_sdm, kn_sub, kn_div, kn_nsdm, kn_lt, kn_eq, kn_pred, kn_m1, kn_m1', kn_a31, kn_shl, kn_shr, kn_bit, nB_0, nB_1, nB_t, nB_f, Nat.zero_add, Nat.add_zero, Nat.reduceAdd, Nat.reduceMul, Nat.reduceSub, Nat.reducePow]
    refine key _ ?_ ?_ (fun f hf => ?_) (fun a a1 a2 => ?_)
    · simp (disch := omega) only [jU_eq, jV_eq]
    · simp (disch := omega) only [jU_eq, jU_ne]
    · simp (disch := omega) only [jU_eq, jU_ne, jV_ne]
    · simp (disch := omega) only [jU_ne]
  · show jW (F_Text_append_c3 (F_Text_append_l3 F) 65 x (nI 24 - nI (8 * 4)) (jz_I h s)) P
    have e : nI 24 - nI (8 * 4) < 0 := by decide
    unfold F_Text_append_c3 F_Text_append_b46
    rw [if_pos e]
    exact jW_s (hP s hV)
/-- what is fed -/
def s_fd (tp : Nat → Nat) (q : Nat) (a b c d e : Int32) : Nat → Nat := s_ap (s_ap (s_ap (s_ap (s_ap tp q a) (q + 4) b) (q + 8) c) (q + 12) d) (q + 16) e
theorem c_feed (hL : jLay t u l m b c h) (hq : q ≤ 600) (h1 : J 65 1 = nI q) (htp : ∀ k, k < q → J 66 k = nS (tp k)) {x1 x2 x3 x4 x5 : Int32} (hr : q + 20 ≤ 600) : ∃ K, F_SG_feed 64 x1 x2 x3 x4 x5 (jz_I h J) = some (nI (q + 20), jz_I h K) ∧ K 65 1 = nI (q + 20) ∧ (∀ k, k < q + 20 → K 66 k = nS (s_fd tp q x1 x2 x3 x4 x5 k)) ∧ (∀ f, ¬ f = 1 → K 65 f = J 65 f) ∧ ∀ a, ¬ a = 65 → ¬ a = 66 → K a = J a := by
  refine jE_i (fun P hP => ?_)
  unfold F_SG_feed
  simp (disch := omega) only [h1, ↓dK_64 hL, ↓dG_64 hL, ↓dP_64 hL, ↓dR_64_0 hL, ↓dK_65 hL, ↓dG_65 hL, ↓dP_65 hL, ↓reduceIte, ↓kq_bi, ↓kq_let, ↓kq_rz0, ↓kq_rz1, ↓kq_rzB, ↓Option.bind_some, kq_dvn, kt_lt, kf_lt, kt_eq, kf_eq, decide_true, decide_false, eq_self, Bool.false_eq_true, Bool.true_eq_false, not_true_eq_false, not_false_eq_true, jU_eq, jU_ne, jU_U, jV_eq, jV_ne, jV_V, kn_lit, kn_add, kn_mul, kn_sdm, kn_sub, kn_div, kn_nsdm, kn_lt, kn_eq, kn_pred, kn_m1, kn_m1', kn_a31, kn_shl, kn_shr, kn_bit, nB_0, nB_1, nB_t, nB_f, Nat.zero_add, Nat.add_zero, Nat.reduceAdd, Nat.reduceMul, Nat.reduceSub, Nat.reducePow]
  refine jW_bn (c_append hL (by omega) h1 htp) (fun A hA => ?_)
  obtain ⟨a1, a2, a3, a4⟩ := hA
  simp (disch := omega) only [↓dK_64 hL, ↓dG_64 hL, ↓dP_64 hL, ↓dR_64_0 hL, ↓dK_65 hL, ↓dG_65 hL, ↓dP_65 hL, ↓reduceIte, ↓kq_bi, ↓kq_let, ↓kq_rz0, ↓kq_rz1, ↓kq_rzB, ↓Option.bind_some, kq_dvn, kt_lt, kf_lt, kt_eq, kf_eq, decide_true, decide_false, eq_self, Bool.false_eq_true, Bool.true_eq_false, not_true_eq_false, not_false_eq_true, jU_eq, jU_ne, jU_U, jV_eq, jV_ne, jV_V, kn_lit, kn_add, kn_mul, kn_sdm, kn_sub, kn_div, kn_nsdm, kn_lt, kn_eq, kn_pred, kn_m1, kn_m1', kn_a31, kn_shl, kn_shr, kn_bit, nB_0, nB_1, nB_t, nB_f, Nat.zero_add, Nat.add_zero, Nat.reduceAdd, Nat.reduceMul, Nat.reduceSub, Nat.reducePow]
  refine jW_bn (c_append hL (by omega) a1 a2) (fun B hB => ?_)
  obtain ⟨b1, b2, b3, b4⟩ := hB
  simp (disch := omega) only [↓dK_64 hL, ↓dG_64 hL, ↓dP_64 hL, ↓dR_64_0 hL, ↓dK_65 hL, ↓dG_65 hL, ↓dP_65 hL, ↓reduceIte, ↓kq_bi, ↓kq_let, ↓kq_rz0, ↓kq_rz1, ↓kq_rzB, ↓Option.bind_some, kq_dvn, kt_lt, kf_lt, kt_eq, kf_eq, decide_true, decide_false, eq_self, Bool.false_eq_true, Bool.true_eq_false, not_true_eq_false, not_false_eq_true, jU_eq, jU_ne, jU_U, jV_eq, jV_ne, jV_V, kn_lit, kn_add, kn_mul, kn_sdm, kn_sub, kn_div, kn_nsdm, kn_lt, kn_eq, kn_pred, kn_m1, kn_m1', kn_a31, kn_shl, kn_shr, kn_bit, nB_0, nB_1, nB_t, nB_f, Nat.zero_add, Nat.add_zero, Nat.reduceAdd, Nat.reduceMul, Nat.reduceSub, Nat.reducePow]
  refine jW_bn (c_append hL (by omega) b1 b2) (fun C hC => ?_)
  obtain ⟨c1, c2, c3, c4⟩ := hC
  simp (disch := omega) only [↓dK_64 hL, ↓dG_64 hL, ↓dP_64 hL, ↓dR_64_0 hL, ↓dK_65 hL, ↓dG_65 hL, ↓dP_65 hL, ↓reduceIte, ↓kq_bi, ↓kq_let, ↓kq_rz0, ↓kq_rz1, ↓kq_rzB, ↓Option.bind_some, kq_dvn, kt_lt, kf_lt, kt_eq, kf_eq, decide_true, decide_false, eq_self, Bool.false_eq_true, Bool.true_eq_false, not_true_eq_false, not_false_eq_true, jU_eq, jU_ne, jU_U, jV_eq, jV_ne, jV_V, kn_lit, kn_add, kn_mul, kn_sdm, kn_sub, kn_div, kn_nsdm, kn_lt, kn_eq, kn_pred, kn_m1, kn_m1', kn_a31, kn_shl, kn_shr, kn_bit, nB_0, nB_1, nB_t, nB_f, Nat.zero_add, Nat.add_zero, Nat.reduceAdd, Nat.reduceMul, Nat.reduceSub, Nat.reducePow]
  refine jW_bn (c_append hL (by omega) c1 c2) (fun D hD => ?_)
  obtain ⟨d1, d2, d3, d4⟩ := hD
  simp (disch := omega) only [↓dK_64 hL, ↓dG_64 hL, ↓dP_64 hL, ↓dR_64_0 hL, ↓dK_65 hL, ↓dG_65 hL, ↓dP_65 hL, ↓reduceIte, ↓kq_bi, ↓kq_let, ↓kq_rz0, ↓kq_rz1, ↓kq_rzB, ↓Option.bind_some, kq_dvn, kt_lt, kf_lt, kt_eq, kf_eq, decide_true, decide_false, eq_self, Bool.false_eq_true, Bool.true_eq_false, not_true_eq_false, not_false_eq_true, jU_eq, jU_ne, jU_U, jV_eq, jV_ne, jV_V, kn_lit, kn_add, kn_mul, kn_sdm, kn_sub, kn_div, kn_nsdm, kn_lt, kn_eq, kn_pred, kn_m1, kn_m1', kn_a31, kn_shl, kn_shr, kn_bit, nB_0, nB_1, nB_t, nB_f, Nat.zero_add, Nat.add_zero, Nat.reduceAdd, Nat.reduceMul, Nat.reduceSub, Nat.reducePow]
  refine jW_bn (c_append hL (by omega) d1 d2) (fun E hE => ?_)
  obtain ⟨e1, e2, e3, e4⟩ := hE
  have e1 : E 65 1 = nI (q + 20) := e1
  simp (disch := omega) only [e1, ↓dK_64 hL, ↓dG_64 hL, ↓dP_64 hL, ↓dR_64_0 hL, ↓dK_65 hL, ↓dG_65 hL, ↓dP_65 hL, ↓reduceIte, ↓kq_bi, ↓kq_let, ↓kq_rz0, ↓kq_rz1, ↓kq_rzB, ↓Option.bind_some, kq_dvn, kt_lt, kf_lt, kt_eq, kf_eq, decide_true, decide_false, eq_self, Bool.false_eq_true, Bool.true_eq_false, not_true_eq_false, not_false_eq_true, jU_eq, jU_ne, jU_U, jV_eq, jV_ne, jV_V, kn_lit, kn_add, kn_mul, kn_sdm, kn_sub, kn_div, kn_nsdm, kn_lt, kn_eq, kn_pred, kn_m1, kn_m1', kn_a31, kn_shl, kn_shr, kn_bit, nB_0, nB_1, nB_t, nB_f, Nat.zero_add, Nat.add_zero, Nat.reduceAdd, Nat.reduceMul, Nat.reduceSub, Nat.reducePow]
  exact jW_s (hP E ⟨e1, e2, fun f hf => ((((e3 f hf).trans (d3 f hf)).trans (c3 f hf)).trans (b3 f hf)).trans (a3 f hf), fun a x y => ((((e4 a x y).trans (d4 a x y)).trans (c4 a x y)).trans (b4 a x y)).trans (a4 a x y)⟩)
theorem c_feedF (hL : jLay t u l m b c h) (hq : q ≤ 600) (h1 : J 65 1 = nI q) {x1 x2 x3 x4 x5 : Int32} (hr : 600 < q + 20) : F_SG_feed 64 x1 x2 x3 x4 x5 (jz_I h J) = some (-nI 1, jz_I h J) := by
  unfold F_SG_feed
  simp (disch := omega) only [h1, ↓dK_64 hL, ↓dG_64 hL, ↓dP_64 hL, ↓dR_64_0 hL, ↓dK_65 hL, ↓dG_65 hL, ↓dP_65 hL, ↓reduceIte, ↓kq_bi, ↓kq_let, ↓kq_rz0, ↓kq_rz1, ↓kq_rzB, ↓Option.bind_some, kq_dvn, kt_lt, kf_lt, kt_eq, kf_eq, decide_true, decide_false, eq_self, Bool.false_eq_true, Bool.true_eq_false, not_true_eq_false, not_false_eq_true, jU_eq, jU_ne, jU_U, jV_eq, jV_ne, jV_V, kn_lit, kn_add, kn_mul, kn_sdm, kn_sub, kn_div, kn_nsdm, kn_lt, kn_eq, kn_pred, kn_m1, kn_m1', kn_a31, kn_shl, kn_shr, kn_bit, nB_0, nB_1, nB_t, nB_f, Nat.zero_add, Nat.add_zero, Nat.reduceAdd, Nat.reduceMul, Nat.reduceSub, Nat.reducePow]
end

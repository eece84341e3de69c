/-! PLAIN LEAN, 51: the class begins: law, book, scene -/
/-- steps of a law, as the class lays them -/
def jCP (J : Nat → Nat → Int32) (l k : Nat) (C : Nat → Int32) : Prop := J l 2 = nI k ∧ ∀ i, i < k → J (l + 1) i = C i
/-- a law at l has changed alone -/
def jLw (l : Nat) (J K : Nat → Nat → Int32) : Prop := ∀ a, ¬ a = l → ¬ a = l + 1 → K a = J a
section
variable {t u l m b c a : Nat} {h : LH} {I J K : Nat → Nat → Int32} {τ : JTn} {n k : Nat} {x : Int32} {C : Nat → Int32}
theorem jLw_trans {L : Nat → Nat → Int32} (h1 : jLw a J K) (h2 : jLw a K L) : jLw a J L := fun d a1 a2 => (h2 d a1 a2).trans (h1 d a1 a2)
theorem c_put (hL : jLay t u l m b c h) (hl : a = 82 ∨ a = 196) (hC : jCP J a k C) (hk : k < 150) : ∃ K, F_Law_put a x (jz_I h J) = some (jz_I h K) ∧ jCP K a (k + 1) (jV C k x) ∧ jLw a J K := by
  obtain ⟨c1, c2⟩ := hC
  refine jE_n (fun P hP => ?_)
  unfold F_Law_put F_Law_put_b32
  simp (disch := omega) only [c1, dL_L1 hL hl, ↓dK_L hL hl, ↓dG_L hL hl, ↓dP_L hL hl, ↓dR_L_0 hL hl, dI_L1 hL hl, dS_L1 hL hl, ↓reduceIte, ↓kq_bi, ↓kq_let, ↓kq_rz0, ↓kq_rz1, ↓kq_rzB, ↓Option.bind_some, kq_dvn, kt_lt, kf_lt, kt_eq, kf_eq, decide_true, decide_false, eq_self, Bool.false_eq_true, Bool.true_eq_false, not_true_eq_false, not_false_eq_true, jU_eq, jU_ne, jU_U, jV_eq, jV_ne, jV_V, kn_lit, kn_add, kn_mul, kn_sdm, kn_sub, kn_div, kn_nsdm, kn_lt, kn_eq, kn_pred, kn_m1, kn_m1', kn_a31, kn_shl, kn_shr, kn_bit, nB_0, nB_1, nB_t, nB_f, Nat.zero_add, Nat.add_zero, Nat.reduceAdd, Nat.reduceMul, Nat.reduceSub, Nat.reducePow]
  refine jW_s (hP _ ⟨⟨by rw [jU_eq, jV_eq], fun i hi => ?_⟩, fun d a1 a2 => by rw [jU_ne a1, jU_ne a2]⟩)
  rw [jU_ne (by omega), jU_eq]
  by_cases z : i = k
  · rw [z, jV_eq, jV_eq]
  · rw [jV_ne z, jV_ne z]; exact c2 i (by omega)
/-- no more room: nothing happens -/
theorem c_putF (hL : jLay t u l m b c h) (hl : a = 82 ∨ a = 196) (hC : jCP J a 150 C) : F_Law_put a x (jz_I h J) = some (jz_I h J) := by
  have c1 := hC.1
  unfold F_Law_put F_Law_put_b32
  simp (disch := omega) only [c1, dL_L1 hL hl, ↓dK_L hL hl, ↓dG_L hL hl, ↓dP_L hL hl, ↓dR_L_0 hL hl, dI_L1 hL hl, dS_L1 hL hl, ↓reduceIte, ↓kq_bi, ↓kq_let, ↓kq_rz0, ↓kq_rz1, ↓kq_rzB, ↓Option.bind_some, kq_dvn, kt_lt, kf_lt, kt_eq, kf_eq, decide_true, decide_false, eq_self, Bool.false_eq_true, Bool.true_eq_false, not_true_eq_false, not_false_eq_true, jU_eq, jU_ne, jU_U, jV_eq, jV_ne, jV_V, kn_lit, kn_add, kn_mul, kn_sdm, kn_sub, kn_div, kn_nsdm, kn_lt, kn_eq, kn_pred, kn_m1, kn_m1', kn_a31, kn_shl, kn_shr, kn_bit, nB_0, nB_1, nB_t, nB_f, Nat.zero_add, Nat.add_zero, Nat.reduceAdd, Nat.reduceMul, Nat.reduceSub, Nat.reducePow]
theorem c_setPlain (hL : jLay t u l m b c h) (hl : a = 82 ∨ a = 196) : ∃ K, F_Law_setPlain a (jz_I h J) = some (jz_I h K) ∧ jCL K a s_plain ∧ jLw a J K := by
  refine jE_n (fun P hP => ?_)
  unfold F_Law_setPlain F_Law_senseCode
  simp (disch := omega) only [↓dK_L hL hl, ↓dG_L hL hl, ↓dP_L hL hl, ↓reduceIte, ↓kq_bi, ↓kq_let, ↓kq_rz0, ↓kq_rz1, ↓kq_rzB, ↓Option.bind_some, kq_dvn, kt_lt, kf_lt, kt_eq, kf_eq, decide_true, decide_false, eq_self, Bool.false_eq_true, Bool.true_eq_false, not_true_eq_false, not_false_eq_true, jU_eq, jU_ne, jU_U, jV_eq, jV_ne, jV_V, kn_lit, kn_add, kn_mul, kn_sdm, kn_sub, kn_div, kn_nsdm, kn_lt, kn_eq, kn_pred, kn_m1, kn_m1', kn_a31, kn_shl, kn_shr, kn_bit, nB_0, nB_1, nB_t, nB_f, Nat.zero_add, Nat.add_zero, Nat.reduceAdd, Nat.reduceMul, Nat.reduceSub, Nat.reducePow]
  have h0 : jCP (jU J a (jV (J a) 2 (nI 0))) a 0 (fun _ => 0) := ⟨by rw [jU_eq, jV_eq], fun i hi => absurd hi (Nat.not_lt_zero i)⟩
  have f0 : jLw a J (jU J a (jV (J a) 2 (nI 0))) := fun d a1 a2 => jU_ne a1
  generalize jU J a (jV (J a) 2 (nI 0)) = J1 at h0 f0
  refine jW_bn (c_put hL hl h0 (by omega)) (fun A hA => ?_)
  simp (disch := omega) only [↓dK_L hL hl, ↓dG_L hL hl, ↓dP_L hL hl, ↓reduceIte, ↓kq_bi, ↓kq_let, ↓kq_rz0, ↓kq_rz1, ↓kq_rzB, ↓Option.bind_some, kq_dvn, kt_lt, kf_lt, kt_eq, kf_eq, decide_true, decide_false, eq_self, Bool.false_eq_true, Bool.true_eq_false, not_true_eq_false, not_false_eq_true, jU_eq, jU_ne, jU_U, jV_eq, jV_ne, jV_V, kn_lit, kn_add, kn_mul, kn_sdm, kn_sub, kn_div, kn_nsdm, kn_lt, kn_eq, kn_pred, kn_m1, kn_m1', kn_a31, kn_shl, kn_shr, kn_bit, nB_0, nB_1, nB_t, nB_f, Nat.zero_add, Nat.add_zero, Nat.reduceAdd, Nat.reduceMul, Nat.reduceSub, Nat.reducePow]
  refine jW_bn (c_put hL hl hA.1 (by omega)) (fun B hB => ?_)
  simp (disch := omega) only [↓dK_L hL hl, ↓dG_L hL hl, ↓dP_L hL hl, ↓reduceIte, ↓kq_bi, ↓kq_let, ↓kq_rz0, ↓kq_rz1, ↓kq_rzB, ↓Option.bind_some, kq_dvn, kt_lt, kf_lt, kt_eq, kf_eq, decide_true, decide_false, eq_self, Bool.false_eq_true, Bool.true_eq_false, not_true_eq_false, not_false_eq_true, jU_eq, jU_ne, jU_U, jV_eq, jV_ne, jV_V, kn_lit, kn_add, kn_mul, kn_sdm, kn_sub, kn_div, kn_nsdm, kn_lt, kn_eq, kn_pred, kn_m1, kn_m1', kn_a31, kn_shl, kn_shr, kn_bit, nB_0, nB_1, nB_t, nB_f, Nat.zero_add, Nat.add_zero, Nat.reduceAdd, Nat.reduceMul, Nat.reduceSub, Nat.reducePow]
  refine jW_bn (c_put hL hl hB.1 (by omega)) (fun D hD => ?_)
  refine jW_s (hP D ⟨⟨hD.1.1, fun i hi => ?_⟩, jLw_trans f0 (jLw_trans hA.2 (jLw_trans hB.2 hD.2))⟩)
  have hi : i < 3 := hi
  rw [hD.1.2 i (by omega)]
  rcases (show i = 0 ∨ i = 1 ∨ i = 2 by omega) with rfl | rfl | rfl <;> decide
theorem c_clear (hL : jLay t u l m b c h) (hb : a = 199 ∨ a = 202) {f : Nat → Nat → Nat} : ∃ K, F_Book_clear a (jz_I h J) = some (jz_I h K) ∧ jCB K a (0, f) ∧ ∀ d, ¬ d = a → ¬ d = a + 1 → K d = J d := by
  refine jE_n (fun P hP => ?_)
  unfold F_Book_clear
  simp (disch := omega) only [↓dK_B hL hb, ↓dG_B hL hb, ↓dP_B hL hb, ↓reduceIte, ↓kq_bi, ↓kq_let, ↓kq_rz0, ↓kq_rz1, ↓kq_rzB, ↓Option.bind_some, kq_dvn, kt_lt, kf_lt, kt_eq, kf_eq, decide_true, decide_false, eq_self, Bool.false_eq_true, Bool.true_eq_false, not_true_eq_false, not_false_eq_true, jU_eq, jU_ne, jU_U, jV_eq, jV_ne, jV_V, kn_lit, kn_add, kn_mul, kn_sdm, kn_sub, kn_div, kn_nsdm, kn_lt, kn_eq, kn_pred, kn_m1, kn_m1', kn_a31, kn_shl, kn_shr, kn_bit, nB_0, nB_1, nB_t, nB_f, Nat.zero_add, Nat.add_zero, Nat.reduceAdd, Nat.reduceMul, Nat.reduceSub, Nat.reducePow]
  refine jW_for0 (A := Nat → Nat → Int32) (f := fun fuel w s => F_Book_clear_l7 fuel a (nI w) (jz_I h s)) 9 (fun w s => s a 2 = nI 0 ∧ (∀ g, g < w → s (a + 1) g = -nI 1) ∧ ∀ d, ¬ d = a → ¬ d = a + 1 → s d = J d) _ ⟨by rw [jU_eq, jV_eq], fun i hi => absurd hi (Nat.not_lt_zero i), fun d a1 _ => jU_ne a1⟩ (by omega) (fun F w s hw hV ih => ?_) (fun F s hV => ?_)
  · show jW (F_Book_clear_c7 (F_Book_clear_l7 F) a (nI w) (jz_I h s)) P
    unfold F_Book_clear_c7
    simp (disch := omega) only [↓dK_B hL hb, ↓dG_B hL hb, ↓dP_B hL hb, ↓dR_B_0 hL hb, dI_B1 hL hb, dS_B1 hL hb, ↓reduceIte, ↓kq_bi, ↓kq_let, ↓kq_rz0, ↓kq_rz1, ↓kq_rzB, ↓Option.bind_some, kq_dvn, kt_lt, kf_lt, kt_eq, kf_eq, decide_true, decide_false, eq_self, Bool.false_eq_true, Bool.true_eq_false, not_true_eq_false, not_false_eq_true, jU_eq, jU_ne, jU_U, jV_eq, jV_ne, jV_V, kn_lit, kn_add, kn_mul, kn_sdm, kn_sub, kn_div, kn_nsdm, kn_lt, kn_eq, kn_pred, kn_m1, kn_m1', kn_a31, kn_shl, kn_shr, kn_bit, nB_0, nB_1, nB_t, nB_f, Nat.zero_add, Nat.add_zero, Nat.reduceAdd, Nat.reduceMul, Nat.reduceSub, Nat.reducePow]
    refine ih _ ⟨by rw [jU_ne (by omega)]; exact hV.1, fun i hi => ?_, fun d a1 a2 => by rw [jU_ne a2]; exact hV.2.2 d a1 a2⟩
    rw [jU_eq]
    by_cases z : i = w
    · rw [z, jV_eq]
    · rw [jV_ne z]; exact hV.2.1 i (by omega)
  · show jW (F_Book_clear_c7 (F_Book_clear_l7 F) a (nI 9) (jz_I h s)) P
    unfold F_Book_clear_c7
    simp (disch := omega) only [↓dK_B hL hb, ↓dG_B hL hb, ↓dP_B hL hb, ↓reduceIte, ↓kq_bi, ↓kq_let, ↓kq_rz0, ↓kq_rz1, ↓kq_rzB, ↓Option.bind_some, kq_dvn, kt_lt, kf_lt, kt_eq, kf_eq, decide_true, decide_false, eq_self, Bool.false_eq_true, Bool.true_eq_false, not_true_eq_false, not_false_eq_true, jU_eq, jU_ne, jU_U, jV_eq, jV_ne, jV_V, kn_lit, kn_add, kn_mul, kn_sdm, kn_sub, kn_div, kn_nsdm, kn_lt, kn_eq, kn_pred, kn_m1, kn_m1', kn_a31, kn_shl, kn_shr, kn_bit, nB_0, nB_1, nB_t, nB_f, Nat.zero_add, Nat.add_zero, Nat.reduceAdd, Nat.reduceMul, Nat.reduceSub, Nat.reducePow]
    exact jW_s (hP s ⟨⟨hV.1, fun g hg => by rw [hV.2.1 g hg]; rfl⟩, hV.2.2⟩)
end

/-! PLAIN LEAN, 50: towns; the reference begins anew -/
def jBA (a : Nat) : Prop := a = 205 ∨ a = 209 ∨ a = 211 ∨ a = 213 ∨ a = 215 ∨ a = 691 ∨ (224 ≤ a ∧ a < 230) ∨ (242 ≤ a ∧ a < 252) ∨ (260 ≤ a ∧ a < 266)
section
variable {t u l m b c : Nat} {h : LH} {I J K : Nat → Nat → Int32} {δ : JTn} {n j k : Nat} {x : Int32} {q : Nat}
theorem m_beginsAnew (hL : jLay t u l m b c h) (hC : jMD J δ) (hD : jTD δ) : ∃ K, F_Mod_beginsAnew 205 (jz_I h J) = some (jz_I h K) ∧ jMT K δ ∧ jMR K 691 (s_r0 δ) ∧ (K 205 25 = nI 0 ∧ K 205 39 = nI 0 ∧ K 205 40 = nI 0 ∧ K 205 41 = nI 0 ∧ K 205 42 = nI 0) ∧ (∀ f, ¬ f = 25 → ¬ f = 39 → ¬ f = 40 → ¬ f = 41 → ¬ f = 42 → K 205 f = J 205 f) ∧ ∀ a, ¬ jBA a → K a = J a := by
  have d0 : δ 0 0 ≤ 9 := hD 0 (by omega)
  have d1 : δ 0 1 ≤ 6 := hD 1 (by omega)
  have d2 : δ 0 2 ≤ 10 := hD 2 (by omega)
  have d3 : δ 0 3 ≤ 8 := hD 3 (by omega)
  have d4 : δ 0 4 ≤ 24 := hD 4 (by omega)
  have d5 : δ 0 5 ≤ 6 := hD 5 (by omega)
  refine jE_n (fun P hP => ?_)
  unfold F_Mod_beginsAnew
  refine jW_for0 (A := Nat → Nat → Int32) (f := fun fuel w s => F_Mod_beginsAnew_l2 fuel 205 (nI w) (jz_I h s)) 6 (fun w s => (∀ i, i < w → s 209 i = nI (δ 0 i)) ∧ ∀ a, ¬ a = 209 → s a = J a) J ⟨fun i hi => absurd hi (Nat.not_lt_zero i), fun _ _ => rfl⟩ (by omega) (fun F w s hw hV ih => ?_) (fun F s hV => ?_)
  · have e : s 208 w = nI (δ 0 w) := by rw [hV.2 208 (by omega)]; exact hC.1 w hw
    show jW (F_Mod_beginsAnew_c2 (F_Mod_beginsAnew_l2 F) 205 (nI w) (jz_I h s)) P
    unfold F_Mod_beginsAnew_c2
    simp (disch := omega) only [e, ↓dK_205 hL, ↓dG_205 hL, ↓dP_205 hL, ↓dZ_205 hL (x := nI 0) (Or.inl rfl), ↓dZ_205 hL (x := nI 1) (Or.inr rfl), ↓dZ_205 hL (Or.inl rfl), ↓dZ_205 hL (Or.inr rfl), ↓dZ_205 hL (nB_01 _), ↓dR_205_11 hL, dI_208 hL, dS_208 hL, ↓dR_205_12 hL, dI_209 hL, dS_209 hL, ↓reduceIte, ↓kq_bi, ↓kq_let, ↓kq_rz0, ↓kq_rz1, ↓kq_rzB, ↓Option.bind_some, kq_dvn, kt_lt, kf_lt, kt_eq, kf_eq, decide_true, decide_false, eq_self, Bool.false_eq_true, Bool.true_eq_false, not_true_eq_false, not_false_eq_true, jU_eq, jU_ne, jU_U, jV_eq, jV_ne, jV_V, kn_lit, kn_add, kn_mul, kn_sdm, kn_sub, kn_div, kn_nsdm, kn_lt, kn_eq, kn_pred, kn_m1, kn_m1', kn_a31, kn_shl, kn_shr, kn_bit, nB_0, nB_1, nB_t, nB_f, Nat.zero_add, Nat.add_zero, Nat.reduceAdd, Nat.reduceMul, Nat.reduceSub, Nat.reducePow]
    refine ih _ ⟨fun i hi => ?_, fun a ha => by rw [jU_ne ha]; exact hV.2 a ha⟩
    rw [jU_eq]
    by_cases z : i = w
    · rw [z, jV_eq]
    · rw [jV_ne z]; exact hV.1 i (by omega)
  · show jW (F_Mod_beginsAnew_c2 (F_Mod_beginsAnew_l2 F) 205 (nI 6) (jz_I h s)) P
    unfold F_Mod_beginsAnew_c2
    simp (disch := omega) only [↓dK_205 hL, ↓dG_205 hL, ↓dP_205 hL, ↓dZ_205 hL (x := nI 0) (Or.inl rfl), ↓dZ_205 hL (x := nI 1) (Or.inr rfl), ↓dZ_205 hL (Or.inl rfl), ↓dZ_205 hL (Or.inr rfl), ↓dZ_205 hL (nB_01 _), ↓reduceIte, ↓kq_bi, ↓kq_let, ↓kq_rz0, ↓kq_rz1, ↓kq_rzB, ↓Option.bind_some, kq_dvn, kt_lt, kf_lt, kt_eq, kf_eq, decide_true, decide_false, eq_self, Bool.false_eq_true, Bool.true_eq_false, not_true_eq_false, not_false_eq_true, jU_eq, jU_ne, jU_U, jV_eq, jV_ne, jV_V, kn_lit, kn_add, kn_mul, kn_sdm, kn_sub, kn_div, kn_nsdm, kn_lt, kn_eq, kn_pred, kn_m1, kn_m1', kn_a31, kn_shl, kn_shr, kn_bit, nB_0, nB_1, nB_t, nB_f, Nat.zero_add, Nat.add_zero, Nat.reduceAdd, Nat.reduceMul, Nat.reduceSub, Nat.reducePow]
    refine m_ba28 hL d0 (hV.1 0 (by omega)) (fun A hA => ?_)
    have a9 : A 209 = s 209 := hA.2 209 (by omega)
    refine m_ba58 hL d3 (by rw [a9]; exact hV.1 3 (by omega)) (fun B hB => ?_)
    have b9 : B 209 = s 209 := (hB.2 209 (by omega)).trans a9
    refine m_ba88 hL d4 (by rw [b9]; exact hV.1 4 (by omega)) d1 (by rw [b9]; exact hV.1 1 (by omega)) d2 (by rw [b9]; exact hV.1 2 (by omega)) d5 (by rw [b9]; exact hV.1 5 (by omega)) (fun C hC' => ?_)
    obtain ⟨c1, c2, c3, c4, c5⟩ := hC'
    have c9 : C 209 = s 209 := (c5 209 (by omega) (by omega) (by omega) (by omega)).trans b9
    refine m_ba169 hL d1 (by rw [c9]; exact hV.1 1 (by omega)) (fun D hD' => ?_)
    obtain ⟨e1, e2, e3, e4⟩ := hD'
    have bJ : ∀ a, ¬ a = 209 → ¬ a = 211 → ¬ a = 215 → B a = J a := fun a x1 x2 x3 => ((hB.2 a x3).trans (hA.2 a x2)).trans (hV.2 a x1)
    have wood : ∀ w i, w < δ 0 1 → i < 4 → D (224 + w) i = nI (δ (2 + i) w) := fun w i hw hi => by
      rw [e4 (224 + w) (by omega) (by omega), c2 w i hw hi, bJ (217 + w) (by omega) (by omega) (by omega)]
      rcases (show i = 0 ∨ i = 1 ∨ i = 2 ∨ i = 3 by omega) with rfl | rfl | rfl | rfl
      · exact hC.2 2 w (by omega) (by omega) hw
      · exact hC.2 3 w (by omega) (by omega) hw
      · exact hC.2 4 w (by omega) (by omega) hw
      · exact hC.2 5 w (by omega) (by omega) hw
    refine hP D ⟨⟨fun k hk => ?_, fun g hg => ?_, fun k hk => ?_, fun k hk => ?_, wood, fun c j hc hj => ?_, fun k j hk hj => ?_⟩, fun k hk => ?_, e2, fun f x1 x2 x3 x4 x5 => ?_, fun a ha => ?_⟩
    · rw [e4 209 (by omega) (by omega), c9]; exact hV.1 k hk
    · rw [e4 211 (by omega) (by omega), c5 211 (by omega) (by omega) (by omega) (by omega), hB.2 211 (by omega), hA.1 g hg, hV.2 210 (by omega)]
      exact hC.2 1 g (by omega) (by omega) hg
    · rw [e4 213 (by omega) (by omega), c1 k hk, bJ 212 (by omega) (by omega) (by omega)]
      exact hC.2 6 k (by omega) (by omega) hk
    · rw [e4 215 (by omega) (by omega), c5 215 (by omega) (by omega) (by omega) (by omega), hB.1 k hk, hA.2 214 (by omega), hV.2 214 (by omega)]
      exact hC.2 12 k (by omega) (by omega) hk
    · rw [e4 (242 + c) (by omega) (by omega), c3 c j hc hj, bJ (231 + c) (by omega) (by omega) (by omega)]
      rcases (show j = 0 ∨ j = 1 ∨ j = 2 by omega) with rfl | rfl | rfl
      · exact hC.2 9 c (by omega) (by omega) hc
      · exact hC.2 10 c (by omega) (by omega) hc
      · exact hC.2 11 c (by omega) (by omega) hc
    · rw [e4 (260 + k) (by omega) (by omega), c4 k j hk hj, bJ (253 + k) (by omega) (by omega) (by omega)]
      rcases (show j = 0 ∨ j = 1 by omega) with rfl | rfl
      · exact hC.2 7 k (by omega) (by omega) hk
      · exact hC.2 8 k (by omega) (by omega) hk
    · rw [e1 k hk]
      unfold s_r0
      by_cases z : 117 ≤ k ∧ k < 117 + δ 0 1
      · rw [if_pos z, if_pos z]
        have := wood (k - 117) 3 (by omega) (by omega)
        rw [e4 (224 + (k - 117)) (by omega) (by omega)] at this
        exact this
      · rw [if_neg z, if_neg z]
    · rw [e3 f x1 x2 x3 x4 x5, c5 205 (by omega) (by omega) (by omega) (by omega), bJ 205 (by omega) (by omega) (by omega)]
    · have ha : ¬ (a = 205 ∨ a = 209 ∨ a = 211 ∨ a = 213 ∨ a = 215 ∨ a = 691 ∨ (224 ≤ a ∧ a < 230) ∨ (242 ≤ a ∧ a < 252) ∨ (260 ≤ a ∧ a < 266)) := ha
      rw [e4 a (by omega) (by omega), c5 a (by omega) (by omega) (by omega) (by omega)]
      exact bJ a (by omega) (by omega) (by omega)
end

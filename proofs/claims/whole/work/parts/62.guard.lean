/-! PLAIN LEAN, 28: guard -/
section
variable {t u l m b c : Nat} {h : LH} {I J K : Nat → Nat → Int32} {τ : JTn} {r q : JRw} {σ ρ i : Nat} {Q : Type} {x : Int32} {d : Bool} {ω : JLw} {f : Nat → Int32} {G C : Nat} {op : Nat → Bool}
theorem c_play (hL : jLay t u l m b c h) (hQ : jQC I t l τ ω r) (hS : jSg l I J) (hJ : jCS J 90 τ false r) {n : Nat} (h1 : 1 ≤ n) (hn : n ≤ 24) : ∃ K, F_Watch_play 102 (nI n) (jz_I h J) = some (jz_I h K) ∧ jSg l I K ∧ jWt K (s_grd τ ω r n) := by
  have ht := jLay_t hL
  have ho := hQ.1.2.1
  have o0 : τ 0 0 ≤ 9 := ho.1
  have hl := jLay_l hL
  have h216 : τ 0 0 * n ≤ 216 := Nat.le_trans (Nat.mul_le_mul o0 hn) (by decide)
  have hQ' := jQC_Sg hL hS hQ
  refine jE_n (fun P hP => ?_)
  unfold F_Watch_play
  have em : (if 24 < n then nI 24 else nI n) = nI n := if_neg (by omega)
  simp (disch := omega) only [↓dR_102_0 hL, ↓dR_90_1 hL, cT_f0 hQ'.1.1, em, ↓dR_64_5 hL, ↓dK_102 hL, ↓dG_102 hL, ↓dP_102 hL, ↓dR_64_3 hL, ↓dR_95_0 hL, ↓dR_102_0 hL, ↓dR_105_0 hL, ↓dK_90 hL, ↓dG_90 hL, ↓dP_90 hL, ↓dZ_90 hL (x := nI 0) (Or.inl rfl), ↓dZ_90 hL (x := nI 1) (Or.inr rfl), ↓dZ_90 hL (Or.inl rfl), ↓dZ_90 hL (Or.inr rfl), ↓dZ_90 hL (nB_01 _), ↓dK_T hL ht, ↓dG_T hL ht, ↓dP_T hL ht, ↓reduceIte, ↓kq_bi, ↓kq_let, ↓kq_rz0, ↓kq_rz1, ↓kq_rzB, ↓Option.bind_some, kq_dvn, kt_lt, kf_lt, kt_eq, kf_eq, decide_true, decide_false, eq_self, Bool.false_eq_true, Bool.true_eq_false, not_true_eq_false, not_false_eq_true, jU_eq, jU_ne, jU_U, jV_eq, jV_ne, jV_V, kn_lit, kn_add, kn_mul, kn_sdm, kn_sub, kn_div, kn_nsdm, kn_lt, kn_eq, kn_pred, kn_m1, kn_m1', kn_a31, kn_shl, kn_shr, kn_bit, nB_0, nB_1, nB_t, nB_f, Nat.zero_add, Nat.add_zero, Nat.reduceAdd, Nat.reduceMul, Nat.reduceSub, Nat.reducePow]
  refine jW_bn (c_seeOpen hL hQ (J := jU J 102 (jV (jV (J 102) 3 (nI (τ 0 0))) 4 (nI (τ 0 0 * n)))) (jSg_trans hS (fun a _ _ z => jU_ne (by omega))) (jCS_congr (fun a _ _ => jU_ne (by omega)) hJ) hn (by rw [jU_eq]; rfl) (by rw [jU_eq]; rfl)) (fun K hK => ?_)
  obtain ⟨k1, k2, k3⟩ := hK
  have e3 : K 102 3 = nI (τ 0 0) := by rw [k2, jU_eq]; rfl
  have e4 : K 102 4 = nI (τ 0 0 * n) := by rw [k2, jU_eq]; rfl
  unfold s_grd at hP
  generalize hGG : τ 0 0 = G at *
  generalize hCC : G * n = C at *
  generalize s_opn τ ω r = op at *
  refine jW_for0 (f := fun fuel k (K : Nat → Nat → Int32) => F_Watch_play_l35 fuel 102 (nI k) (jz_I h K)) G (fun k K => (jSg l I K ∧ (K 102 3 = nI G ∧ K 102 4 = nI C) ∧ ∀ c, c < C → K 103 c = nB (op c)) ∧ ∀ j, j < k → K 104 j = nQ (s_mst G op j C)) K ⟨⟨k1, ⟨e3, e4⟩, k3⟩, fun j hj => absurd hj (Nat.not_lt_zero j)⟩ (by omega) (fun F k K hk hV ih => ?_) (fun F K hV => ?_)
  · obtain ⟨⟨v1, ⟨v2, v3⟩, v4⟩, v5⟩ := hV
    show jW (F_Watch_play_c35 (F_Watch_play_l35 F) 102 (nI k) (jz_I h K)) P
    unfold F_Watch_play_c35
    simp (disch := omega) only [v2, c_most hL (show 0 < G by omega) o0 v2 h216 v3 v4 (show k < 9 by omega), ↓dR_64_5 hL, ↓dK_102 hL, ↓dG_102 hL, ↓dP_102 hL, ↓dR_102_2 hL, dI_104 hL, dS_104 hL, ↓reduceIte, ↓kq_bi, ↓kq_let, ↓kq_rz0, ↓kq_rz1, ↓kq_rzB, ↓Option.bind_some, kq_dvn, kt_lt, kf_lt, kt_eq, kf_eq, decide_true, decide_false, eq_self, Bool.false_eq_true, Bool.true_eq_false, not_true_eq_false, not_false_eq_true, jU_eq, jU_ne, jU_U, jV_eq, jV_ne, jV_V, kn_lit, kn_add, kn_mul, kn_sdm, kn_sub, kn_div, kn_nsdm, kn_lt, kn_eq, kn_pred, kn_m1, kn_m1', kn_a31, kn_shl, kn_shr, kn_bit, nB_0, nB_1, nB_t, nB_f, Nat.zero_add, Nat.add_zero, Nat.reduceAdd, Nat.reduceMul, Nat.reduceSub, Nat.reducePow]
    refine ih _ ⟨⟨jSg_trans v1 (fun a _ _ z => jU_ne (by omega)), ⟨by rw [jU_ne (by omega)]; exact v2, by rw [jU_ne (by omega)]; exact v3⟩, fun c hc => by rw [jU_ne (by omega)]; exact v4 c hc⟩, fun j hj => ?_⟩
    rw [jU_eq]
    by_cases hjk : j = k
    · rw [hjk, jV_eq]
    · rw [jV_ne hjk]; exact v5 j (by omega)
  · obtain ⟨⟨v1, ⟨v2, v3⟩, v4⟩, v5⟩ := hV
    show jW (F_Watch_play_c35 (F_Watch_play_l35 F) 102 (nI G) (jz_I h K)) P
    unfold F_Watch_play_c35
    simp (disch := omega) only [v2, ↓dR_64_5 hL, ↓dK_102 hL, ↓dG_102 hL, ↓dP_102 hL, ↓reduceIte, ↓kq_bi, ↓kq_let, ↓kq_rz0, ↓kq_rz1, ↓kq_rzB, ↓Option.bind_some, kq_dvn, kt_lt, kf_lt, kt_eq, kf_eq, decide_true, decide_false, eq_self, Bool.false_eq_true, Bool.true_eq_false, not_true_eq_false, not_false_eq_true, jU_eq, jU_ne, jU_U, jV_eq, jV_ne, jV_V, kn_lit, kn_add, kn_mul, kn_sdm, kn_sub, kn_div, kn_nsdm, kn_lt, kn_eq, kn_pred, kn_m1, kn_m1', kn_a31, kn_shl, kn_shr, kn_bit, nB_0, nB_1, nB_t, nB_f, Nat.zero_add, Nat.add_zero, Nat.reduceAdd, Nat.reduceMul, Nat.reduceSub, Nat.reducePow]
    refine jW_for0 (f := fun fuel c (K : Nat → Nat → Int32) => F_Watch_play_l77 fuel 102 (nI c) (jz_I h K)) C (fun c K => (jSg l I K ∧ (K 102 3 = nI G ∧ K 102 4 = nI C) ∧ (∀ c, c < C → K 103 c = nB (op c)) ∧ ∀ j, j < G → K 104 j = nQ (s_mst G op j C)) ∧ jWt K (s_gdo G C op c)) _ ⟨⟨jSg_trans v1 (fun a _ _ z => jU_ne (by omega)), ⟨?_, ?_⟩, fun c hc => by rw [jU_ne (by omega)]; exact v4 c hc, fun j hj => by rw [jU_ne (by omega)]; exact v5 j hj⟩, ?_, ?_, ?_⟩ (by omega) (fun F c K hc hV ih => ?_) (fun F K hV => ?_)
    · simp (disch := omega) only [jU_eq, jV_ne]; exact v2
    · simp (disch := omega) only [jU_eq, jV_ne]; exact v3
    · simp (disch := omega) only [jU_eq, jV_ne, jV_eq]; rfl
    · simp (disch := omega) only [jU_eq, jV_ne, jV_eq]; rfl
    · simp (disch := omega) only [jU_eq, jV_ne, jV_eq]; exact nQ_2
    · obtain ⟨⟨w1, ⟨w2, w3⟩, w4, w5⟩, w6⟩ := hV
      have hG0 : 0 < G := by
        rcases Nat.eq_zero_or_pos G with z | z
        · rw [z, Nat.zero_mul] at hCC; omega
        · exact z
      have hb2 : (s_gdo G C op c).1 ≤ 2000 := Nat.le_trans (s_gdo_le c) (Nat.le_trans (Nat.mul_le_mul (show c ≤ 216 by omega) o0) (by decide))
      show jW (F_Watch_play_c77 (F_Watch_play_l77 F) 102 (nI c) (jz_I h K)) P
      unfold F_Watch_play_c77
      simp (disch := omega) only [w3, c_least hL hG0 o0 w2 (show c < 216 by omega) (w4 c hc), ↓dR_64_5 hL, ↓dK_102 hL, ↓dG_102 hL, ↓dP_102 hL, ↓reduceIte, ↓kq_bi, ↓kq_let, ↓kq_rz0, ↓kq_rz1, ↓kq_rzB, ↓Option.bind_some, kq_dvn, kt_lt, kf_lt, kt_eq, kf_eq, decide_true, decide_false, eq_self, Bool.false_eq_true, Bool.true_eq_false, not_true_eq_false, not_false_eq_true, jU_eq, jU_ne, jU_U, jV_eq, jV_ne, jV_V, kn_lit, kn_add, kn_mul, kn_sdm, kn_sub, kn_div, kn_nsdm, kn_lt, kn_eq, kn_pred, kn_m1, kn_m1', kn_a31, kn_shl, kn_shr, kn_bit, nB_0, nB_1, nB_t, nB_f, Nat.zero_add, Nat.add_zero, Nat.reduceAdd, Nat.reduceMul, Nat.reduceSub, Nat.reducePow]
      refine jW_bn (c_findRests hL hG0 o0 w2 h216 hc (w4 c hc) w5 w6 hb2) (fun K2 hK2 => ?_)
      obtain ⟨q1, q2, q3⟩ := hK2
      exact ih K2 ⟨⟨jSg_trans w1 (fun a _ _ z => q3 a (by omega)), ⟨by rw [q2 3 (by omega)]; exact w2, by rw [q2 4 (by omega)]; exact w3⟩, fun c hc => by rw [q3 103 (by omega)]; exact w4 c hc, fun j hj => by rw [q3 104 (by omega)]; exact w5 j hj⟩, q1⟩
    · obtain ⟨⟨w1, ⟨w2, w3⟩, w4, w5⟩, w6⟩ := hV
      show jW (F_Watch_play_c77 (F_Watch_play_l77 F) 102 (nI C) (jz_I h K)) P
      unfold F_Watch_play_c77
      simp (disch := omega) only [w3, ↓dR_64_5 hL, ↓dK_102 hL, ↓dG_102 hL, ↓dP_102 hL, ↓reduceIte, ↓kq_bi, ↓kq_let, ↓kq_rz0, ↓kq_rz1, ↓kq_rzB, ↓Option.bind_some, kq_dvn, kt_lt, kf_lt, kt_eq, kf_eq, decide_true, decide_false, eq_self, Bool.false_eq_true, Bool.true_eq_false, not_true_eq_false, not_false_eq_true, jU_eq, jU_ne, jU_U, jV_eq, jV_ne, jV_V, kn_lit, kn_add, kn_mul, kn_sdm, kn_sub, kn_div, kn_nsdm, kn_lt, kn_eq, kn_pred, kn_m1, kn_m1', kn_a31, kn_shl, kn_shr, kn_bit, nB_0, nB_1, nB_t, nB_f, Nat.zero_add, Nat.add_zero, Nat.reduceAdd, Nat.reduceMul, Nat.reduceSub, Nat.reducePow]
      exact jW_s (hP K ⟨w1, w6⟩)
theorem c_guard (hL : jLay t u l m b c h) (hQ : jQC I t l τ ω r) {n w : Nat} (h1 : 1 ≤ n) (hn : n ≤ 24) (hw : w ≤ 2) : ∃ J, F_SG_guard 64 (nI n) (nI w) (jz_I h I) = some (jo_i (s_guard τ ω r n w, jz_I h J)) ∧ jSg l I J := by
  refine jE_o (fun P hP => ?_)
  unfold F_SG_guard
  simp (disch := omega) only [c_need1, kq_th, F_SG_guard_b26, ↓dK_64 hL, ↓dG_64 hL, ↓dP_64 hL, ↓reduceIte, ↓kq_bi, ↓kq_let, ↓kq_rz0, ↓kq_rz1, ↓kq_rzB, ↓Option.bind_some, kq_dvn, kt_lt, kf_lt, kt_eq, kf_eq, decide_true, decide_false, eq_self, Bool.false_eq_true, Bool.true_eq_false, not_true_eq_false, not_false_eq_true, jU_eq, jU_ne, jU_U, jV_eq, jV_ne, jV_V, kn_lit, kn_add, kn_mul, kn_sdm, kn_sub, kn_div, kn_nsdm, kn_lt, kn_eq, kn_pred, kn_m1, kn_m1', kn_a31, kn_shl, kn_shr, kn_bit, nB_0, nB_1, nB_t, nB_f, Nat.zero_add, Nat.add_zero, Nat.reduceAdd, Nat.reduceMul, Nat.reduceSub, Nat.reducePow]
  refine jW_bn (c_trial hL hQ) (fun J hJ => ?_)
  simp (disch := omega) only [↓dK_64 hL, ↓dG_64 hL, ↓dP_64 hL, ↓dR_64_5 hL, ↓dK_102 hL, ↓dG_102 hL, ↓dP_102 hL, ↓reduceIte, ↓kq_bi, ↓kq_let, ↓kq_rz0, ↓kq_rz1, ↓kq_rzB, ↓Option.bind_some, kq_dvn, kt_lt, kf_lt, kt_eq, kf_eq, decide_true, decide_false, eq_self, Bool.false_eq_true, Bool.true_eq_false, not_true_eq_false, not_false_eq_true, jU_eq, jU_ne, jU_U, jV_eq, jV_ne, jV_V, kn_lit, kn_add, kn_mul, kn_sdm, kn_sub, kn_div, kn_nsdm, kn_lt, kn_eq, kn_pred, kn_m1, kn_m1', kn_a31, kn_shl, kn_shr, kn_bit, nB_0, nB_1, nB_t, nB_f, Nat.zero_add, Nat.add_zero, Nat.reduceAdd, Nat.reduceMul, Nat.reduceSub, Nat.reducePow]
  refine jW_bn (c_play hL hQ (jSg_Sc (fun _ _ _ _ => rfl) hJ.1) hJ.2 h1 hn) (fun K hK => ?_)
  obtain ⟨k1, k5, k6, k7⟩ := hK
  have fin := hP K k1
  unfold s_guard at fin
  generalize s_grd τ ω r n = y at fin k5 k6 k7
  have : w = 0 ∨ w = 1 ∨ w = 2 := by omega
  rcases this with rfl | rfl | rfl
  · rw [if_pos (show (0 : Nat) = 0 from rfl)] at fin
    simp (disch := omega) only [k5, F_SG_guard_b77, ↓dK_64 hL, ↓dG_64 hL, ↓dP_64 hL, ↓dR_64_5 hL, ↓dK_102 hL, ↓dG_102 hL, ↓dP_102 hL, ↓reduceIte, ↓kq_bi, ↓kq_let, ↓kq_rz0, ↓kq_rz1, ↓kq_rzB, ↓Option.bind_some, kq_dvn, kt_lt, kf_lt, kt_eq, kf_eq, decide_true, decide_false, eq_self, Bool.false_eq_true, Bool.true_eq_false, not_true_eq_false, not_false_eq_true, jU_eq, jU_ne, jU_U, jV_eq, jV_ne, jV_V, kn_lit, kn_add, kn_mul, kn_sdm, kn_sub, kn_div, kn_nsdm, kn_lt, kn_eq, kn_pred, kn_m1, kn_m1', kn_a31, kn_shl, kn_shr, kn_bit, nB_0, nB_1, nB_t, nB_f, Nat.zero_add, Nat.add_zero, Nat.reduceAdd, Nat.reduceMul, Nat.reduceSub, Nat.reducePow]
    exact jW_s fin
  · rw [if_neg (show ¬ (1 : Nat) = 0 by decide), if_pos (show (1 : Nat) = 1 from rfl)] at fin
    simp (disch := omega) only [k6, F_SG_guard_b77, ↓dK_64 hL, ↓dG_64 hL, ↓dP_64 hL, ↓dR_64_5 hL, ↓dK_102 hL, ↓dG_102 hL, ↓dP_102 hL, ↓reduceIte, ↓kq_bi, ↓kq_let, ↓kq_rz0, ↓kq_rz1, ↓kq_rzB, ↓Option.bind_some, kq_dvn, kt_lt, kf_lt, kt_eq, kf_eq, decide_true, decide_false, eq_self, Bool.false_eq_true, Bool.true_eq_false, not_true_eq_false, not_false_eq_true, jU_eq, jU_ne, jU_U, jV_eq, jV_ne, jV_V, kn_lit, kn_add, kn_mul, kn_sdm, kn_sub, kn_div, kn_nsdm, kn_lt, kn_eq, kn_pred, kn_m1, kn_m1', kn_a31, kn_shl, kn_shr, kn_bit, nB_0, nB_1, nB_t, nB_f, Nat.zero_add, Nat.add_zero, Nat.reduceAdd, Nat.reduceMul, Nat.reduceSub, Nat.reducePow]
    exact jW_s fin
  · rw [if_neg (show ¬ (2 : Nat) = 0 by decide), if_neg (show ¬ (2 : Nat) = 1 by decide)] at fin
    simp (disch := omega) only [k7, F_SG_guard_b77, ↓dK_64 hL, ↓dG_64 hL, ↓dP_64 hL, ↓dR_64_5 hL, ↓dK_102 hL, ↓dG_102 hL, ↓dP_102 hL, ↓reduceIte, ↓kq_bi, ↓kq_let, ↓kq_rz0, ↓kq_rz1, ↓kq_rzB, ↓Option.bind_some, kq_dvn, kt_lt, kf_lt, kt_eq, kf_eq, decide_true, decide_false, eq_self, Bool.false_eq_true, Bool.true_eq_false, not_true_eq_false, not_false_eq_true, jU_eq, jU_ne, jU_U, jV_eq, jV_ne, jV_V, kn_lit, kn_add, kn_mul, kn_sdm, kn_sub, kn_div, kn_nsdm, kn_lt, kn_eq, kn_pred, kn_m1, kn_m1', kn_a31, kn_shl, kn_shr, kn_bit, nB_0, nB_1, nB_t, nB_f, Nat.zero_add, Nat.add_zero, Nat.reduceAdd, Nat.reduceMul, Nat.reduceSub, Nat.reducePow]
    exact jW_s fin
/-- a rest, as the reference looks for it -/
theorem s_mst_ge {k c : Nat} : ∀ n, c < n → s_py G op c k ≤ s_mst G op k n
  | 0, h => absurd h (Nat.not_lt_zero c)
  | n + 1, h => by
    show _ ≤ (if s_mst G op k n < s_py G op n k then s_py G op n k else s_mst G op k n)
    by_cases hc : c = n
    · subst hc; split <;> omega
    · have h2 : c < n := by omega
      have := s_mst_ge (k := k) n h2
      split <;> omega
theorem s_mst_ex {k : Nat} : ∀ n, s_mst G op k n = 0 ∨ ∃ c, c < n ∧ s_mst G op k n = s_py G op c k
  | 0 => Or.inl rfl
  | n + 1 => by
    show (if s_mst G op k n < s_py G op n k then s_py G op n k else s_mst G op k n) = 0 ∨ _
    have es : s_mst G op k (n + 1) = (if s_mst G op k n < s_py G op n k then s_py G op n k else s_mst G op k n) := rfl
    by_cases hc : s_mst G op k n < s_py G op n k
    · exact Or.inr ⟨n, by omega, by rw [es, if_pos hc]⟩
    · rw [es, if_neg hc]
      rcases s_mst_ex (k := k) n with h | ⟨c, h1, h2⟩
      · exact Or.inl h
      · exact Or.inr ⟨c, by omega, h2⟩
theorem s_lst_le {c k : Nat} : ∀ n, k < n → s_lst G op c n ≤ s_py G op c k
  | 0, h => absurd h (Nat.not_lt_zero k)
  | n + 1, h => by
    show (if s_py G op c n < s_lst G op c n then s_py G op c n else s_lst G op c n) ≤ _
    by_cases hc : k = n
    · subst hc; split <;> omega
    · have h2 : k < n := by omega
      have := s_lst_le (c := c) n h2
      split <;> omega
theorem s_lst_ex {c : Nat} : ∀ n, s_lst G op c n = 5 ∨ ∃ k, k < n ∧ s_lst G op c n = s_py G op c k
  | 0 => Or.inl rfl
  | n + 1 => by
    have es : s_lst G op c (n + 1) = (if s_py G op c n < s_lst G op c n then s_py G op c n else s_lst G op c n) := rfl
    by_cases hc : s_py G op c n < s_lst G op c n
    · exact Or.inr ⟨n, by omega, by rw [es, if_pos hc]⟩
    · rw [es, if_neg hc]
      rcases s_lst_ex (c := c) n with h | ⟨k, h1, h2⟩
      · exact Or.inl h
      · exact Or.inr ⟨k, by omega, h2⟩
theorem s_rs_any {c k : Nat} (hc : c < C) (hk : k < G) : s_rs G C op c k = (!s_any (fun c' => decide (s_py G op c k < s_py G op c' k)) C && !s_any (fun x => decide (s_py G op c x < s_py G op c k)) G) := by
  have p1 := s_py_lt (G := G) (op := op) (c := c) (k := k)
  have m1 := s_mst_ge (G := G) (op := op) (k := k) C hc
  have l1 := s_lst_le (G := G) (op := op) (c := c) G hk
  have a1 : decide (s_py G op c k = s_mst G op k C) = !s_any (fun c' => decide (s_py G op c k < s_py G op c' k)) C := by
    cases ha : s_any (fun c' => decide (s_py G op c k < s_py G op c' k)) C
    · refine decide_eq_true ?_
      rcases s_mst_ex (G := G) (op := op) (k := k) C with z | ⟨c', z1, z2⟩
      · omega
      · have : ¬ s_py G op c k < s_py G op c' k := fun z => by
          exact (Bool.eq_false_iff.mp ha) (s_any_true.mpr ⟨c', z1, decide_eq_true z⟩)
        omega
    · refine decide_eq_false ?_
      obtain ⟨c', z1, z2⟩ := s_any_true.mp ha
      have z2 := of_decide_eq_true z2
      have := s_mst_ge (G := G) (op := op) (k := k) C z1
      omega
  have a2 : decide (s_py G op c k = s_lst G op c G) = !s_any (fun x => decide (s_py G op c x < s_py G op c k)) G := by
    cases ha : s_any (fun x => decide (s_py G op c x < s_py G op c k)) G
    · refine decide_eq_true ?_
      rcases s_lst_ex (G := G) (op := op) (c := c) G with z | ⟨x, z1, z2⟩
      · omega
      · have : ¬ s_py G op c x < s_py G op c k := fun z => by
          exact (Bool.eq_false_iff.mp ha) (s_any_true.mpr ⟨x, z1, decide_eq_true z⟩)
        omega
    · refine decide_eq_false ?_
      obtain ⟨x, z1, z2⟩ := s_any_true.mp ha
      have z2 := of_decide_eq_true z2
      have := s_lst_le (G := G) (op := op) (c := c) G z1
      omega
  unfold s_rs
  rw [a1, a2, Bool.and_comm]
end

/-! PLAIN LEAN: a text is opened -/
/-- a number that says how long a text is -/
def jTn (x : Int32) (most q : Nat) : Prop := ∃ n, n ≤ most ∧ n ≤ q ∧ x = nI n
section
variable {t u l m b c : Nat} {h : LH} {I J K : Nat → Nat → Int32} {x : Int32} {most q n : Nat} {tp : Nat → Nat} {Q : Type}
theorem jTn_no (hm : most < 2147483648) (hq : q < 2147483648) (hx : ¬ jTn x most q) : (x < nI 0) = True ∨ ((x < nI 0) = False ∧ (nI most < x) = True) ∨ ((x < nI 0) = False ∧ (nI most < x) = False ∧ (nI q < x) = True) := by
  by_cases h0 : x < nI 0
  · exact Or.inl (eq_true h0)
  · by_cases h1 : nI most < x
    · exact Or.inr (Or.inl ⟨eq_false h0, eq_true h1⟩)
    · refine Or.inr (Or.inr ⟨eq_false h0, eq_false h1, eq_true ?_⟩)
      by_cases h2 : nI q < x
      · exact h2
      · exfalso
        apply hx
        rw [Int32.lt_iff_toInt_lt, kn_ti (by omega)] at h0 h1 h2
        exact ⟨x.toInt.toNat, by omega, by omega, kn_up (by omega)⟩
theorem jW_th {P : JOut → Prop} {R : (Nat → Nat → Int32) → Prop} {X : Option JOut} {K : LH → Option JOut} (hx : ∃ J, X = some (jo_v (jz_I h J)) ∧ R J) (hk : ∀ J, R J → jW (K (jz_I h J)) P) : jW (jf_th X K) P := by
  obtain ⟨J, rfl, hJ⟩ := hx
  exact hk J hJ
theorem c_openX (hL : jLay t u l m b c h) (hm : most < 2147483648) (hq : q ≤ 600) (e1 : I 65 1 = nI q) (hx : ¬ jTn x most q) {K : LH → Option JOut} : jf_kd (jz_I h I) 64 10 (jf_th (F_SG_openText 64 x (nI most) (jz_I h I)) K) = some (.inr 1, jl_junk (jz_I h (jU I 64 (jV (I 64) (16 + 1) (I 64 (16 + 1) + nI 1)))) 6) := by
  have key : F_SG_openText_b26 64 x 64 (nI 0) (jz_I h I) = some (.inr 1, jl_junk (jz_I h (jU I 64 (jV (I 64) (16 + 1) (I 64 (16 + 1) + nI 1)))) 6) := by
    unfold F_SG_openText_b26
    exact c_bdA hL
  have e : F_SG_openText 64 x (nI most) (jz_I h I) = some (.inr 1, jl_junk (jz_I h (jU I 64 (jV (I 64) (16 + 1) (I 64 (16 + 1) + nI 1)))) 6) := by
    unfold F_SG_openText
    rcases jTn_no hm (by omega) hx with a | ⟨a1, a2⟩ | ⟨a1, a2, a3⟩
    · simp (disch := omega) only [a, F_SG_openText_b25, ↓dK_64 hL, ↓dG_64 hL, ↓dP_64 hL, ↓dR_64_0 hL, ↓dK_65 hL, ↓dG_65 hL, ↓dP_65 hL, ↓reduceIte, ↓kq_bi, ↓kq_let, ↓kq_rz0, ↓kq_rz1, ↓kq_rzB, ↓Option.bind_some, kq_dvn, kt_lt, kf_lt, kt_eq, kf_eq, decide_true, decide_false, eq_self, Bool.false_eq_true, Bool.true_eq_false, not_true_eq_false, not_false_eq_true, jU_eq, jU_ne, jU_U, jV_eq, jV_ne, jV_V, kn_lit, kn_add, kn_mul, kn_sdm, kn_sub, kn_div, kn_nsdm, kn_lt, kn_eq, kn_pred, kn_m1, kn_m1', kn_a31, kn_shl, kn_shr, kn_bit, nB_0, nB_1, nB_t, nB_f, Nat.zero_add, Nat.add_zero, Nat.reduceAdd, Nat.reduceMul, Nat.reduceSub, Nat.reducePow]
      exact key
    · simp (disch := omega) only [a1, a2, F_SG_openText_b25, ↓dK_64 hL, ↓dG_64 hL, ↓dP_64 hL, ↓dR_64_0 hL, ↓dK_65 hL, ↓dG_65 hL, ↓dP_65 hL, ↓reduceIte, ↓kq_bi, ↓kq_let, ↓kq_rz0, ↓kq_rz1, ↓kq_rzB, ↓Option.bind_some, kq_dvn, kt_lt, kf_lt, kt_eq, kf_eq, decide_true, decide_false, eq_self, Bool.false_eq_true, Bool.true_eq_false, not_true_eq_false, not_false_eq_true, jU_eq, jU_ne, jU_U, jV_eq, jV_ne, jV_V, kn_lit, kn_add, kn_mul, kn_sdm, kn_sub, kn_div, kn_nsdm, kn_lt, kn_eq, kn_pred, kn_m1, kn_m1', kn_a31, kn_shl, kn_shr, kn_bit, nB_0, nB_1, nB_t, nB_f, Nat.zero_add, Nat.add_zero, Nat.reduceAdd, Nat.reduceMul, Nat.reduceSub, Nat.reducePow]
      exact key
    · simp (disch := omega) only [a1, a2, a3, e1, F_SG_openText_b25, ↓dK_64 hL, ↓dG_64 hL, ↓dP_64 hL, ↓dR_64_0 hL, ↓dK_65 hL, ↓dG_65 hL, ↓dP_65 hL, ↓reduceIte, ↓kq_bi, ↓kq_let, ↓kq_rz0, ↓kq_rz1, ↓kq_rzB, ↓Option.bind_some, kq_dvn, kt_lt, kf_lt, kt_eq, kf_eq, decide_true, decide_false, eq_self, Bool.false_eq_true, Bool.true_eq_false, not_true_eq_false, not_false_eq_true, jU_eq, jU_ne, jU_U, jV_eq, jV_ne, jV_V, kn_lit, kn_add, kn_mul, kn_sdm, kn_sub, kn_div, kn_nsdm, kn_lt, kn_eq, kn_pred, kn_m1, kn_m1', kn_a31, kn_shl, kn_shr, kn_bit, nB_0, nB_1, nB_t, nB_f, Nat.zero_add, Nat.add_zero, Nat.reduceAdd, Nat.reduceMul, Nat.reduceSub, Nat.reducePow]
      exact key
  rw [dK_64 hL, e]
  rfl
theorem c_openG (hL : jLay t u l m b c h) (hm : most < 2147483648) (hq : q ≤ 600) (e1 : I 65 1 = nI q) (hn : n ≤ most) (hnq : n ≤ q) (htp : ∀ k, k < q → I 66 k = nS (tp k)) (h256 : ∀ k, tp k < 256) : ∃ K, F_SG_openText 64 (nI n) (nI most) (jz_I h I) = some (jo_v (jz_I h K)) ∧ jTX K tp n (0, 0, 0) ∧ jT1 I K := by
  obtain ⟨K, e, k1, k2⟩ := c_open hL (n := n) (z := nI n) (J := I) (tp := tp) (by rw [if_neg (by rw [kn_lt (by omega) (by omega)]; omega)]) (by omega) (fun k hk => htp k (by omega)) h256
  refine ⟨K, ?_, k1, k2⟩
  have key : F_SG_openText_b26 64 (nI n) 64 (nI 1) (jz_I h I) = some (jo_v (jz_I h K)) := by
    unfold F_SG_openText_b26
    simp (disch := omega) only [c_need1, kq_th, e, ↓dK_64 hL, ↓dG_64 hL, ↓dP_64 hL, ↓dR_64_0 hL, ↓dK_65 hL, ↓dG_65 hL, ↓dP_65 hL, ↓reduceIte, ↓kq_bi, ↓kq_let, ↓kq_rz0, ↓kq_rz1, ↓kq_rzB, ↓Option.bind_some, kq_dvn, kt_lt, kf_lt, kt_eq, kf_eq, decide_true, decide_false, eq_self, Bool.false_eq_true, Bool.true_eq_false, not_true_eq_false, not_false_eq_true, jU_eq, jU_ne, jU_U, jV_eq, jV_ne, jV_V, kn_lit, kn_add, kn_mul, kn_sdm, kn_sub, kn_div, kn_nsdm, kn_lt, kn_eq, kn_pred, kn_m1, kn_m1', kn_a31, kn_shl, kn_shr, kn_bit, nB_0, nB_1, nB_t, nB_f, Nat.zero_add, Nat.add_zero, Nat.reduceAdd, Nat.reduceMul, Nat.reduceSub, Nat.reducePow]
  unfold F_SG_openText
  simp (disch := omega) only [e1, ↓dK_64 hL, ↓dG_64 hL, ↓dP_64 hL, ↓dR_64_0 hL, ↓dK_65 hL, ↓dG_65 hL, ↓dP_65 hL, ↓reduceIte, ↓kq_bi, ↓kq_let, ↓kq_rz0, ↓kq_rz1, ↓kq_rzB, ↓Option.bind_some, kq_dvn, kt_lt, kf_lt, kt_eq, kf_eq, decide_true, decide_false, eq_self, Bool.false_eq_true, Bool.true_eq_false, not_true_eq_false, not_false_eq_true, jU_eq, jU_ne, jU_U, jV_eq, jV_ne, jV_V, kn_lit, kn_add, kn_mul, kn_sdm, kn_sub, kn_div, kn_nsdm, kn_lt, kn_eq, kn_pred, kn_m1, kn_m1', kn_a31, kn_shl, kn_shr, kn_bit, nB_0, nB_1, nB_t, nB_f, Nat.zero_add, Nat.add_zero, Nat.reduceAdd, Nat.reduceMul, Nat.reduceSub, Nat.reducePow]
  exact key
/-- a text that could not be read: the class's side -/
theorem jCC_flt (hL : jLay t u l m b c h) {τ : JTn} {ω : JLw} {r : JRw} {β : JBk} {H : JHs} {E : JIm} {Tp : Nat × (Nat → Nat)} {p : Int32} {rf c0 c1 N : Nat} {y : JTs} (hC : jCC h I t l b (τ, ω, r, β, H, E, Tp, p, rf, c0, c1)) (hA : jAG N (τ, ω, r, β, H, E, Tp, p, rf, c0, c1)) (hX : jTX J tp n y) (hF : ∀ a, ¬ a = 65 → (a < 69 ∨ a = l ∨ a = l + 1 ∨ a = b ∨ a = b + 1 ∨ (t ≤ a ∧ a < t + 13) ∨ (85 ≤ a ∧ a < 183) ∨ 205 ≤ a) → J a = I a) : jCC h (jU J 65 (jV (J 65) 1 (nI 0))) t l b (τ, ω, r, β, H, E, (0, Tp.2), nF y, rf, c0, c1) := by
  have ht := jLay_t hL
  have hl := jLay_l hL
  have hb := jLay_b hL
  obtain ⟨⟨a1, a2⟩, a3, a4, a5, a7, -, ⟨a12, a13, a14⟩, a15⟩ := hC
  obtain ⟨-, -, -, -, ⟨b1, -⟩, ⟨b2, b3⟩, -⟩ := hA
  have e65 : ∀ a, ¬ a = 65 → (jU J 65 (jV (J 65) 1 (nI 0))) a = J a := fun a ha => jU_ne ha
  have hG : ∀ a, ¬ a = 65 → (a < 69 ∨ a = l ∨ a = l + 1 ∨ a = b ∨ a = b + 1 ∨ (t ≤ a ∧ a < t + 13) ∨ (85 ≤ a ∧ a < 183) ∨ 205 ≤ a) → (jU J 65 (jV (J 65) 1 (nI 0))) a = I a := fun a x1 x2 => (e65 a x1).trans (hF a x1 x2)
  have f64 := hG 64 (by omega) (by omega)
  have q1 : (jU J 65 (jV (J 65) 1 (nI 0))) 65 1 = nI 0 := by rw [jU_eq, jV_eq]
  have q3 : (jU J 65 (jV (J 65) 1 (nI 0))) 65 3 = nF y := by rw [jU_eq, jV_ne (by omega)]; exact hX.1.2.1
  exact ⟨⟨jCT_congr (fun i hi => hG _ (by omega) (by omega)) a1, jCL_cg (fun a ha => hG a (by omega) (by omega)) a2⟩, jCS_cg (fun a x1 x2 => hG a (by omega) (by omega)) a3, jCB_cg (fun a ha => hG a (by omega) (by omega)) a4, jcH_cg b1 (fun a x1 x2 => hG a (by omega) (by omega)) a5, jcE_cg b2 (fun e he => (b3 e he).2.1) (by rw [f64]) (fun a x1 x2 => hG a (by omega) (by omega)) a7, ⟨q1, q3, fun k hk => absurd hk (Nat.not_lt_zero k)⟩, ⟨by rw [f64]; exact a12, by rw [f64]; exact a13, by rw [f64]; exact a14⟩, jStr_eq a15 (fun a ha => hG a (by omega) (by omega))⟩
theorem jAG_flt {τ : JTn} {ω : JLw} {r : JRw} {β : JBk} {H : JHs} {E : JIm} {Tp : Nat × (Nat → Nat)} {p p' : Int32} {rf c0 c1 N : Nat} (hA : jAG N (τ, ω, r, β, H, E, Tp, p, rf, c0, c1)) : jAG (N + 1) (τ, ω, r, β, H, E, (0, Tp.2), p', rf, c0, c1) := by
  obtain ⟨a1, a2, a3, a4, a5, a6, a7, a8, a9, a10⟩ := hA
  exact ⟨a1, a2, a3, a4, a5, a6, ⟨Nat.zero_le _, a7.2⟩, a8, Nat.le_succ_of_le a9, Nat.le_succ_of_le a10⟩
end

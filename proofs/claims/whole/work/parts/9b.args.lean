/-! PLAIN LEAN, 67: any number as an argument; calls that are refused -/
def jIn (x : Int32) (n : Nat) : Prop := ∃ k, k < n ∧ x = nI k
def jRg (x : Int32) (lo hi : Nat) : Prop := ∃ k, lo ≤ k ∧ k ≤ hi ∧ x = nI k
def jBl (x : Int32) : Prop := ∃ w : Bool, x = nB w
theorem kn_up {x : Int32} (h : 0 ≤ x.toInt) : x = nI x.toInt.toNat := by
  have h1 := Int32.toInt_lt x
  apply Int32.toInt_inj.mp
  rw [kn_ti (by omega)]
  omega
theorem jIn_no {x : Int32} {n : Nat} (hn : n < 2147483648) (hx : ¬ jIn x n) : (x < nI 0) = True ∨ ((x < nI 0) = False ∧ (x < nI n) = False) := by
  by_cases h0 : x < nI 0
  · exact Or.inl (eq_true h0)
  · refine Or.inr ⟨eq_false h0, eq_false (fun h1 => hx ?_)⟩
    rw [Int32.lt_iff_toInt_lt, kn_ti (by omega)] at h0 h1
    exact ⟨x.toInt.toNat, by omega, kn_up (by omega)⟩
theorem jRg_no {x : Int32} {lo hi : Nat} (hl : lo < 2147483648) (hh : hi < 2147483648) (hx : ¬ jRg x lo hi) : (x < nI lo) = True ∨ ((x < nI lo) = False ∧ (nI hi < x) = True) := by
  by_cases h0 : x < nI lo
  · exact Or.inl (eq_true h0)
  · refine Or.inr ⟨eq_false h0, eq_true ?_⟩
    by_cases h1 : nI hi < x
    · exact h1
    · exfalso
      apply hx
      rw [Int32.lt_iff_toInt_lt, kn_ti (by omega)] at h0 h1
      exact ⟨x.toInt.toNat, by omega, by omega, kn_up (by omega)⟩
theorem jBl_no {x : Int32} (hx : ¬ jBl x) : (x = nI 0) = False ∧ (x = nI 1) = False := ⟨eq_false (fun h => hx ⟨false, h⟩), eq_false (fun h => hx ⟨true, h⟩)⟩
theorem jBl_rg {x : Int32} (hx : ¬ jBl x) : ¬ jRg x 0 1 := fun ⟨k, _, h2, h3⟩ => by
  rcases (show k = 0 ∨ k = 1 by omega) with rfl | rfl
  · exact hx ⟨false, h3⟩
  · exact hx ⟨true, h3⟩
theorem jIn_rg {x : Int32} {n : Nat} (hx : ¬ jIn x (n + 1)) : ¬ jRg x 0 n := fun ⟨k, _, h2, h3⟩ => hx ⟨k, by omega, h3⟩
theorem m_inX {x : Int32} {lo hi : Nat} (hl : lo < 2147483648) (hh : hi < 2147483648) (hx : ¬ jRg x lo hi) (g : LH) : F_Mod_in x (nI lo) (nI hi) g = some (nB false, g) := by
  unfold F_Mod_in
  rcases jRg_no hl hh hx with e | ⟨e1, e2⟩
  · simp (disch := omega) only [e, F_Mod_in_b15, F_Mod_in_b14, ↓reduceIte, ↓kq_bi, ↓kq_let, ↓kq_rz0, ↓kq_rz1, ↓kq_rzB, ↓Option.bind_some, kq_dvn, kt_lt, kf_lt, kt_eq, kf_eq, decide_true, decide_false, eq_self, Bool.false_eq_true, Bool.true_eq_false, not_true_eq_false, not_false_eq_true, jU_eq, jU_ne, jU_U, jV_eq, jV_ne, jV_V, kn_lit, kn_add, kn_mul, kn_sdm, kn_sub, kn_div, kn_nsdm, kn_lt, kn_eq, kn_pred, kn_m1, kn_m1', kn_a31, kn_shl, kn_shr, kn_bit, nB_0, nB_1, nB_t, nB_f, Nat.zero_add, Nat.add_zero, Nat.reduceAdd, Nat.reduceMul, Nat.reduceSub, Nat.reducePow]
  · simp (disch := omega) only [e1, e2, F_Mod_in_b15, F_Mod_in_b14, ↓reduceIte, ↓kq_bi, ↓kq_let, ↓kq_rz0, ↓kq_rz1, ↓kq_rzB, ↓Option.bind_some, kq_dvn, kt_lt, kf_lt, kt_eq, kf_eq, decide_true, decide_false, eq_self, Bool.false_eq_true, Bool.true_eq_false, not_true_eq_false, not_false_eq_true, jU_eq, jU_ne, jU_U, jV_eq, jV_ne, jV_V, kn_lit, kn_add, kn_mul, kn_sdm, kn_sub, kn_div, kn_nsdm, kn_lt, kn_eq, kn_pred, kn_m1, kn_m1', kn_a31, kn_shl, kn_shr, kn_bit, nB_0, nB_1, nB_t, nB_f, Nat.zero_add, Nat.add_zero, Nat.reduceAdd, Nat.reduceMul, Nat.reduceSub, Nat.reducePow]
/-- where nothing is in: n is 0 -/
theorem m_inX1 {x : Int32} {n : Nat} (hn : n < 2147483648) (hx : ¬ jIn x n) (g : LH) : F_Mod_in x (nI 0) (nI n - nI 1) g = some (nB false, g) := by
  by_cases z : n = 0
  · subst z
    rw [kn_pred0]
    unfold F_Mod_in
    rcases jIn_no (by omega) hx with e | ⟨e1, e2⟩
    · simp (disch := omega) only [e, F_Mod_in_b15, F_Mod_in_b14, ↓reduceIte, ↓kq_bi, ↓kq_let, ↓kq_rz0, ↓kq_rz1, ↓kq_rzB, ↓Option.bind_some, kq_dvn, kt_lt, kf_lt, kt_eq, kf_eq, decide_true, decide_false, eq_self, Bool.false_eq_true, Bool.true_eq_false, not_true_eq_false, not_false_eq_true, jU_eq, jU_ne, jU_U, jV_eq, jV_ne, jV_V, kn_lit, kn_add, kn_mul, kn_sdm, kn_sub, kn_div, kn_nsdm, kn_lt, kn_eq, kn_pred, kn_m1, kn_m1', kn_a31, kn_shl, kn_shr, kn_bit, nB_0, nB_1, nB_t, nB_f, Nat.zero_add, Nat.add_zero, Nat.reduceAdd, Nat.reduceMul, Nat.reduceSub, Nat.reducePow]
    · have e3 : (-nI 1 < x) = True := by
        apply eq_true
        have := of_eq_false e1
        rw [Int32.lt_iff_toInt_lt, kn_ti (by omega)] at this
        rw [Int32.lt_iff_toInt_lt]
        have h2 : (-nI 1 : Int32).toInt = -1 := by decide
        omega
      simp (disch := omega) only [e1, e3, F_Mod_in_b15, F_Mod_in_b14, ↓reduceIte, ↓kq_bi, ↓kq_let, ↓kq_rz0, ↓kq_rz1, ↓kq_rzB, ↓Option.bind_some, kq_dvn, kt_lt, kf_lt, kt_eq, kf_eq, decide_true, decide_false, eq_self, Bool.false_eq_true, Bool.true_eq_false, not_true_eq_false, not_false_eq_true, jU_eq, jU_ne, jU_U, jV_eq, jV_ne, jV_V, kn_lit, kn_add, kn_mul, kn_sdm, kn_sub, kn_div, kn_nsdm, kn_lt, kn_eq, kn_pred, kn_m1, kn_m1', kn_a31, kn_shl, kn_shr, kn_bit, nB_0, nB_1, nB_t, nB_f, Nat.zero_add, Nat.add_zero, Nat.reduceAdd, Nat.reduceMul, Nat.reduceSub, Nat.reducePow]
  · rw [kn_sub (by omega)]
    exact m_inX (by omega) (by omega) (jIn_rg (by rw [show n - 1 + 1 = n by omega]; exact hx)) g
/-- what a refusal leaves on the reference's side -/
def jBd (I J : Nat → Nat → Int32) (f i : Nat) : Prop := J 205 0 = nI f ∧ J 207 = jV (I 207) i (I 207 i + nI 1) ∧ (∀ k, ¬ k = 0 → J 205 k = I 205 k) ∧ ∀ d, ¬ d = 205 → ¬ d = 207 → J d = I d
section
variable {t u l m b c : Nat} {h : LH} {I J : Nat → Nat → Int32} {τ : JTn} {ω : JLw} {r : JRw} {x : Int32} {Q : Type}
theorem c_bdA (hL : jLay t u l m b c h) {K : LH → Option JOut} : jf_kd (jz_I h I) 64 10 (jf_th (F_SG_needArgument 64 (nI 0) (jz_I h I)) K) = some (.inr 1, jl_junk (jz_I h (jU I 64 (jV (I 64) (16 + 1) (I 64 (16 + 1) + nI 1)))) 6) := by
  have e : F_SG_needArgument 64 (nI 0) (jz_I h I) = some (.inr 1, jl_junk (jz_I h (jU I 64 (jV (I 64) 17 (I 64 17 + nI 1)))) 6) := by
    unfold F_SG_needArgument
    simp (disch := omega) only [↓dK_64 hL, ↓dG_64 hL, ↓dP_64 hL, ↓reduceIte, ↓kq_bi, ↓kq_let, ↓kq_rz0, ↓kq_rz1, ↓kq_rzB, ↓Option.bind_some, kq_dvn, kt_lt, kf_lt, kt_eq, kf_eq, decide_true, decide_false, eq_self, Bool.false_eq_true, Bool.true_eq_false, not_true_eq_false, not_false_eq_true, jU_eq, jU_ne, jU_U, jV_eq, jV_ne, jV_V, kn_lit, kn_add, kn_mul, kn_sdm, kn_sub, kn_div, kn_nsdm, kn_lt, kn_eq, kn_pred, kn_m1, kn_m1', kn_a31, kn_shl, kn_shr, kn_bit, nB_0, nB_1, nB_t, nB_f, Nat.zero_add, Nat.add_zero, Nat.reduceAdd, Nat.reduceMul, Nat.reduceSub, Nat.reducePow]
  rw [dK_64 hL, e]
  rfl
theorem c_bdE (hL : jLay t u l m b c h) {K : LH → Option JOut} : jf_kd (jz_I h I) 64 10 (jf_th (F_SG_needElement 64 (nI 0) (jz_I h I)) K) = some (.inr 0, jl_junk (jz_I h (jU I 64 (jV (I 64) (16 + 0) (I 64 (16 + 0) + nI 1)))) 6) := by
  have e : F_SG_needElement 64 (nI 0) (jz_I h I) = some (.inr 0, jl_junk (jz_I h (jU I 64 (jV (I 64) 16 (I 64 16 + nI 1)))) 6) := by
    unfold F_SG_needElement
    simp (disch := omega) only [↓dK_64 hL, ↓dG_64 hL, ↓dP_64 hL, ↓reduceIte, ↓kq_bi, ↓kq_let, ↓kq_rz0, ↓kq_rz1, ↓kq_rzB, ↓Option.bind_some, kq_dvn, kt_lt, kf_lt, kt_eq, kf_eq, decide_true, decide_false, eq_self, Bool.false_eq_true, Bool.true_eq_false, not_true_eq_false, not_false_eq_true, jU_eq, jU_ne, jU_U, jV_eq, jV_ne, jV_V, kn_lit, kn_add, kn_mul, kn_sdm, kn_sub, kn_div, kn_nsdm, kn_lt, kn_eq, kn_pred, kn_m1, kn_m1', kn_a31, kn_shl, kn_shr, kn_bit, nB_0, nB_1, nB_t, nB_f, Nat.zero_add, Nat.add_zero, Nat.reduceAdd, Nat.reduceMul, Nat.reduceSub, Nat.reducePow]
  rw [dK_64 hL, e]
  rfl
theorem c_bdG (hL : jLay t u l m b c h) (hQ : jQC I t l τ ω r) (hx : ¬ jIn x (τ 0 0)) {K : LH → Option JOut} : jf_kd (jz_I h I) 64 10 (jf_th (F_SG_needGate 64 x (jz_I h I)) K) = some (.inr 0, jl_junk (jz_I h (jU I 64 (jV (I 64) (16 + 0) (I 64 (16 + 0) + nI 1)))) 6) := by
  have ht := jLay_t hL
  have hT := hQ.1.1
  have o0 : τ 0 0 ≤ 9 := hQ.1.2.1.1
  have e : F_SG_needGate 64 x (jz_I h I) = some (.inr 0, jl_junk (jz_I h (jU I 64 (jV (I 64) (16 + 0) (I 64 (16 + 0) + nI 1)))) 6) := by
    have key : F_SG_needGate_b24 64 (nI 0) (jz_I h I) = some (.inr 0, jl_junk (jz_I h (jU I 64 (jV (I 64) (16 + 0) (I 64 (16 + 0) + nI 1)))) 6) := by
      unfold F_SG_needGate_b24
      exact c_bdE hL
    unfold F_SG_needGate
    rcases jIn_no (by omega) hx with e | ⟨e1, e2⟩
    · simp (disch := omega) only [e, F_SG_needGate_b23, ↓dK_64 hL, ↓dG_64 hL, ↓dP_64 hL, ↓dR_64_2 hL, ↓dK_85 hL, ↓dG_85 hL, ↓dP_85 hL, ↓dZ_85 hL (x := nI 0) (Or.inl rfl), ↓dZ_85 hL (x := nI 1) (Or.inr rfl), ↓dZ_85 hL (Or.inl rfl), ↓dZ_85 hL (Or.inr rfl), ↓dZ_85 hL (nB_01 _), ↓dK_T hL ht, ↓dG_T hL ht, ↓dP_T hL ht, ↓reduceIte, ↓kq_bi, ↓kq_let, ↓kq_rz0, ↓kq_rz1, ↓kq_rzB, ↓Option.bind_some, kq_dvn, kt_lt, kf_lt, kt_eq, kf_eq, decide_true, decide_false, eq_self, Bool.false_eq_true, Bool.true_eq_false, not_true_eq_false, not_false_eq_true, jU_eq, jU_ne, jU_U, jV_eq, jV_ne, jV_V, kn_lit, kn_add, kn_mul, kn_sdm, kn_sub, kn_div, kn_nsdm, kn_lt, kn_eq, kn_pred, kn_m1, kn_m1', kn_a31, kn_shl, kn_shr, kn_bit, nB_0, nB_1, nB_t, nB_f, Nat.zero_add, Nat.add_zero, Nat.reduceAdd, Nat.reduceMul, Nat.reduceSub, Nat.reducePow]
      exact key
    · simp (disch := omega) only [↓dR_85_1 hL, cT_f0 hT, e1, e2, F_SG_needGate_b23, ↓dK_64 hL, ↓dG_64 hL, ↓dP_64 hL, ↓dR_64_2 hL, ↓dK_85 hL, ↓dG_85 hL, ↓dP_85 hL, ↓dZ_85 hL (x := nI 0) (Or.inl rfl), ↓dZ_85 hL (x := nI 1) (Or.inr rfl), ↓dZ_85 hL (Or.inl rfl), ↓dZ_85 hL (Or.inr rfl), ↓dZ_85 hL (nB_01 _), ↓dK_T hL ht, ↓dG_T hL ht, ↓dP_T hL ht, ↓reduceIte, ↓kq_bi, ↓kq_let, ↓kq_rz0, ↓kq_rz1, ↓kq_rzB, ↓Option.bind_some, kq_dvn, kt_lt, kf_lt, kt_eq, kf_eq, decide_true, decide_false, eq_self, Bool.false_eq_true, Bool.true_eq_false, not_true_eq_false, not_false_eq_true, jU_eq, jU_ne, jU_U, jV_eq, jV_ne, jV_V, kn_lit, kn_add, kn_mul, kn_sdm, kn_sub, kn_div, kn_nsdm, kn_lt, kn_eq, kn_pred, kn_m1, kn_m1', kn_a31, kn_shl, kn_shr, kn_bit, nB_0, nB_1, nB_t, nB_f, Nat.zero_add, Nat.add_zero, Nat.reduceAdd, Nat.reduceMul, Nat.reduceSub, Nat.reducePow]
      exact key
  rw [dK_64 hL, e]
  rfl
theorem c_bdW (hL : jLay t u l m b c h) (hQ : jQC I t l τ ω r) (hx : ¬ jIn x (τ 0 1)) {K : LH → Option JOut} : jf_kd (jz_I h I) 64 10 (jf_th (F_SG_needWood 64 x (jz_I h I)) K) = some (.inr 0, jl_junk (jz_I h (jU I 64 (jV (I 64) (16 + 0) (I 64 (16 + 0) + nI 1)))) 6) := by
  have ht := jLay_t hL
  have hT := hQ.1.1
  have o0 : τ 0 1 ≤ 6 := hQ.1.2.1.2.1
  have e : F_SG_needWood 64 x (jz_I h I) = some (.inr 0, jl_junk (jz_I h (jU I 64 (jV (I 64) (16 + 0) (I 64 (16 + 0) + nI 1)))) 6) := by
    have key : F_SG_needWood_b24 64 (nI 0) (jz_I h I) = some (.inr 0, jl_junk (jz_I h (jU I 64 (jV (I 64) (16 + 0) (I 64 (16 + 0) + nI 1)))) 6) := by
      unfold F_SG_needWood_b24
      exact c_bdE hL
    unfold F_SG_needWood
    rcases jIn_no (by omega) hx with e | ⟨e1, e2⟩
    · simp (disch := omega) only [e, F_SG_needWood_b23, ↓dK_64 hL, ↓dG_64 hL, ↓dP_64 hL, ↓dR_64_2 hL, ↓dK_85 hL, ↓dG_85 hL, ↓dP_85 hL, ↓dZ_85 hL (x := nI 0) (Or.inl rfl), ↓dZ_85 hL (x := nI 1) (Or.inr rfl), ↓dZ_85 hL (Or.inl rfl), ↓dZ_85 hL (Or.inr rfl), ↓dZ_85 hL (nB_01 _), ↓dK_T hL ht, ↓dG_T hL ht, ↓dP_T hL ht, ↓reduceIte, ↓kq_bi, ↓kq_let, ↓kq_rz0, ↓kq_rz1, ↓kq_rzB, ↓Option.bind_some, kq_dvn, kt_lt, kf_lt, kt_eq, kf_eq, decide_true, decide_false, eq_self, Bool.false_eq_true, Bool.true_eq_false, not_true_eq_false, not_false_eq_true, jU_eq, jU_ne, jU_U, jV_eq, jV_ne, jV_V, kn_lit, kn_add, kn_mul, kn_sdm, kn_sub, kn_div, kn_nsdm, kn_lt, kn_eq, kn_pred, kn_m1, kn_m1', kn_a31, kn_shl, kn_shr, kn_bit, nB_0, nB_1, nB_t, nB_f, Nat.zero_add, Nat.add_zero, Nat.reduceAdd, Nat.reduceMul, Nat.reduceSub, Nat.reducePow]
      exact key
    · simp (disch := omega) only [↓dR_85_1 hL, cT_f1 hT, e1, e2, F_SG_needWood_b23, ↓dK_64 hL, ↓dG_64 hL, ↓dP_64 hL, ↓dR_64_2 hL, ↓dK_85 hL, ↓dG_85 hL, ↓dP_85 hL, ↓dZ_85 hL (x := nI 0) (Or.inl rfl), ↓dZ_85 hL (x := nI 1) (Or.inr rfl), ↓dZ_85 hL (Or.inl rfl), ↓dZ_85 hL (Or.inr rfl), ↓dZ_85 hL (nB_01 _), ↓dK_T hL ht, ↓dG_T hL ht, ↓dP_T hL ht, ↓reduceIte, ↓kq_bi, ↓kq_let, ↓kq_rz0, ↓kq_rz1, ↓kq_rzB, ↓Option.bind_some, kq_dvn, kt_lt, kf_lt, kt_eq, kf_eq, decide_true, decide_false, eq_self, Bool.false_eq_true, Bool.true_eq_false, not_true_eq_false, not_false_eq_true, jU_eq, jU_ne, jU_U, jV_eq, jV_ne, jV_V, kn_lit, kn_add, kn_mul, kn_sdm, kn_sub, kn_div, kn_nsdm, kn_lt, kn_eq, kn_pred, kn_m1, kn_m1', kn_a31, kn_shl, kn_shr, kn_bit, nB_0, nB_1, nB_t, nB_f, Nat.zero_add, Nat.add_zero, Nat.reduceAdd, Nat.reduceMul, Nat.reduceSub, Nat.reducePow]
      exact key
  rw [dK_64 hL, e]
  rfl
theorem c_areX (hL : jLay t u l m b c h) (hQ : jQC I t l τ ω r) (hx : ¬ jIn x (2 ^ τ 0 0)) : F_SG_areGates 64 x (jz_I h I) = some (nB false, jz_I h I) := by
  have ht := jLay_t hL
  have hT := hQ.1.1
  have o0 : τ 0 0 ≤ 9 := hQ.1.2.1.1
  have hp := kn_pow (k := τ 0 0) (by omega)
  unfold F_SG_areGates
  rcases jIn_no hp hx with e | ⟨e1, e2⟩
  · simp (disch := omega) only [e, F_SG_areGates_b24, F_SG_areGates_b25, ↓dK_64 hL, ↓dG_64 hL, ↓dP_64 hL, ↓reduceIte, ↓kq_bi, ↓kq_let, ↓kq_rz0, ↓kq_rz1, ↓kq_rzB, ↓Option.bind_some, kq_dvn, kt_lt, kf_lt, kt_eq, kf_eq, decide_true, decide_false, eq_self, Bool.false_eq_true, Bool.true_eq_false, not_true_eq_false, not_false_eq_true, jU_eq, jU_ne, jU_U, jV_eq, jV_ne, jV_V, kn_lit, kn_add, kn_mul, kn_sdm, kn_sub, kn_div, kn_nsdm, kn_lt, kn_eq, kn_pred, kn_m1, kn_m1', kn_a31, kn_shl, kn_shr, kn_bit, nB_0, nB_1, nB_t, nB_f, Nat.zero_add, Nat.add_zero, Nat.reduceAdd, Nat.reduceMul, Nat.reduceSub, Nat.reducePow]
  · simp (disch := omega) only [↓dR_85_1 hL, cT_f0 hT, e1, Nat.one_mul, e2, F_SG_areGates_b24, F_SG_areGates_b25, ↓dK_64 hL, ↓dG_64 hL, ↓dP_64 hL, ↓dR_64_2 hL, ↓dK_85 hL, ↓dG_85 hL, ↓dP_85 hL, ↓dZ_85 hL (x := nI 0) (Or.inl rfl), ↓dZ_85 hL (x := nI 1) (Or.inr rfl), ↓dZ_85 hL (Or.inl rfl), ↓dZ_85 hL (Or.inr rfl), ↓dZ_85 hL (nB_01 _), ↓dK_T hL ht, ↓dG_T hL ht, ↓dP_T hL ht, ↓reduceIte, ↓kq_bi, ↓kq_let, ↓kq_rz0, ↓kq_rz1, ↓kq_rzB, ↓Option.bind_some, kq_dvn, kt_lt, kf_lt, kt_eq, kf_eq, decide_true, decide_false, eq_self, Bool.false_eq_true, Bool.true_eq_false, not_true_eq_false, not_false_eq_true, jU_eq, jU_ne, jU_U, jV_eq, jV_ne, jV_V, kn_lit, kn_add, kn_mul, kn_sdm, kn_sub, kn_div, kn_nsdm, kn_lt, kn_eq, kn_pred, kn_m1, kn_m1', kn_a31, kn_shl, kn_shr, kn_bit, nB_0, nB_1, nB_t, nB_f, Nat.zero_add, Nat.add_zero, Nat.reduceAdd, Nat.reduceMul, Nat.reduceSub, Nat.reducePow]
theorem m_bdF (hL : jLay t u l m b c h) {f i : Nat} (hf1 : 1 ≤ f) (hf3 : f ≤ 3) (hi : i < 2) {K : Int32 → LH → Option (Int32 × LH)} (hK : ∀ g, K (nI 1) g = some (nI 0, g)) : ∃ J, jf_kd (jz_I h (jU I 205 (jV (I 205) 0 (nI 0)))) 205 11 (jf_bi (F_Mod_bad 205 (nI 1) (nI f) (nI i) (jz_I h (jU I 205 (jV (I 205) 0 (nI 0))))) K) = some (nI 0, jz_I h J) ∧ jBd I J f i := by
  have hf' : ¬ nI f = nI 0 := by rw [kn_eq (by omega) (by omega)]; omega
  have e : F_Mod_bad 205 (nI 1) (nI f) (nI i) (jz_I h (jU I 205 (jV (I 205) 0 (nI 0)))) = some (nI 1, jz_I h (jU (jU I 205 (jV (I 205) 0 (nI f))) 207 (jV (I 207) i (I 207 i + nI 1)))) := by
    unfold F_Mod_bad
    simp (disch := omega) only [F_Mod_bad_b26, F_Mod_bad_b38, hf', ↓dK_205 hL, ↓dG_205 hL, ↓dP_205 hL, ↓dZ_205 hL (x := nI 0) (Or.inl rfl), ↓dZ_205 hL (x := nI 1) (Or.inr rfl), ↓dZ_205 hL (Or.inl rfl), ↓dZ_205 hL (Or.inr rfl), ↓dZ_205 hL (nB_01 _), ↓dR_205_10 hL, dI_207 hL, dS_207 hL, ↓reduceIte, ↓kq_bi, ↓kq_let, ↓kq_rz0, ↓kq_rz1, ↓kq_rzB, ↓Option.bind_some, kq_dvn, kt_lt, kf_lt, kt_eq, kf_eq, decide_true, decide_false, eq_self, Bool.false_eq_true, Bool.true_eq_false, not_true_eq_false, not_false_eq_true, jU_eq, jU_ne, jU_U, jV_eq, jV_ne, jV_V, kn_lit, kn_add, kn_mul, kn_sdm, kn_sub, kn_div, kn_nsdm, kn_lt, kn_eq, kn_pred, kn_m1, kn_m1', kn_a31, kn_shl, kn_shr, kn_bit, nB_0, nB_1, nB_t, nB_f, Nat.zero_add, Nat.add_zero, Nat.reduceAdd, Nat.reduceMul, Nat.reduceSub, Nat.reducePow]
  refine ⟨_, by rw [dK_205 hL, e, kq_bi, hK], ?_, ?_, fun k hk => ?_, fun d d1 d2 => ?_⟩
  · simp (disch := omega) only [jU_eq, jU_ne, jV_eq]
  · rw [jU_eq]
  · simp (disch := omega) only [jU_eq, jU_ne, jV_ne]
  · simp (disch := omega) only [jU_ne]
theorem m_gateX (hL : jLay t u l m b c h) (hT : jMT J τ) (ho : jTOK τ) (hx : ¬ jIn x (τ 0 0)) : F_Mod_isGate 205 x (jz_I h J) = some (nB false, jz_I h J) := by
  have o0 : τ 0 0 ≤ 9 := ho.1
  have e := m_inX1 (x := x) (n := τ 0 0) (by omega) hx (jz_I h J)
  unfold F_Mod_isGate
  simp (disch := omega) only [↓dK_205 hL, ↓dG_205 hL, ↓dP_205 hL, ↓dZ_205 hL (x := nI 0) (Or.inl rfl), ↓dZ_205 hL (x := nI 1) (Or.inr rfl), ↓dZ_205 hL (Or.inl rfl), ↓dZ_205 hL (Or.inr rfl), ↓dZ_205 hL (nB_01 _), ↓dR_205_12 hL, dI_209 hL, dS_209 hL, kn_lit, hT.1, e, ↓kq_bi, kq_rzB]
theorem m_woodX (hL : jLay t u l m b c h) (hT : jMT J τ) (ho : jTOK τ) (hx : ¬ jIn x (τ 0 1)) : F_Mod_isWood 205 x (jz_I h J) = some (nB false, jz_I h J) := by
  have o0 : τ 0 1 ≤ 6 := ho.2.1
  have e := m_inX1 (x := x) (n := τ 0 1) (by omega) hx (jz_I h J)
  unfold F_Mod_isWood
  simp (disch := omega) only [↓dK_205 hL, ↓dG_205 hL, ↓dP_205 hL, ↓dZ_205 hL (x := nI 0) (Or.inl rfl), ↓dZ_205 hL (x := nI 1) (Or.inr rfl), ↓dZ_205 hL (Or.inl rfl), ↓dZ_205 hL (Or.inr rfl), ↓dZ_205 hL (nB_01 _), ↓dR_205_12 hL, dI_209 hL, dS_209 hL, kn_lit, hT.1, e, ↓kq_bi, kq_rzB]
theorem m_signalX (hL : jLay t u l m b c h) (hT : jMT J τ) (ho : jTOK τ) (hx : ¬ jIn x (τ 0 3)) : F_Mod_isSignal 205 x (jz_I h J) = some (nB false, jz_I h J) := by
  have o0 : τ 0 3 ≤ 8 := ho.2.2.2.1
  have e := m_inX1 (x := x) (n := τ 0 3) (by omega) hx (jz_I h J)
  unfold F_Mod_isSignal
  simp (disch := omega) only [↓dK_205 hL, ↓dG_205 hL, ↓dP_205 hL, ↓dZ_205 hL (x := nI 0) (Or.inl rfl), ↓dZ_205 hL (x := nI 1) (Or.inr rfl), ↓dZ_205 hL (Or.inl rfl), ↓dZ_205 hL (Or.inr rfl), ↓dZ_205 hL (nB_01 _), ↓dR_205_12 hL, dI_209 hL, dS_209 hL, kn_lit, hT.1, e, ↓kq_bi, kq_rzB]
theorem m_areX (hL : jLay t u l m b c h) (hT : jMT J τ) (ho : jTOK τ) (hx : ¬ jIn x (2 ^ τ 0 0)) : F_Mod_areGates 205 x (jz_I h J) = some (nB false, jz_I h J) := by
  have o0 : τ 0 0 ≤ 9 := ho.1
  have hp := kn_pow (k := τ 0 0) (by omega)
  have e := m_inX1 (x := x) (n := 2 ^ τ 0 0) hp hx (jz_I h J)
  have e2 : nI 1 <<< (nI (τ 0 0) &&& nI 31) = nI (2 ^ τ 0 0) := by rw [kn_a31 _ (by omega), kn_shl (by omega) (by omega), Nat.one_mul]
  unfold F_Mod_areGates
  simp (disch := omega) only [↓dK_205 hL, ↓dG_205 hL, ↓dP_205 hL, ↓dZ_205 hL (x := nI 0) (Or.inl rfl), ↓dZ_205 hL (x := nI 1) (Or.inr rfl), ↓dZ_205 hL (Or.inl rfl), ↓dZ_205 hL (Or.inr rfl), ↓dZ_205 hL (nB_01 _), ↓dR_205_12 hL, dI_209 hL, dS_209 hL, kn_lit, hT.1, e2, e, ↓kq_bi, kq_rzB]
theorem m_daysX1 {y : Int32} (hx : ¬ jRg x 0 16) (g : LH) : F_Mod_areDays x y g = some (nB false, g) := by
  have e := m_inX (x := x) (lo := 0) (hi := 16) (by omega) (by omega) hx g
  unfold F_Mod_areDays F_Mod_areDays_b24 F_Mod_areDays_b25
  simp (disch := omega) only [e, ↓reduceIte, ↓kq_bi, ↓kq_let, ↓kq_rz0, ↓kq_rz1, ↓kq_rzB, ↓Option.bind_some, kq_dvn, kt_lt, kf_lt, kt_eq, kf_eq, decide_true, decide_false, eq_self, Bool.false_eq_true, Bool.true_eq_false, not_true_eq_false, not_false_eq_true, jU_eq, jU_ne, jU_U, jV_eq, jV_ne, jV_V, kn_lit, kn_add, kn_mul, kn_sdm, kn_sub, kn_div, kn_nsdm, kn_lt, kn_eq, kn_pred, kn_m1, kn_m1', kn_a31, kn_shl, kn_shr, kn_bit, nB_0, nB_1, nB_t, nB_f, Nat.zero_add, Nat.add_zero, Nat.reduceAdd, Nat.reduceMul, Nat.reduceSub, Nat.reducePow]
theorem m_daysX2 {n : Nat} (hn : n ≤ 16) (hx : ¬ jRg x 1 96) (g : LH) : F_Mod_areDays (nI n) x g = some (nB false, g) := by
  have e := m_inX (x := x) (lo := 1) (hi := 96) (by omega) (by omega) hx g
  unfold F_Mod_areDays F_Mod_areDays_b24 F_Mod_areDays_b25
  simp (disch := omega) only [m_in1, e, ↓reduceIte, ↓kq_bi, ↓kq_let, ↓kq_rz0, ↓kq_rz1, ↓kq_rzB, ↓Option.bind_some, kq_dvn, kt_lt, kf_lt, kt_eq, kf_eq, decide_true, decide_false, eq_self, Bool.false_eq_true, Bool.true_eq_false, not_true_eq_false, not_false_eq_true, jU_eq, jU_ne, jU_U, jV_eq, jV_ne, jV_V, kn_lit, kn_add, kn_mul, kn_sdm, kn_sub, kn_div, kn_nsdm, kn_lt, kn_eq, kn_pred, kn_m1, kn_m1', kn_a31, kn_shl, kn_shr, kn_bit, nB_0, nB_1, nB_t, nB_f, Nat.zero_add, Nat.add_zero, Nat.reduceAdd, Nat.reduceMul, Nat.reduceSub, Nat.reducePow]
end
section
variable {N : Nat} {A : JA}
theorem jAG_bmp {k : Nat} (hA : jAG N A) : jAG (N + 1) (jBmp k A) := by
  obtain ⟨τ, ω, r, β, H, E, Tp, p, rf, c0, c1⟩ := A
  obtain ⟨a1, a2, a3, a4, a5, a6, a7, a8, a9, a10⟩ := hA
  refine ⟨a1, a2, a3, a4, a5, a6, a7, a8, ?_, ?_⟩
  · show (if k = 0 then c0 + 1 else c0) ≤ N + 1
    split <;> omega
  · show (if k = 0 then c1 else c1 + 1) ≤ N + 1
    split <;> omega
theorem jAG_mono (hA : jAG N A) : jAG (N + 1) A := by
  obtain ⟨τ, ω, r, β, H, E, Tp, p, rf, c0, c1⟩ := A
  obtain ⟨a1, a2, a3, a4, a5, a6, a7, a8, a9, a10⟩ := hA
  exact ⟨a1, a2, a3, a4, a5, a6, a7, a8, Nat.le_succ_of_le a9, Nat.le_succ_of_le a10⟩
/-- a call is done -/
def jDo (cd : Nat → Nat) (Fc : LH → Option JOut) (Fm : LH → Option (Int32 × LH)) (N : Nat) (A : JA) : Prop := ∃ o A', jCall cd Fc Fm A A' o ∧ jAG (N + 1) A' ∧ ∀ k, o = .inr k → k < 2 ∧ ¬ cd k = 0
/-- refusals that a call can have: of an argument alone, both, of an element alone -/
def cdI (k : Nat) : Nat := k
def cdB (k : Nat) : Nat := k + 1
def cdE (k : Nat) : Nat := 1 - k
theorem jDo_b {cd : Nat → Nat} {Fc : LH → Option JOut} {Fm : LH → Option (Int32 × LH)} {k : Nat} (hk : k < 2) (hc0 : ¬ cd k = 0) (hA : jAG N A) (hc : ∀ t u l m b c h I, jLay t u l m b c h → jCC h I t l b A → Fc (jz_I h I) = some (.inr k, jl_junk (jz_I h (jU I 64 (jV (I 64) (16 + k) (I 64 (16 + k) + nI 1)))) 6)) (hm : ∀ t u l m b c h I, jLay t u l m b c h → jMM I A → ∃ J, Fm (jz_I h I) = some (nI 0, jz_I h J) ∧ jBd I J (cd k) k) : jDo cd Fc Fm N A := by
  obtain ⟨τ, ω, r, β, H, E, Tp, p, rf, c0, c1⟩ := A
  exact ⟨.inr k, _, jCall_b hk hA hc hm, jAG_bmp hA, fun k' e => by cases e; exact ⟨hk, hc0⟩⟩
theorem jDo_q {cd : Nat → Nat} {Fc : LH → Option JOut} {Fm : LH → Option (Int32 × LH)} {v : Int32} {τ : JTn} {ω : JLw} {r : JRw} {β : JBk} {H : JHs} {E : JIm} {Tp : Nat × (Nat → Nat)} {p : Int32} {rf c0 c1 : Nat} (hA : jAG N (τ, ω, r, β, H, E, Tp, p, rf, c0, c1)) (hc : ∀ t u l m b c h I, jLay t u l m b c h → jCC h I t l b (τ, ω, r, β, H, E, Tp, p, rf, c0, c1) → ∃ J, Fc (jz_I h I) = some (jo_i (v, jz_I h J)) ∧ jCS J 85 τ false r ∧ jCF l b I J) (hm : ∀ t u l m b c h I, jLay t u l m b c h → jMM I (τ, ω, r, β, H, E, Tp, p, rf, c0, c1) → ∃ J, Fm (jz_I h I) = some (v, jz_I h J) ∧ jN I J) : jDo cd Fc Fm N (τ, ω, r, β, H, E, Tp, p, rf, c0, c1) := ⟨.inl v, _, jCall_q hA hc hm, jAG_mono hA, fun k e => by cases e⟩
end

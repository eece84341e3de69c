/-! PLAIN LEAN, 16: shut, thief, thickest, turned, ahead -/
def s_shut (τ : JTn) (ω : JLw) (r : JRw) (g n : Nat) : Nat := s_bits (fun k => s_sh τ ω false (s_hrs τ ω r k) g) n
/-- thief: gates within reach that are open -/
def s_rnd (τ : JTn) (g x : Nat) : Nat := if (if g < x then x - g else g - x) < τ 0 0 - (if g < x then x - g else g - x) then (if g < x then x - g else g - x) else τ 0 0 - (if g < x then x - g else g - x)
def s_thp (τ : JTn) (ω : JLw) (q : JRw) (g k x : Nat) : Bool := decide (s_rnd τ g x ≤ k) && !(s_sh τ ω false q x)
def s_thg (τ : JTn) (ω : JLw) (r : JRw) (g k : Nat) : Option Nat := s_fst (s_thp τ ω (s_hrs τ ω r k) g k) (τ 0 0)
def s_thf (τ : JTn) (ω : JLw) (r : JRw) (g : Nat) : Option Nat := s_fst (fun k => (s_thg τ ω r g k).isSome) 48
def s_thief (τ : JTn) (ω : JLw) (r : JRw) (g : Nat) (w : Bool) : Option Nat := (s_thf τ ω r g).bind (fun k => if w = true then s_thg τ ω r g k else some k)
def s_shs (τ : JTn) (ω : JLw) (q : JRw) : Nat := s_cnt (s_sh τ ω false q) (τ 0 0)
/-- the first of the most -/
def s_thk (τ : JTn) (ω : JLw) (r : JRw) : Nat := s_arg (fun k => s_shs τ ω (s_hrs τ ω r k)) 48
def s_thick (τ : JTn) (ω : JLw) (r : JRw) (w : Bool) : Nat := if w = true then s_shs τ ω (s_hrs τ ω r (s_thk τ ω r)) else s_thk τ ω r
def s_trn (τ : JTn) (ω : JLw) (r : JRw) (n : Nat) : Nat := s_bits (fun c => decide (s_hrs τ ω r n (123 + c) = 2 ∧ r (123 + c) = 0)) (τ 0 2)
def s_ahead (τ : JTn) (ω : JLw) (r : JRw) (n w : Nat) : Nat := if w = 2 then s_store τ (s_hrs τ ω r n) else s_came τ (s_hrs τ ω r n) (w + 1)
/-- who has come has come before -/
def jCm (τ : JTn) (r : JRw) : Prop := ∀ c, c < τ 0 2 → ¬ r (123 + c) = 0 → τ 10 c < r 133
section
variable {t u l m b c : Nat} {h : LH} {I J K : Nat → Nat → Int32} {τ : JTn} {r q : JRw} {σ ρ i : Nat} {Q : Type} {x : Int32} {d : Bool} {ω : JLw} {f : Nat → Int32}
theorem c_shut (hL : jLay t u l m b c h) (hQ : jQC I t l τ ω r) {g N : Nat} (hg : g < τ 0 0) (hN : N ≤ 30) : ∃ J, F_SG_shut 64 (nI g) (nI N) (jz_I h I) = some (jo_i (nI (s_shut τ ω r g N), jz_I h J)) ∧ jSc l 90 I J := by
  have ho := hQ.1.2.1
  refine jE_o (fun P hP => ?_)
  unfold F_SG_shut
  simp (disch := omega) only [c_needGate hL hQ.1.1 ho hg, kq_th, F_SG_shut_b21, c_need1, ↓dK_64 hL, ↓dG_64 hL, ↓dP_64 hL, ↓reduceIte, ↓kq_bi, ↓kq_let, ↓kq_rz0, ↓kq_rz1, ↓kq_rzB, ↓Option.bind_some, kq_dvn, kt_lt, kf_lt, kt_eq, kf_eq, decide_true, decide_false, eq_self, Bool.false_eq_true, Bool.true_eq_false, not_true_eq_false, not_false_eq_true, jU_eq, jU_ne, jU_U, jV_eq, jV_ne, jV_V, kn_lit, kn_add, kn_mul, kn_sdm, kn_sub, kn_div, kn_nsdm, kn_lt, kn_eq, kn_pred, kn_m1, kn_m1', kn_a31, kn_shl, kn_shr, kn_bit, nB_0, nB_1, nB_t, nB_f, Nat.zero_add, Nat.add_zero, Nat.reduceAdd, Nat.reduceMul, Nat.reduceSub, Nat.reducePow]
  refine jW_bn (c_trial hL hQ) (fun J hJ => ?_)
  refine jW_for0 (f := fun fuel k (J : Nat → Nat → Int32) => F_SG_shut_l33 fuel 64 (nI g) (nI N) (nI (s_shut τ ω r g k)) (nI k) (jz_I h J)) N (fun k J => (jSc l 90 I J ∧ jCS J 90 τ false (s_hrs τ ω r k))) J hJ (by omega) (fun n k J hk hV ih => ?_) (fun n J hV => ?_)
  · obtain ⟨v1, v2⟩ := hV
    obtain ⟨hq, -⟩ := s_hrs_ok (ω := ω) ho hQ.2.2.1 hQ.2.2.2 k (by omega)
    have hp := kn_pow (k := k) (by omega)
    show jW (F_SG_shut_c33 (F_SG_shut_l33 n) 64 (nI g) (nI N) (nI (s_shut τ ω r g k)) (nI k) (jz_I h J)) P
    unfold F_SG_shut_c33
    simp (disch := omega) only [↓dK_64 hL, ↓dG_64 hL, ↓dP_64 hL, ↓dR_64_3 hL, ↓dR_95_0 hL, ↓dR_102_0 hL, ↓dR_105_0 hL, ↓dK_90 hL, ↓dG_90 hL, ↓dP_90 hL, ↓dZ_90 hL (x := nI 0) (Or.inl rfl), ↓dZ_90 hL (x := nI 1) (Or.inr rfl), ↓dZ_90 hL (Or.inl rfl), ↓dZ_90 hL (Or.inr rfl), ↓dZ_90 hL (nB_01 _), ↓reduceIte, ↓kq_bi, ↓kq_let, ↓kq_rz0, ↓kq_rz1, ↓kq_rzB, ↓Option.bind_some, kq_dvn, kt_lt, kf_lt, kt_eq, kf_eq, decide_true, decide_false, eq_self, Bool.false_eq_true, Bool.true_eq_false, not_true_eq_false, not_false_eq_true, jU_eq, jU_ne, jU_U, jV_eq, jV_ne, jV_V, kn_lit, kn_add, kn_mul, kn_sdm, kn_sub, kn_div, kn_nsdm, kn_lt, kn_eq, kn_pred, kn_m1, kn_m1', kn_a31, kn_shl, kn_shr, kn_bit, nB_0, nB_1, nB_t, nB_f, Nat.zero_add, Nat.add_zero, Nat.reduceAdd, Nat.reduceMul, Nat.reduceSub, Nat.reducePow]
    refine jW_bi (c_shutT hL hQ v1 v2 hq hg) (fun J2 hJ2 => ?_)
    have go : jW ((F_Scene_pass 90 (jz_I h J2)).bind fun h2 => F_SG_shut_l33 n 64 (nI g) (nI N) (nI (s_shut τ ω r g k ||| (if s_sh τ ω false (s_hrs τ ω r k) g = true then 2 ^ k else 0))) (nI (k + 1)) h2) P := jW_bn (c_hourT hL hQ hJ2.1 hJ2.2 hq) (fun J3 hJ3 => ih _ hJ3)
    cases hb : s_sh τ ω false (s_hrs τ ω r k) g
    · rw [hb] at go
      simp (disch := omega) only [F_SG_shut_b57, ↓dK_64 hL, ↓dG_64 hL, ↓dP_64 hL, ↓dR_64_3 hL, ↓dR_95_0 hL, ↓dR_102_0 hL, ↓dR_105_0 hL, ↓dK_90 hL, ↓dG_90 hL, ↓dP_90 hL, ↓dZ_90 hL (x := nI 0) (Or.inl rfl), ↓dZ_90 hL (x := nI 1) (Or.inr rfl), ↓dZ_90 hL (Or.inl rfl), ↓dZ_90 hL (Or.inr rfl), ↓dZ_90 hL (nB_01 _), ↓reduceIte, ↓kq_bi, ↓kq_let, ↓kq_rz0, ↓kq_rz1, ↓kq_rzB, ↓Option.bind_some, kq_dvn, kt_lt, kf_lt, kt_eq, kf_eq, decide_true, decide_false, eq_self, Bool.false_eq_true, Bool.true_eq_false, not_true_eq_false, not_false_eq_true, jU_eq, jU_ne, jU_U, jV_eq, jV_ne, jV_V, kn_lit, kn_add, kn_mul, kn_sdm, kn_sub, kn_div, kn_nsdm, kn_lt, kn_eq, kn_pred, kn_m1, kn_m1', kn_a31, kn_shl, kn_shr, kn_bit, nB_0, nB_1, nB_t, nB_f, Nat.zero_add, Nat.add_zero, Nat.reduceAdd, Nat.reduceMul, Nat.reduceSub, Nat.reducePow]
      rw [if_neg (by decide), Nat.or_zero] at go
      exact go
    · rw [hb] at go
      simp (disch := omega) only [F_SG_shut_b57, kn_or, Nat.one_mul, ↓dK_64 hL, ↓dG_64 hL, ↓dP_64 hL, ↓dR_64_3 hL, ↓dR_95_0 hL, ↓dR_102_0 hL, ↓dR_105_0 hL, ↓dK_90 hL, ↓dG_90 hL, ↓dP_90 hL, ↓dZ_90 hL (x := nI 0) (Or.inl rfl), ↓dZ_90 hL (x := nI 1) (Or.inr rfl), ↓dZ_90 hL (Or.inl rfl), ↓dZ_90 hL (Or.inr rfl), ↓dZ_90 hL (nB_01 _), ↓reduceIte, ↓kq_bi, ↓kq_let, ↓kq_rz0, ↓kq_rz1, ↓kq_rzB, ↓Option.bind_some, kq_dvn, kt_lt, kf_lt, kt_eq, kf_eq, decide_true, decide_false, eq_self, Bool.false_eq_true, Bool.true_eq_false, not_true_eq_false, not_false_eq_true, jU_eq, jU_ne, jU_U, jV_eq, jV_ne, jV_V, kn_lit, kn_add, kn_mul, kn_sdm, kn_sub, kn_div, kn_nsdm, kn_lt, kn_eq, kn_pred, kn_m1, kn_m1', kn_a31, kn_shl, kn_shr, kn_bit, nB_0, nB_1, nB_t, nB_f, Nat.zero_add, Nat.add_zero, Nat.reduceAdd, Nat.reduceMul, Nat.reduceSub, Nat.reducePow]
      exact go
  · show jW (F_SG_shut_c33 (F_SG_shut_l33 n) 64 (nI g) (nI N) (nI (s_shut τ ω r g N)) (nI N) (jz_I h J)) P
    unfold F_SG_shut_c33
    simp (disch := omega) only [↓dK_64 hL, ↓dG_64 hL, ↓dP_64 hL, ↓dR_64_3 hL, ↓dR_95_0 hL, ↓dR_102_0 hL, ↓dR_105_0 hL, ↓dK_90 hL, ↓dG_90 hL, ↓dP_90 hL, ↓dZ_90 hL (x := nI 0) (Or.inl rfl), ↓dZ_90 hL (x := nI 1) (Or.inr rfl), ↓dZ_90 hL (Or.inl rfl), ↓dZ_90 hL (Or.inr rfl), ↓dZ_90 hL (nB_01 _), ↓reduceIte, ↓kq_bi, ↓kq_let, ↓kq_rz0, ↓kq_rz1, ↓kq_rzB, ↓Option.bind_some, kq_dvn, kt_lt, kf_lt, kt_eq, kf_eq, decide_true, decide_false, eq_self, Bool.false_eq_true, Bool.true_eq_false, not_true_eq_false, not_false_eq_true, jU_eq, jU_ne, jU_U, jV_eq, jV_ne, jV_V, kn_lit, kn_add, kn_mul, kn_sdm, kn_sub, kn_div, kn_nsdm, kn_lt, kn_eq, kn_pred, kn_m1, kn_m1', kn_a31, kn_shl, kn_shr, kn_bit, nB_0, nB_1, nB_t, nB_f, Nat.zero_add, Nat.add_zero, Nat.reduceAdd, Nat.reduceMul, Nat.reduceSub, Nat.reducePow]
    exact jW_s (hP J hV.1)
theorem m_shut (hL : jLay t u l m b c h) (hQ : jQM I τ ω r) {g N : Nat} (hg : g < τ 0 0) (hN : N ≤ 30) : ∃ J, F_Mod_shut 205 (nI g) (nI N) (jz_I h I) = some (nI (s_shut τ ω r g N), jz_I h J) ∧ jN I J := by
  have ho := hQ.1.2.1
  refine jE_i (fun P hP => ?_)
  have N0 := jN_0 hQ
  have hQ0 := jN_QM N0 hQ
  unfold F_Mod_shut
  simp (disch := omega) only [m_isGate hL hQ0.1.1 ho hg, m_bad0 hL N0.2.2.2, m_in1, F_Mod_shut_b19, F_Mod_shut_b43, ↓dK_205 hL, ↓dG_205 hL, ↓dP_205 hL, ↓dZ_205 hL (x := nI 0) (Or.inl rfl), ↓dZ_205 hL (x := nI 1) (Or.inr rfl), ↓dZ_205 hL (Or.inl rfl), ↓dZ_205 hL (Or.inr rfl), ↓dZ_205 hL (nB_01 _), ↓reduceIte, ↓kq_bi, ↓kq_let, ↓kq_rz0, ↓kq_rz1, ↓kq_rzB, ↓Option.bind_some, kq_dvn, kt_lt, kf_lt, kt_eq, kf_eq, decide_true, decide_false, eq_self, Bool.false_eq_true, Bool.true_eq_false, not_true_eq_false, not_false_eq_true, jU_eq, jU_ne, jU_U, jV_eq, jV_ne, jV_V, kn_lit, kn_add, kn_mul, kn_sdm, kn_sub, kn_div, kn_nsdm, kn_lt, kn_eq, kn_pred, kn_m1, kn_m1', kn_a31, kn_shl, kn_shr, kn_bit, nB_0, nB_1, nB_t, nB_f, Nat.zero_add, Nat.add_zero, Nat.reduceAdd, Nat.reduceMul, Nat.reduceSub, Nat.reducePow]
  refine jW_bn (m_trial hL hQ N0) (fun J hJ => ?_)
  refine jW_for0 (f := fun fuel k (J : Nat → Nat → Int32) => F_Mod_shut_l62 fuel 205 (nI g) (nI N) (nI (s_shut τ ω r g k)) (nI k) (jz_I h J)) N (fun k J => (jN I J ∧ jMR J 692 (s_hrs τ ω r k))) J hJ (by omega) (fun n k J hk hV ih => ?_) (fun n J hV => ?_)
  · obtain ⟨v1, v2⟩ := hV
    obtain ⟨hq, -⟩ := s_hrs_ok (ω := ω) ho hQ.2.2.1 hQ.2.2.2 k (by omega)
    have hp := kn_pow (k := k) (by omega)
    show jW (F_Mod_shut_c62 (F_Mod_shut_l62 n) 205 (nI g) (nI N) (nI (s_shut τ ω r g k)) (nI k) (jz_I h J)) P
    unfold F_Mod_shut_c62
    simp (disch := omega) only [↓dK_205 hL, ↓dG_205 hL, ↓dP_205 hL, ↓dZ_205 hL (x := nI 0) (Or.inl rfl), ↓dZ_205 hL (x := nI 1) (Or.inr rfl), ↓dZ_205 hL (Or.inl rfl), ↓dZ_205 hL (Or.inr rfl), ↓dZ_205 hL (nB_01 _), ↓dR_205_36 hL, dI_692 hL, dS_692 hL, ↓reduceIte, ↓kq_bi, ↓kq_let, ↓kq_rz0, ↓kq_rz1, ↓kq_rzB, ↓Option.bind_some, kq_dvn, kt_lt, kf_lt, kt_eq, kf_eq, decide_true, decide_false, eq_self, Bool.false_eq_true, Bool.true_eq_false, not_true_eq_false, not_false_eq_true, jU_eq, jU_ne, jU_U, jV_eq, jV_ne, jV_V, kn_lit, kn_add, kn_mul, kn_sdm, kn_sub, kn_div, kn_nsdm, kn_lt, kn_eq, kn_pred, kn_m1, kn_m1', kn_a31, kn_shl, kn_shr, kn_bit, nB_0, nB_1, nB_t, nB_f, Nat.zero_add, Nat.add_zero, Nat.reduceAdd, Nat.reduceMul, Nat.reduceSub, Nat.reducePow]
    refine jW_bi (m_shutT hL hQ v1 v2 hq hg) (fun J2 hJ2 => ?_)
    have go : jW ((F_Mod_hourEnds 205 692 (jz_I h J2)).bind fun h2 => F_Mod_shut_l62 n 205 (nI g) (nI N) (nI (s_shut τ ω r g k ||| (if s_sh τ ω false (s_hrs τ ω r k) g = true then 2 ^ k else 0))) (nI (k + 1)) h2) P := jW_bn (m_hourT hL hQ hJ2.1 hJ2.2 hq) (fun J3 hJ3 => ih _ hJ3)
    cases hb : s_sh τ ω false (s_hrs τ ω r k) g
    · rw [hb] at go
      simp (disch := omega) only [F_Mod_shut_b89, kn_or, ↓dK_205 hL, ↓dG_205 hL, ↓dP_205 hL, ↓dZ_205 hL (x := nI 0) (Or.inl rfl), ↓dZ_205 hL (x := nI 1) (Or.inr rfl), ↓dZ_205 hL (Or.inl rfl), ↓dZ_205 hL (Or.inr rfl), ↓dZ_205 hL (nB_01 _), ↓dR_205_36 hL, dI_692 hL, dS_692 hL, ↓reduceIte, ↓kq_bi, ↓kq_let, ↓kq_rz0, ↓kq_rz1, ↓kq_rzB, ↓Option.bind_some, kq_dvn, kt_lt, kf_lt, kt_eq, kf_eq, decide_true, decide_false, eq_self, Bool.false_eq_true, Bool.true_eq_false, not_true_eq_false, not_false_eq_true, jU_eq, jU_ne, jU_U, jV_eq, jV_ne, jV_V, kn_lit, kn_add, kn_mul, kn_sdm, kn_sub, kn_div, kn_nsdm, kn_lt, kn_eq, kn_pred, kn_m1, kn_m1', kn_a31, kn_shl, kn_shr, kn_bit, nB_0, nB_1, nB_t, nB_f, Nat.zero_add, Nat.add_zero, Nat.reduceAdd, Nat.reduceMul, Nat.reduceSub, Nat.reducePow]
      exact go
    · rw [hb] at go
      simp (disch := omega) only [F_Mod_shut_b89, kn_or, Nat.one_mul, ↓dK_205 hL, ↓dG_205 hL, ↓dP_205 hL, ↓dZ_205 hL (x := nI 0) (Or.inl rfl), ↓dZ_205 hL (x := nI 1) (Or.inr rfl), ↓dZ_205 hL (Or.inl rfl), ↓dZ_205 hL (Or.inr rfl), ↓dZ_205 hL (nB_01 _), ↓dR_205_36 hL, dI_692 hL, dS_692 hL, ↓reduceIte, ↓kq_bi, ↓kq_let, ↓kq_rz0, ↓kq_rz1, ↓kq_rzB, ↓Option.bind_some, kq_dvn, kt_lt, kf_lt, kt_eq, kf_eq, decide_true, decide_false, eq_self, Bool.false_eq_true, Bool.true_eq_false, not_true_eq_false, not_false_eq_true, jU_eq, jU_ne, jU_U, jV_eq, jV_ne, jV_V, kn_lit, kn_add, kn_mul, kn_sdm, kn_sub, kn_div, kn_nsdm, kn_lt, kn_eq, kn_pred, kn_m1, kn_m1', kn_a31, kn_shl, kn_shr, kn_bit, nB_0, nB_1, nB_t, nB_f, Nat.zero_add, Nat.add_zero, Nat.reduceAdd, Nat.reduceMul, Nat.reduceSub, Nat.reducePow]
      exact go
  · show jW (F_Mod_shut_c62 (F_Mod_shut_l62 n) 205 (nI g) (nI N) (nI (s_shut τ ω r g N)) (nI N) (jz_I h J)) P
    unfold F_Mod_shut_c62
    simp (disch := omega) only [↓dK_205 hL, ↓dG_205 hL, ↓dP_205 hL, ↓dZ_205 hL (x := nI 0) (Or.inl rfl), ↓dZ_205 hL (x := nI 1) (Or.inr rfl), ↓dZ_205 hL (Or.inl rfl), ↓dZ_205 hL (Or.inr rfl), ↓dZ_205 hL (nB_01 _), ↓reduceIte, ↓kq_bi, ↓kq_let, ↓kq_rz0, ↓kq_rz1, ↓kq_rzB, ↓Option.bind_some, kq_dvn, kt_lt, kf_lt, kt_eq, kf_eq, decide_true, decide_false, eq_self, Bool.false_eq_true, Bool.true_eq_false, not_true_eq_false, not_false_eq_true, jU_eq, jU_ne, jU_U, jV_eq, jV_ne, jV_V, kn_lit, kn_add, kn_mul, kn_sdm, kn_sub, kn_div, kn_nsdm, kn_lt, kn_eq, kn_pred, kn_m1, kn_m1', kn_a31, kn_shl, kn_shr, kn_bit, nB_0, nB_1, nB_t, nB_f, Nat.zero_add, Nat.add_zero, Nat.reduceAdd, Nat.reduceMul, Nat.reduceSub, Nat.reducePow]
    exact jW_s (hP J hV.1)
theorem c_within (hL : jLay t u l m b c h) (hQ : jQC I t l τ ω r) (hS : jSc l 90 I J) (hJ : jCS J 90 τ false q) (hq : jROK τ q) {g k : Nat} (hg : g < τ 0 0) (hk : k < 100) : ∃ K, F_SG_openGateWithin 64 (nI g) (nI k) (jz_I h J) = some (nO (s_fst (s_thp τ ω q g k) (τ 0 0)), jz_I h K) ∧ jSc l 90 I K ∧ jCS K 90 τ false q := by
  have ht := jLay_t hL
  have ho := hQ.1.2.1
  have o0 : τ 0 0 ≤ 9 := ho.1
  refine jE_i (fun P hP => ?_)
  unfold F_SG_openGateWithin
  simp (disch := omega) only [↓dR_85_1 hL, cT_f0 (jCE_Sc hL (Or.inr rfl) hS hQ.1).1, ↓dK_64 hL, ↓dG_64 hL, ↓dP_64 hL, ↓dR_64_2 hL, ↓dK_85 hL, ↓dG_85 hL, ↓dP_85 hL, ↓dZ_85 hL (x := nI 0) (Or.inl rfl), ↓dZ_85 hL (x := nI 1) (Or.inr rfl), ↓dZ_85 hL (Or.inl rfl), ↓dZ_85 hL (Or.inr rfl), ↓dZ_85 hL (nB_01 _), ↓dK_T hL ht, ↓dG_T hL ht, ↓dP_T hL ht, ↓reduceIte, ↓kq_bi, ↓kq_let, ↓kq_rz0, ↓kq_rz1, ↓kq_rzB, ↓Option.bind_some, kq_dvn, kt_lt, kf_lt, kt_eq, kf_eq, decide_true, decide_false, eq_self, Bool.false_eq_true, Bool.true_eq_false, not_true_eq_false, not_false_eq_true, jU_eq, jU_ne, jU_U, jV_eq, jV_ne, jV_V, kn_lit, kn_add, kn_mul, kn_sdm, kn_sub, kn_div, kn_nsdm, kn_lt, kn_eq, kn_pred, kn_m1, kn_m1', kn_a31, kn_shl, kn_shr, kn_bit, nB_0, nB_1, nB_t, nB_f, Nat.zero_add, Nat.add_zero, Nat.reduceAdd, Nat.reduceMul, Nat.reduceSub, Nat.reducePow]
  refine jW_for0 (f := fun fuel x (J : Nat → Nat → Int32) => F_SG_openGateWithin_l14 fuel 64 (nI g) (nI k) (nI (τ 0 0)) (nI x) (jz_I h J)) (τ 0 0) (fun x J => (jSc l 90 I J ∧ jCS J 90 τ false q) ∧ s_fst (s_thp τ ω q g k) x = none) J ⟨⟨hS, hJ⟩, rfl⟩ (by omega) (fun n x J hx hV ih => ?_) (fun n J hV => ?_)
  · obtain ⟨⟨v1, v2⟩, v3⟩ := hV
    show jW (F_SG_openGateWithin_c14 (F_SG_openGateWithin_l14 n) 64 (nI g) (nI k) (nI (τ 0 0)) (nI x) (jz_I h J)) P
    unfold F_SG_openGateWithin_c14
    have e1 : (if (0 : Int32) ≤ nI x - nI g then nI x - nI g else 0 - (nI x - nI g)) = nI (if g < x then x - g else g - x) := by
      by_cases hgx : g < x
      · rw [if_pos hgx, kn_sub (by omega), if_pos (by rw [kn_lit, kn_le (by omega) (by omega)]; exact Nat.zero_le _)]
      · rw [if_neg hgx]
        by_cases he : g = x
        · subst he; rw [kn_sub (Nat.le_refl _), Nat.sub_self, if_pos (by decide)]
        · have e2 : nI x - nI g = -nI (g - x) := by rw [← kn_sub (show x ≤ g by omega), Int32.neg_sub]
          rw [e2, if_neg (by rw [Int32.not_le, kn_lit, kn_nltp (by omega) (by omega) (by decide)]; trivial)]
          rw [Int32.sub_neg, kn_lit, kn_add, Nat.zero_add]
    have hd1 : (if g < x then x - g else g - x) < 9 := by split <;> omega
    have e3 : s_rnd τ g x = if (if g < x then x - g else g - x) < τ 0 0 - (if g < x then x - g else g - x) then (if g < x then x - g else g - x) else τ 0 0 - (if g < x then x - g else g - x) := rfl
    generalize hd : (if g < x then x - g else g - x) = dd at e1 hd1 e3
    have hdle : dd ≤ τ 0 0 := by rw [← hd]; split <;> omega
    have e4 : (if τ 0 0 - dd < dd then nI (τ 0 0 - dd) else nI dd) = nI (s_rnd τ g x) := by
      rw [e3]
      by_cases h2 : τ 0 0 - dd < dd
      · rw [if_pos h2, if_neg (by omega)]
      · rw [if_neg h2]
        by_cases h1 : dd < τ 0 0 - dd
        · rw [if_pos h1]
        · rw [if_neg h1]; congr 1; omega
    have hr9 : s_rnd τ g x < 100 := by rw [e3]; split <;> omega
    simp (disch := omega) only [↓e1, ↓reduceIte, ↓kq_bi, ↓kq_let, ↓kq_rz0, ↓kq_rz1, ↓kq_rzB, ↓Option.bind_some, kq_dvn, kt_lt, kf_lt, kt_eq, kf_eq, decide_true, decide_false, eq_self, Bool.false_eq_true, Bool.true_eq_false, not_true_eq_false, not_false_eq_true, jU_eq, jU_ne, jU_U, jV_eq, jV_ne, jV_V, kn_lit, kn_add, kn_mul, kn_sdm, kn_sub, kn_div, kn_nsdm, kn_lt, kn_eq, kn_pred, kn_m1, kn_m1', kn_a31, kn_shl, kn_shr, kn_bit, nB_0, nB_1, nB_t, nB_f, Nat.zero_add, Nat.add_zero, Nat.reduceAdd, Nat.reduceMul, Nat.reduceSub, Nat.reducePow]
    simp only [e4]
    by_cases hc : k < s_rnd τ g x
    · have hp : s_thp τ ω q g k x = false := by unfold s_thp; rw [decide_eq_false (by omega)]; rfl
      simp (disch := omega) only [F_SG_openGateWithin_b57, ↓reduceIte, ↓kq_bi, ↓kq_let, ↓kq_rz0, ↓kq_rz1, ↓kq_rzB, ↓Option.bind_some, kq_dvn, kt_lt, kf_lt, kt_eq, kf_eq, decide_true, decide_false, eq_self, Bool.false_eq_true, Bool.true_eq_false, not_true_eq_false, not_false_eq_true, jU_eq, jU_ne, jU_U, jV_eq, jV_ne, jV_V, kn_lit, kn_add, kn_mul, kn_sdm, kn_sub, kn_div, kn_nsdm, kn_lt, kn_eq, kn_pred, kn_m1, kn_m1', kn_a31, kn_shl, kn_shr, kn_bit, nB_0, nB_1, nB_t, nB_f, Nat.zero_add, Nat.add_zero, Nat.reduceAdd, Nat.reduceMul, Nat.reduceSub, Nat.reducePow]
      exact ih _ ⟨⟨v1, v2⟩, s_fst_miss v3 hp⟩
    · simp (disch := omega) only [↓dK_64 hL, ↓dG_64 hL, ↓dP_64 hL, ↓dR_64_3 hL, ↓dR_95_0 hL, ↓dR_102_0 hL, ↓dR_105_0 hL, ↓dK_90 hL, ↓dG_90 hL, ↓dP_90 hL, ↓dZ_90 hL (x := nI 0) (Or.inl rfl), ↓dZ_90 hL (x := nI 1) (Or.inr rfl), ↓dZ_90 hL (Or.inl rfl), ↓dZ_90 hL (Or.inr rfl), ↓dZ_90 hL (nB_01 _), ↓reduceIte, ↓kq_bi, ↓kq_let, ↓kq_rz0, ↓kq_rz1, ↓kq_rzB, ↓Option.bind_some, kq_dvn, kt_lt, kf_lt, kt_eq, kf_eq, decide_true, decide_false, eq_self, Bool.false_eq_true, Bool.true_eq_false, not_true_eq_false, not_false_eq_true, jU_eq, jU_ne, jU_U, jV_eq, jV_ne, jV_V, kn_lit, kn_add, kn_mul, kn_sdm, kn_sub, kn_div, kn_nsdm, kn_lt, kn_eq, kn_pred, kn_m1, kn_m1', kn_a31, kn_shl, kn_shr, kn_bit, nB_0, nB_1, nB_t, nB_f, Nat.zero_add, Nat.add_zero, Nat.reduceAdd, Nat.reduceMul, Nat.reduceSub, Nat.reducePow]
      refine jW_bi (c_shutT hL hQ v1 v2 hq hx) (fun J2 hJ2 => ?_)
      cases hb : s_sh τ ω false q x
      · have hp : s_thp τ ω q g k x = true := by unfold s_thp; rw [decide_eq_true (by omega), hb]; rfl
        have go := hP J2 hJ2
        rw [s_fst_hit v3 hp hx] at go
        simp (disch := omega) only [↓reduceIte, ↓kq_bi, ↓kq_let, ↓kq_rz0, ↓kq_rz1, ↓kq_rzB, ↓Option.bind_some, kq_dvn, kt_lt, kf_lt, kt_eq, kf_eq, decide_true, decide_false, eq_self, Bool.false_eq_true, Bool.true_eq_false, not_true_eq_false, not_false_eq_true, jU_eq, jU_ne, jU_U, jV_eq, jV_ne, jV_V, kn_lit, kn_add, kn_mul, kn_sdm, kn_sub, kn_div, kn_nsdm, kn_lt, kn_eq, kn_pred, kn_m1, kn_m1', kn_a31, kn_shl, kn_shr, kn_bit, nB_0, nB_1, nB_t, nB_f, Nat.zero_add, Nat.add_zero, Nat.reduceAdd, Nat.reduceMul, Nat.reduceSub, Nat.reducePow]
        exact jW_s go
      · have hp : s_thp τ ω q g k x = false := by unfold s_thp; rw [decide_eq_true (by omega), hb]; rfl
        simp (disch := omega) only [F_SG_openGateWithin_b57, ↓reduceIte, ↓kq_bi, ↓kq_let, ↓kq_rz0, ↓kq_rz1, ↓kq_rzB, ↓Option.bind_some, kq_dvn, kt_lt, kf_lt, kt_eq, kf_eq, decide_true, decide_false, eq_self, Bool.false_eq_true, Bool.true_eq_false, not_true_eq_false, not_false_eq_true, jU_eq, jU_ne, jU_U, jV_eq, jV_ne, jV_V, kn_lit, kn_add, kn_mul, kn_sdm, kn_sub, kn_div, kn_nsdm, kn_lt, kn_eq, kn_pred, kn_m1, kn_m1', kn_a31, kn_shl, kn_shr, kn_bit, nB_0, nB_1, nB_t, nB_f, Nat.zero_add, Nat.add_zero, Nat.reduceAdd, Nat.reduceMul, Nat.reduceSub, Nat.reducePow]
        exact ih _ ⟨hJ2, s_fst_miss v3 hp⟩
  · show jW (F_SG_openGateWithin_c14 (F_SG_openGateWithin_l14 n) 64 (nI g) (nI k) (nI (τ 0 0)) (nI (τ 0 0)) (jz_I h J)) P
    unfold F_SG_openGateWithin_c14
    simp (disch := omega) only [↓reduceIte, ↓kq_bi, ↓kq_let, ↓kq_rz0, ↓kq_rz1, ↓kq_rzB, ↓Option.bind_some, kq_dvn, kt_lt, kf_lt, kt_eq, kf_eq, decide_true, decide_false, eq_self, Bool.false_eq_true, Bool.true_eq_false, not_true_eq_false, not_false_eq_true, jU_eq, jU_ne, jU_U, jV_eq, jV_ne, jV_V, kn_lit, kn_add, kn_mul, kn_sdm, kn_sub, kn_div, kn_nsdm, kn_lt, kn_eq, kn_pred, kn_m1, kn_m1', kn_a31, kn_shl, kn_shr, kn_bit, nB_0, nB_1, nB_t, nB_f, Nat.zero_add, Nat.add_zero, Nat.reduceAdd, Nat.reduceMul, Nat.reduceSub, Nat.reducePow]
    have go := hP J hV.1
    rw [hV.2] at go
    exact jW_s go
theorem c_thief (hL : jLay t u l m b c h) (hQ : jQC I t l τ ω r) {g : Nat} (hg : g < τ 0 0) (w : Bool) : ∃ J, F_SG_thief 64 (nI g) (nB w) (jz_I h I) = some (jo_i (nO (s_thief τ ω r g w), jz_I h J)) ∧ jSc l 90 I J := by
  have ho := hQ.1.2.1
  have o0 : τ 0 0 ≤ 9 := ho.1
  refine jE_o (fun P hP => ?_)
  have key : jW (F_SG_thief_b20 64 (nI g) (nB w) 64 (nI 1) (jz_I h I)) P := by
    unfold F_SG_thief_b20
    simp (disch := omega) only [c_need1, kq_th, ↓dK_64 hL, ↓dG_64 hL, ↓dP_64 hL, ↓reduceIte, ↓kq_bi, ↓kq_let, ↓kq_rz0, ↓kq_rz1, ↓kq_rzB, ↓Option.bind_some, kq_dvn, kt_lt, kf_lt, kt_eq, kf_eq, decide_true, decide_false, eq_self, Bool.false_eq_true, Bool.true_eq_false, not_true_eq_false, not_false_eq_true, jU_eq, jU_ne, jU_U, jV_eq, jV_ne, jV_V, kn_lit, kn_add, kn_mul, kn_sdm, kn_sub, kn_div, kn_nsdm, kn_lt, kn_eq, kn_pred, kn_m1, kn_m1', kn_a31, kn_shl, kn_shr, kn_bit, nB_0, nB_1, nB_t, nB_f, Nat.zero_add, Nat.add_zero, Nat.reduceAdd, Nat.reduceMul, Nat.reduceSub, Nat.reducePow]
    refine jW_bn (c_trial hL hQ) (fun J hJ => ?_)
    refine jW_for0 (f := fun fuel k (J : Nat → Nat → Int32) => F_SG_thief_l29 fuel 64 (nI g) (nB w) (nI k) (jz_I h J)) 48 (fun k J => (jSc l 90 I J ∧ jCS J 90 τ false (s_hrs τ ω r k)) ∧ s_fst (fun k => (s_thg τ ω r g k).isSome) k = none) J ⟨hJ, rfl⟩ (by omega) (fun n k J hk hV ih => ?_) (fun n J hV => ?_)
    · obtain ⟨⟨v1, v2⟩, v3⟩ := hV
      obtain ⟨hq, -⟩ := s_hrs_ok (ω := ω) ho hQ.2.2.1 hQ.2.2.2 k (by omega)
      show jW (F_SG_thief_c29 (F_SG_thief_l29 n) 64 (nI g) (nB w) (nI k) (jz_I h J)) P
      unfold F_SG_thief_c29
      simp (disch := omega) only [↓dK_64 hL, ↓dG_64 hL, ↓dP_64 hL, ↓dR_64_3 hL, ↓dR_95_0 hL, ↓dR_102_0 hL, ↓dR_105_0 hL, ↓dK_90 hL, ↓dG_90 hL, ↓dP_90 hL, ↓dZ_90 hL (x := nI 0) (Or.inl rfl), ↓dZ_90 hL (x := nI 1) (Or.inr rfl), ↓dZ_90 hL (Or.inl rfl), ↓dZ_90 hL (Or.inr rfl), ↓dZ_90 hL (nB_01 _), ↓reduceIte, ↓kq_bi, ↓kq_let, ↓kq_rz0, ↓kq_rz1, ↓kq_rzB, ↓Option.bind_some, kq_dvn, kt_lt, kf_lt, kt_eq, kf_eq, decide_true, decide_false, eq_self, Bool.false_eq_true, Bool.true_eq_false, not_true_eq_false, not_false_eq_true, jU_eq, jU_ne, jU_U, jV_eq, jV_ne, jV_V, kn_lit, kn_add, kn_mul, kn_sdm, kn_sub, kn_div, kn_nsdm, kn_lt, kn_eq, kn_pred, kn_m1, kn_m1', kn_a31, kn_shl, kn_shr, kn_bit, nB_0, nB_1, nB_t, nB_f, Nat.zero_add, Nat.add_zero, Nat.reduceAdd, Nat.reduceMul, Nat.reduceSub, Nat.reducePow]
      refine jW_bi (c_within hL hQ v1 v2 hq hg (show k < 100 by omega)) (fun J2 hJ2 => ?_)
      have e : s_fst (s_thp τ ω (s_hrs τ ω r k) g k) (τ 0 0) = s_thg τ ω r g k := rfl
      rw [e]
      cases hx : s_thg τ ω r g k with
      | none =>
        simp only [nO, Option.elim_none]
        simp (disch := omega) only [↓dK_64 hL, ↓dG_64 hL, ↓dP_64 hL, ↓dR_64_3 hL, ↓dR_95_0 hL, ↓dR_102_0 hL, ↓dR_105_0 hL, ↓dK_90 hL, ↓dG_90 hL, ↓dP_90 hL, ↓dZ_90 hL (x := nI 0) (Or.inl rfl), ↓dZ_90 hL (x := nI 1) (Or.inr rfl), ↓dZ_90 hL (Or.inl rfl), ↓dZ_90 hL (Or.inr rfl), ↓dZ_90 hL (nB_01 _), ↓reduceIte, ↓kq_bi, ↓kq_let, ↓kq_rz0, ↓kq_rz1, ↓kq_rzB, ↓Option.bind_some, kq_dvn, kt_lt, kf_lt, kt_eq, kf_eq, decide_true, decide_false, eq_self, Bool.false_eq_true, Bool.true_eq_false, not_true_eq_false, not_false_eq_true, jU_eq, jU_ne, jU_U, jV_eq, jV_ne, jV_V, kn_lit, kn_add, kn_mul, kn_sdm, kn_sub, kn_div, kn_nsdm, kn_lt, kn_eq, kn_pred, kn_m1, kn_m1', kn_a31, kn_shl, kn_shr, kn_bit, nB_0, nB_1, nB_t, nB_f, Nat.zero_add, Nat.add_zero, Nat.reduceAdd, Nat.reduceMul, Nat.reduceSub, Nat.reducePow]
        exact jW_bn (c_hourT hL hQ hJ2.1 hJ2.2 hq) (fun J3 hJ3 => ih _ ⟨hJ3, s_fst_miss v3 (by rw [hx]; rfl)⟩)
      | some y =>
        have hy := (s_fst_lt hx).1
        have go := hP J2 hJ2.1
        have ef : s_thf τ ω r g = some k := s_fst_hit v3 (by rw [hx]; rfl) hk
        unfold s_thief at go
        rw [ef] at go
        simp only [nO, Option.elim_some]
        cases w
        · simp (disch := omega) only [F_SG_thief_b59, ↓dK_64 hL, ↓dG_64 hL, ↓dP_64 hL, ↓dR_64_3 hL, ↓dR_95_0 hL, ↓dR_102_0 hL, ↓dR_105_0 hL, ↓dK_90 hL, ↓dG_90 hL, ↓dP_90 hL, ↓dZ_90 hL (x := nI 0) (Or.inl rfl), ↓dZ_90 hL (x := nI 1) (Or.inr rfl), ↓dZ_90 hL (Or.inl rfl), ↓dZ_90 hL (Or.inr rfl), ↓dZ_90 hL (nB_01 _), ↓reduceIte, ↓kq_bi, ↓kq_let, ↓kq_rz0, ↓kq_rz1, ↓kq_rzB, ↓Option.bind_some, kq_dvn, kt_lt, kf_lt, kt_eq, kf_eq, decide_true, decide_false, eq_self, Bool.false_eq_true, Bool.true_eq_false, not_true_eq_false, not_false_eq_true, jU_eq, jU_ne, jU_U, jV_eq, jV_ne, jV_V, kn_lit, kn_add, kn_mul, kn_sdm, kn_sub, kn_div, kn_nsdm, kn_lt, kn_eq, kn_pred, kn_m1, kn_m1', kn_a31, kn_shl, kn_shr, kn_bit, nB_0, nB_1, nB_t, nB_f, Nat.zero_add, Nat.add_zero, Nat.reduceAdd, Nat.reduceMul, Nat.reduceSub, Nat.reducePow]
          exact jW_s go
        · rw [show (Option.bind (some k) fun k => if true = true then s_thg τ ω r g k else some k) = s_thg τ ω r g k from rfl, hx] at go
          simp (disch := omega) only [F_SG_thief_b59, ↓dK_64 hL, ↓dG_64 hL, ↓dP_64 hL, ↓dR_64_3 hL, ↓dR_95_0 hL, ↓dR_102_0 hL, ↓dR_105_0 hL, ↓dK_90 hL, ↓dG_90 hL, ↓dP_90 hL, ↓dZ_90 hL (x := nI 0) (Or.inl rfl), ↓dZ_90 hL (x := nI 1) (Or.inr rfl), ↓dZ_90 hL (Or.inl rfl), ↓dZ_90 hL (Or.inr rfl), ↓dZ_90 hL (nB_01 _), ↓reduceIte, ↓kq_bi, ↓kq_let, ↓kq_rz0, ↓kq_rz1, ↓kq_rzB, ↓Option.bind_some, kq_dvn, kt_lt, kf_lt, kt_eq, kf_eq, decide_true, decide_false, eq_self, Bool.false_eq_true, Bool.true_eq_false, not_true_eq_false, not_false_eq_true, jU_eq, jU_ne, jU_U, jV_eq, jV_ne, jV_V, kn_lit, kn_add, kn_mul, kn_sdm, kn_sub, kn_div, kn_nsdm, kn_lt, kn_eq, kn_pred, kn_m1, kn_m1', kn_a31, kn_shl, kn_shr, kn_bit, nB_0, nB_1, nB_t, nB_f, Nat.zero_add, Nat.add_zero, Nat.reduceAdd, Nat.reduceMul, Nat.reduceSub, Nat.reducePow]
          exact jW_s go
    · show jW (F_SG_thief_c29 (F_SG_thief_l29 n) 64 (nI g) (nB w) (nI 48) (jz_I h J)) P
      unfold F_SG_thief_c29
      simp (disch := omega) only [↓dK_64 hL, ↓dG_64 hL, ↓dP_64 hL, ↓dR_64_3 hL, ↓dR_95_0 hL, ↓dR_102_0 hL, ↓dR_105_0 hL, ↓dK_90 hL, ↓dG_90 hL, ↓dP_90 hL, ↓dZ_90 hL (x := nI 0) (Or.inl rfl), ↓dZ_90 hL (x := nI 1) (Or.inr rfl), ↓dZ_90 hL (Or.inl rfl), ↓dZ_90 hL (Or.inr rfl), ↓dZ_90 hL (nB_01 _), ↓reduceIte, ↓kq_bi, ↓kq_let, ↓kq_rz0, ↓kq_rz1, ↓kq_rzB, ↓Option.bind_some, kq_dvn, kt_lt, kf_lt, kt_eq, kf_eq, decide_true, decide_false, eq_self, Bool.false_eq_true, Bool.true_eq_false, not_true_eq_false, not_false_eq_true, jU_eq, jU_ne, jU_U, jV_eq, jV_ne, jV_V, kn_lit, kn_add, kn_mul, kn_sdm, kn_sub, kn_div, kn_nsdm, kn_lt, kn_eq, kn_pred, kn_m1, kn_m1', kn_a31, kn_shl, kn_shr, kn_bit, nB_0, nB_1, nB_t, nB_f, Nat.zero_add, Nat.add_zero, Nat.reduceAdd, Nat.reduceMul, Nat.reduceSub, Nat.reducePow]
      have go := hP J hV.1.1
      unfold s_thief s_thf at go
      rw [hV.2] at go
      exact jW_s go
  unfold F_SG_thief
  cases w
  · simp (disch := omega) only [c_needGate hL hQ.1.1 ho hg, kq_th, show nB false = nI 0 from rfl, F_SG_thief_b15, ↓dK_64 hL, ↓dG_64 hL, ↓dP_64 hL, ↓reduceIte, ↓kq_bi, ↓kq_let, ↓kq_rz0, ↓kq_rz1, ↓kq_rzB, ↓Option.bind_some, kq_dvn, kt_lt, kf_lt, kt_eq, kf_eq, decide_true, decide_false, eq_self, Bool.false_eq_true, Bool.true_eq_false, not_true_eq_false, not_false_eq_true, jU_eq, jU_ne, jU_U, jV_eq, jV_ne, jV_V, kn_lit, kn_add, kn_mul, kn_sdm, kn_sub, kn_div, kn_nsdm, kn_lt, kn_eq, kn_pred, kn_m1, kn_m1', kn_a31, kn_shl, kn_shr, kn_bit, nB_0, nB_1, nB_t, nB_f, Nat.zero_add, Nat.add_zero, Nat.reduceAdd, Nat.reduceMul, Nat.reduceSub, Nat.reducePow]
    exact key
  · simp (disch := omega) only [c_needGate hL hQ.1.1 ho hg, kq_th, show nB true = nI 1 from rfl, F_SG_thief_b15, ↓dK_64 hL, ↓dG_64 hL, ↓dP_64 hL, ↓reduceIte, ↓kq_bi, ↓kq_let, ↓kq_rz0, ↓kq_rz1, ↓kq_rzB, ↓Option.bind_some, kq_dvn, kt_lt, kf_lt, kt_eq, kf_eq, decide_true, decide_false, eq_self, Bool.false_eq_true, Bool.true_eq_false, not_true_eq_false, not_false_eq_true, jU_eq, jU_ne, jU_U, jV_eq, jV_ne, jV_V, kn_lit, kn_add, kn_mul, kn_sdm, kn_sub, kn_div, kn_nsdm, kn_lt, kn_eq, kn_pred, kn_m1, kn_m1', kn_a31, kn_shl, kn_shr, kn_bit, nB_0, nB_1, nB_t, nB_f, Nat.zero_add, Nat.add_zero, Nat.reduceAdd, Nat.reduceMul, Nat.reduceSub, Nat.reducePow]
    exact key
end

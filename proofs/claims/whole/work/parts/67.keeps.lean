/-! PLAIN LEAN, 33: keeps -/
def s_pq (τ : JTn) (ω : JLw) (r : JRw) (g w bits : Nat) : Nat → Nat → Option JRw
  | 0, _ => some r
  | n + 1, p => s_ky τ ω g w bits n (s_pq τ ω r g w bits n (p / 3)) (p % 3)
def s_ps : Nat → Nat → Nat
  | 0, _ => 0
  | n + 1, p => s_ps n (p / 3) + p % 3
def s_pt : Nat → Nat → Nat
  | 0, _ => 0
  | n + 1, p => 10 * s_pt n (p / 3) + p % 3
def s_ku (τ : JTn) (ω : JLw) (r : JRw) (g w bits n p : Nat) (b : JKb) : JKb := if ((s_pq τ ω r g w bits n p).isSome && s_bok b (s_ps n p)) = true then some (s_ps n p, s_pt n p) else b
def s_kr (τ : JTn) (ω : JLw) (r : JRw) (g w bits n : Nat) (b : JKb) (a : Nat) : Nat → JKb
  | 0 => b
  | j + 1 => s_ku τ ω r g w bits n (a + j) (s_kr τ ω r g w bits n b a j)
def s_sl (p : Nat) : Nat → Nat
  | 0 => 0
  | i + 1 => s_sl p i + p / 3 ^ i % 3
def s_keeps (τ : JTn) (ω : JLw) (r : JRw) (g w n bits : Nat) (v : Bool) : Int32 := if v = true then nP2 (s_kps τ ω r g w n bits) else nP1 (s_kps τ ω r g w n bits)
section
variable {t u l m b c : Nat} {h : LH} {I J K : Nat → Nat → Int32} {τ : JTn} {r q : JRw} {σ ρ i a : Nat} {Q : Type} {x : Int32} {d : Bool} {ω : JLw} {f : Nat → Int32} {g w bits : Nat}
theorem c_keeps (hL : jLay t u l m b c h) (hQ : jQC I t l τ ω r) (hg : g < τ 0 0) (hw : w < τ 0 1) {n : Nat} (hn : n ≤ 5) (hb : bits < 2 ^ n) (v : Bool) : ∃ J, F_SG_keeps 64 (nI g) (nI w) (nI n) (nI bits) (nB v) (jz_I h I) = some (jo_i (s_keeps τ ω r g w n bits v, jz_I h J)) ∧ jSk l I J := by
  have ho := hQ.1.2.1
  have hb32 : bits < 32 := Nat.lt_of_lt_of_le hb (show 2 ^ n ≤ 2 ^ 5 from Nat.pow_le_pow_right (by omega) hn)
  have hp := kn_pow (k := n) (by omega)
  refine jE_o (fun P hP => ?_)
  have key : jW (F_SG_keeps_b58 64 (nI g) (nI w) (nI n) (nI bits) (nB v) 64 (nI 1) (jz_I h I)) P := by
    unfold F_SG_keeps_b58
    simp (disch := omega) only [c_need1, kq_th, ↓dK_64 hL, ↓dG_64 hL, ↓dP_64 hL, ↓reduceIte, ↓kq_bi, ↓kq_let, ↓kq_rz0, ↓kq_rz1, ↓kq_rzB, ↓Option.bind_some, kq_dvn, kt_lt, kf_lt, kt_eq, kf_eq, decide_true, decide_false, eq_self, Bool.false_eq_true, Bool.true_eq_false, not_true_eq_false, not_false_eq_true, jU_eq, jU_ne, jU_U, jV_eq, jV_ne, jV_V, kn_lit, kn_add, kn_mul, kn_sdm, kn_sub, kn_div, kn_nsdm, kn_lt, kn_eq, kn_pred, kn_m1, kn_m1', kn_a31, kn_shl, kn_shr, kn_bit, nB_0, nB_1, nB_t, nB_f, Nat.zero_add, Nat.add_zero, Nat.reduceAdd, Nat.reduceMul, Nat.reduceSub, Nat.reducePow]
    refine jW_bn (c_trial hL hQ) (fun J hJ => ?_)
    have em : (if 5 < n then nI 5 else nI n) = nI n := if_neg (by omega)
    simp (disch := omega) only [F_Keep_search, em, ↓dK_64 hL, ↓dG_64 hL, ↓dP_64 hL, ↓dR_64_4 hL, ↓dK_95 hL, ↓dG_95 hL, ↓dP_95 hL, ↓reduceIte, ↓kq_bi, ↓kq_let, ↓kq_rz0, ↓kq_rz1, ↓kq_rzB, ↓Option.bind_some, kq_dvn, kt_lt, kf_lt, kt_eq, kf_eq, decide_true, decide_false, eq_self, Bool.false_eq_true, Bool.true_eq_false, not_true_eq_false, not_false_eq_true, jU_eq, jU_ne, jU_U, jV_eq, jV_ne, jV_V, kn_lit, kn_add, kn_mul, kn_sdm, kn_sub, kn_div, kn_nsdm, kn_lt, kn_eq, kn_pred, kn_m1, kn_m1', kn_a31, kn_shl, kn_shr, kn_bit, nB_0, nB_1, nB_t, nB_f, Nat.zero_add, Nat.add_zero, Nat.reduceAdd, Nat.reduceMul, Nat.reduceSub, Nat.reducePow]
    have hl := jLay_l hL
    have hS : jSk l I (jU J 95 (jV (jV (jV (jV (jV (jV (J 95) 2 (nI g)) 3 (nI w)) 4 (nI n)) 5 (nI bits)) 6 (-nI 1)) 7 (-nI 1))) := jSk_trans (jSk_Sc (fun _ _ _ _ => rfl) hJ.1) (fun a _ _ z => jU_ne (by omega))
    have hct := c_try hL hQ hg hw hn hb32 n 0 jE (by omega) (by show n < 20; omega) (jU J 95 (jV (jV (jV (jV (jV (jV (J 95) 2 (nI g)) 3 (nI w)) 4 (nI n)) 5 (nI bits)) 6 (-nI 1)) 7 (-nI 1))) r 0 0 none hS (jCS_congr (fun a _ _ => jU_ne (by omega)) hJ.2) hQ.2.2.1 (by have := hQ.2.2.2; omega) ⟨by rw [jU_eq]; rfl, by rw [jU_eq]; rfl, by rw [jU_eq]; rfl, by rw [jU_eq]; rfl⟩ ⟨by rw [jU_eq]; rfl, by rw [jU_eq]; rfl, fun f hf => by cases hf⟩ (Nat.le_refl _) (by decide) rfl
    obtain ⟨K, e, x1, x2, x3, -⟩ := hct
    simp only [e, Option.bind_some]
    have fin := hP K x1
    have x36 : K 95 6 = nP1 (s_kps τ ω r g w n bits) := x3.1
    have x37 : K 95 7 = nP2 (s_kps τ ω r g w n bits) := x3.2.1
    unfold s_keeps at fin
    generalize s_kps τ ω r g w n bits = y at fin x36 x37
    cases v
    · rw [if_neg (show ¬ false = true by decide)] at fin
      simp (disch := omega) only [x36, F_SG_keeps_b99, ↓dK_64 hL, ↓dG_64 hL, ↓dP_64 hL, ↓dR_64_4 hL, ↓dK_95 hL, ↓dG_95 hL, ↓dP_95 hL, ↓reduceIte, ↓kq_bi, ↓kq_let, ↓kq_rz0, ↓kq_rz1, ↓kq_rzB, ↓Option.bind_some, kq_dvn, kt_lt, kf_lt, kt_eq, kf_eq, decide_true, decide_false, eq_self, Bool.false_eq_true, Bool.true_eq_false, not_true_eq_false, not_false_eq_true, jU_eq, jU_ne, jU_U, jV_eq, jV_ne, jV_V, kn_lit, kn_add, kn_mul, kn_sdm, kn_sub, kn_div, kn_nsdm, kn_lt, kn_eq, kn_pred, kn_m1, kn_m1', kn_a31, kn_shl, kn_shr, kn_bit, nB_0, nB_1, nB_t, nB_f, Nat.zero_add, Nat.add_zero, Nat.reduceAdd, Nat.reduceMul, Nat.reduceSub, Nat.reducePow]
      exact jW_s fin
    · rw [if_pos (show true = true from rfl)] at fin
      simp (disch := omega) only [x37, F_SG_keeps_b99, ↓dK_64 hL, ↓dG_64 hL, ↓dP_64 hL, ↓dR_64_4 hL, ↓dK_95 hL, ↓dG_95 hL, ↓dP_95 hL, ↓reduceIte, ↓kq_bi, ↓kq_let, ↓kq_rz0, ↓kq_rz1, ↓kq_rzB, ↓Option.bind_some, kq_dvn, kt_lt, kf_lt, kt_eq, kf_eq, decide_true, decide_false, eq_self, Bool.false_eq_true, Bool.true_eq_false, not_true_eq_false, not_false_eq_true, jU_eq, jU_ne, jU_U, jV_eq, jV_ne, jV_V, kn_lit, kn_add, kn_mul, kn_sdm, kn_sub, kn_div, kn_nsdm, kn_lt, kn_eq, kn_pred, kn_m1, kn_m1', kn_a31, kn_shl, kn_shr, kn_bit, nB_0, nB_1, nB_t, nB_f, Nat.zero_add, Nat.add_zero, Nat.reduceAdd, Nat.reduceMul, Nat.reduceSub, Nat.reducePow]
      exact jW_s fin
  unfold F_SG_keeps
  cases v
  · simp (disch := omega) only [c_needGate hL hQ.1.1 ho hg, c_needWood hL hQ.1.1 ho hw, c_need1, kq_th, Nat.one_mul, show nB false = nI 0 from rfl, F_SG_keeps_b25, F_SG_keeps_b53, ↓dK_64 hL, ↓dG_64 hL, ↓dP_64 hL, ↓reduceIte, ↓kq_bi, ↓kq_let, ↓kq_rz0, ↓kq_rz1, ↓kq_rzB, ↓Option.bind_some, kq_dvn, kt_lt, kf_lt, kt_eq, kf_eq, decide_true, decide_false, eq_self, Bool.false_eq_true, Bool.true_eq_false, not_true_eq_false, not_false_eq_true, jU_eq, jU_ne, jU_U, jV_eq, jV_ne, jV_V, kn_lit, kn_add, kn_mul, kn_sdm, kn_sub, kn_div, kn_nsdm, kn_lt, kn_eq, kn_pred, kn_m1, kn_m1', kn_a31, kn_shl, kn_shr, kn_bit, nB_0, nB_1, nB_t, nB_f, Nat.zero_add, Nat.add_zero, Nat.reduceAdd, Nat.reduceMul, Nat.reduceSub, Nat.reducePow]
    exact key
  · simp (disch := omega) only [c_needGate hL hQ.1.1 ho hg, c_needWood hL hQ.1.1 ho hw, c_need1, kq_th, Nat.one_mul, show nB true = nI 1 from rfl, F_SG_keeps_b25, F_SG_keeps_b53, ↓dK_64 hL, ↓dG_64 hL, ↓dP_64 hL, ↓reduceIte, ↓kq_bi, ↓kq_let, ↓kq_rz0, ↓kq_rz1, ↓kq_rzB, ↓Option.bind_some, kq_dvn, kt_lt, kf_lt, kt_eq, kf_eq, decide_true, decide_false, eq_self, Bool.false_eq_true, Bool.true_eq_false, not_true_eq_false, not_false_eq_true, jU_eq, jU_ne, jU_U, jV_eq, jV_ne, jV_V, kn_lit, kn_add, kn_mul, kn_sdm, kn_sub, kn_div, kn_nsdm, kn_lt, kn_eq, kn_pred, kn_m1, kn_m1', kn_a31, kn_shl, kn_shr, kn_bit, nB_0, nB_1, nB_t, nB_f, Nat.zero_add, Nat.add_zero, Nat.reduceAdd, Nat.reduceMul, Nat.reduceSub, Nat.reducePow]
    exact key
theorem s_kr_add {n : Nat} {B : JKb} {a i : Nat} : ∀ j, s_kr τ ω r g w bits n B a (i + j) = s_kr τ ω r g w bits n (s_kr τ ω r g w bits n B a i) (a + i) j
  | 0 => rfl
  | j + 1 => by
    show s_ku τ ω r g w bits n (a + (i + j)) (s_kr τ ω r g w bits n B a (i + j)) = s_ku τ ω r g w bits n (a + i + j) (s_kr τ ω r g w bits n (s_kr τ ω r g w bits n B a i) (a + i) j)
    rw [s_kr_add j, Nat.add_assoc]
theorem s_kr_E {n : Nat} : ∀ m len p B, len + m = n → s_kr τ ω r g w bits n B (p * 3 ^ m) (3 ^ m) = s_kE τ ω g w bits m len (s_pq τ ω r g w bits len p) (s_ps len p) (s_pt len p) B
  | 0, len, p, B, h => by
    have : len = n := by omega
    subst this
    show s_ku τ ω r g w bits len (p * 3 ^ 0 + 0) B = (if ((s_pq τ ω r g w bits len p).isSome && s_bok B (s_ps len p)) = true then some (s_ps len p, s_pt len p) else B)
    rw [Nat.pow_zero, Nat.mul_one, Nat.add_zero]
    rfl
  | m + 1, len, p, B, h => by
    have ih := s_kr_E (n := n) m (len + 1)
    have e3 : 3 ^ (m + 1) = 3 ^ m + 3 ^ m + 3 ^ m := by rw [Nat.pow_succ]; omega
    have d3 : ∀ e, e < 3 → (3 * p + e) / 3 = p ∧ (3 * p + e) % 3 = e := fun e he => by omega
    have step : ∀ e B', e < 3 → s_kr τ ω r g w bits n B' ((3 * p + e) * 3 ^ m) (3 ^ m) = s_kE τ ω g w bits m (len + 1) (s_ky τ ω g w bits len (s_pq τ ω r g w bits len p) e) (s_ps len p + e) (10 * s_pt len p + e) B' := fun e B' he => by
      rw [ih (3 * p + e) B' (by omega)]
      show s_kE τ ω g w bits m (len + 1) (s_ky τ ω g w bits len (s_pq τ ω r g w bits len ((3 * p + e) / 3)) ((3 * p + e) % 3)) (s_ps len ((3 * p + e) / 3) + (3 * p + e) % 3) (10 * s_pt len ((3 * p + e) / 3) + (3 * p + e) % 3) B' = _
      rw [(d3 e he).1, (d3 e he).2]
    have a0 : p * 3 ^ (m + 1) = (3 * p + 0) * 3 ^ m := by rw [Nat.pow_succ, Nat.add_zero, Nat.mul_comm (3 ^ m) 3, ← Nat.mul_assoc, Nat.mul_comm p 3]
    have a1 : (3 * p + 0) * 3 ^ m + 3 ^ m = (3 * p + 1) * 3 ^ m := (Nat.succ_mul (3 * p) (3 ^ m)).symm
    have a2 : (3 * p + 0) * 3 ^ m + (3 ^ m + 3 ^ m) = (3 * p + 2) * 3 ^ m := by rw [← Nat.add_assoc, a1]; exact (Nat.succ_mul (3 * p + 1) (3 ^ m)).symm
    rw [a0, e3, s_kr_add, s_kr_add, a1, a2, step 0 _ (by omega), step 1 _ (by omega), step 2 _ (by omega)]
    rfl
theorem s_kr_kps {n : Nat} : s_kr τ ω r g w bits n none 0 (3 ^ n) = s_kps τ ω r g w n bits := by
  have := s_kr_E (τ := τ) (ω := ω) (r := r) (g := g) (w := w) (bits := bits) (n := n) n 0 0 none (by omega)
  rwa [Nat.zero_mul] at this
theorem s_sl_s {p : Nat} : ∀ i, s_sl p (i + 1) = s_sl (p / 3) i + p % 3
  | 0 => by show 0 + p / 3 ^ 0 % 3 = 0 + p % 3; rw [Nat.pow_zero, Nat.div_one]
  | i + 1 => by
    show s_sl p (i + 1) + p / 3 ^ (i + 1) % 3 = s_sl (p / 3) i + p / 3 / 3 ^ i % 3 + p % 3
    have e : p / 3 / 3 ^ i = p / 3 ^ (i + 1) := by rw [Nat.div_div_eq_div_mul, ← Nat.pow_succ']
    rw [s_sl_s i, e]
    omega
theorem s_ps_sl : ∀ n p, s_ps n p = s_sl p n
  | 0, _ => rfl
  | n + 1, p => by
    rw [s_sl_s]
    show s_ps n (p / 3) + p % 3 = _
    rw [s_ps_sl n]
theorem s_sl_le {p : Nat} : ∀ i, s_sl p i ≤ 2 * i
  | 0 => Nat.le_refl _
  | i + 1 => by
    have := s_sl_le (p := p) i
    show s_sl p i + p / 3 ^ i % 3 ≤ 2 * (i + 1)
    omega
theorem s_pt_lt : ∀ n p, s_pt n p < 10 ^ n
  | 0, _ => by show 0 < 10 ^ 0; decide
  | n + 1, p => by
    have := s_pt_lt n (p / 3)
    show 10 * s_pt n (p / 3) + p % 3 < 10 ^ (n + 1)
    rw [Nat.pow_succ]
    omega
theorem s_3d {p e : Nat} : p / 3 ^ e / 3 = p / 3 ^ (e + 1) := by rw [Nat.div_div_eq_div_mul, ← Nat.pow_succ]
/-- a way that fails at one hour fails -/
theorem s_pq_none {p n k : Nat} (h : s_pq τ ω r g w bits k (p / 3 ^ (n - k)) = none) (hk : k ≤ n) : ∀ j, k + j ≤ n → s_pq τ ω r g w bits (k + j) (p / 3 ^ (n - (k + j))) = none
  | 0, _ => h
  | j + 1, hj => by
    have ih := s_pq_none h hk j (by omega)
    show s_ky τ ω g w bits (k + j) (s_pq τ ω r g w bits (k + j) (p / 3 ^ (n - (k + (j + 1))) / 3)) _ = none
    rw [s_3d, show n - (k + (j + 1)) + 1 = n - (k + j) by omega, ih]
    rfl
theorem s_pq_ok (ho : jTOK τ) (hg : g < 9) (hw : w < τ 0 1) (hr : jROK τ r) (hh : r 133 ≤ 1000) : ∀ k p q, k ≤ 5 → s_pq τ ω r g w bits k p = some q → jROK τ q ∧ q 133 ≤ 1000 + k
  | 0, p, q, _, h => by cases h; exact ⟨hr, hh⟩
  | k + 1, p, q, hk, h => by
    have h : s_ky τ ω g w bits k (s_pq τ ω r g w bits k (p / 3)) (p % 3) = some q := h
    cases hs : s_pq τ ω r g w bits k (p / 3) with
    | none => rw [hs] at h; cases h
    | some q1 =>
      obtain ⟨h1, h2⟩ := s_pq_ok ho hg hw hr hh k (p / 3) q1 (by omega) hs
      rw [hs] at h
      have h : (s_kl τ g w q1 (p % 3)).bind (s_ks τ ω g bits k) = some q := h
      cases hl : s_kl τ g w q1 (p % 3) with
      | none => rw [hl] at h; cases h
      | some q2 =>
        rw [hl] at h
        have h : (if s_sh τ ω false q2 g = decide (bits / 2 ^ k % 2 = 1) then some (s_hour τ ω false q2) else none) = some q := h
        obtain ⟨h3, h4⟩ := s_kl_ok ho hg hw h1 _ _ hl
        split at h
        · cases h; exact ⟨s_hour_ok ho h3 (by omega), by rw [s_hour_133]; omega⟩
        · cases h
theorem jN_714 (N0 : jN I J) (hJ : ∀ a, ¬ a = 714 → K a = J a) : jN I K := by
  have e := hJ 205 (by omega)
  obtain ⟨n1, n2, n3, n4⟩ := N0
  exact ⟨fun a h1 h2 h3 h4 h5 => (hJ a (by omega)).trans (n1 a h1 h2 h3 h4 h5), fun k h1 h2 => by rw [e]; exact n2 k h1 h2, by rw [e]; exact n3, by rw [e]; exact n4⟩
theorem m_isKept (hL : jLay t u l m b c h) (hQ : jQM I τ ω r) (hN : jN I J) (hg : g < τ 0 0) (hw : w < τ 0 1) {n p : Nat} (hn : n ≤ 5) (hb : bits < 32) (hD : ∀ k, k < n → J 714 k = nI (p / 3 ^ (n - 1 - k) % 3)) : ∃ K, F_Mod_isKept 205 (nI g) (nI w) (nI n) (nI bits) (jz_I h J) = some (nB (s_pq τ ω r g w bits n p).isSome, jz_I h K) ∧ jN I K ∧ K 714 = J 714 := by
  have ho := hQ.1.2.1
  have o0 : τ 0 0 ≤ 9 := ho.1
  refine jE_i (fun P hP => ?_)
  unfold F_Mod_isKept
  simp (disch := omega) only [↓dK_205 hL, ↓dG_205 hL, ↓dP_205 hL, ↓dZ_205 hL (x := nI 0) (Or.inl rfl), ↓dZ_205 hL (x := nI 1) (Or.inr rfl), ↓dZ_205 hL (Or.inl rfl), ↓dZ_205 hL (Or.inr rfl), ↓dZ_205 hL (nB_01 _), ↓reduceIte, ↓kq_bi, ↓kq_let, ↓kq_rz0, ↓kq_rz1, ↓kq_rzB, ↓Option.bind_some, kq_dvn, kt_lt, kf_lt, kt_eq, kf_eq, decide_true, decide_false, eq_self, Bool.false_eq_true, Bool.true_eq_false, not_true_eq_false, not_false_eq_true, jU_eq, jU_ne, jU_U, jV_eq, jV_ne, jV_V, kn_lit, kn_add, kn_mul, kn_sdm, kn_sub, kn_div, kn_nsdm, kn_lt, kn_eq, kn_pred, kn_m1, kn_m1', kn_a31, kn_shl, kn_shr, kn_bit, nB_0, nB_1, nB_t, nB_f, Nat.zero_add, Nat.add_zero, Nat.reduceAdd, Nat.reduceMul, Nat.reduceSub, Nat.reducePow]
  obtain ⟨J1, e1, q1, q2, q3, q4⟩ := m_tries hL (jN_QM hN hQ).2.1
  rw [e1]
  have N1 : jN I J1 := by
    obtain ⟨n1, n2, n3, n4⟩ := hN
    exact ⟨fun a a1 a2 a3 a4 a5 => (q4 a a4 a1).trans (n1 a a1 a2 a3 a4 a5), fun k k1 k2 => (q3 k (by omega)).trans (n2 k k1 k2), q2, (q3 0 (by omega)).trans n4⟩
  have bad : ∀ K, jN I K → K 714 = J 714 → (∃ k, k ≤ n ∧ s_pq τ ω r g w bits k (p / 3 ^ (n - k)) = none) → P (nI 0, jz_I h K) := fun K z1 z2 ⟨k, z3, z4⟩ => by
    have e := s_pq_none z4 z3 (n - k) (by omega)
    rw [show k + (n - k) = n by omega, Nat.sub_self, Nat.pow_zero, Nat.div_one] at e
    have := hP K ⟨z1, z2⟩
    rw [e] at this
    exact this
  refine jW_for0 (f := fun fuel k (K : Nat → Nat → Int32) => F_Mod_isKept_l7 fuel 205 (nI g) (nI w) (nI n) (nI bits) (nI k) (jz_I h K)) n (fun k K => (jN I K ∧ K 714 = J 714) ∧ ∃ q, s_pq τ ω r g w bits k (p / 3 ^ (n - k)) = some q ∧ jMR K 692 q) J1 ⟨⟨N1, q4 714 (by omega) (by omega)⟩, r, rfl, q1⟩ (by omega) (fun F k K hk hV ih => ?_) (fun F K hV => ?_)
  · obtain ⟨⟨v1, v2⟩, q, v3, v4⟩ := hV
    obtain ⟨hq, hq133⟩ := s_pq_ok ho (show g < 9 by omega) hw hQ.2.2.1 hQ.2.2.2 k _ q (by omega) v3
    have hdk := hD k hk
    have hd3 : p / 3 ^ (n - 1 - k) % 3 < 3 := Nat.mod_lt _ (by decide)
    have epq : s_pq τ ω r g w bits (k + 1) (p / 3 ^ (n - (k + 1))) = (s_kl τ g w q (p / 3 ^ (n - 1 - k) % 3)).bind (s_ks τ ω g bits k) := by
      show s_ky τ ω g w bits k (s_pq τ ω r g w bits k (p / 3 ^ (n - (k + 1)) / 3)) (p / 3 ^ (n - (k + 1)) % 3) = _
      rw [s_3d, show n - (k + 1) + 1 = n - k by omega, v3, show n - (k + 1) = n - 1 - k by omega]
      rfl
    show jW (F_Mod_isKept_c7 (F_Mod_isKept_l7 F) 205 (nI g) (nI w) (nI n) (nI bits) (nI k) (jz_I h K)) P
    unfold F_Mod_isKept_c7
    simp (disch := omega) only [↓reduceIte, ↓kq_bi, ↓kq_let, ↓kq_rz0, ↓kq_rz1, ↓kq_rzB, ↓Option.bind_some, kq_dvn, kt_lt, kf_lt, kt_eq, kf_eq, decide_true, decide_false, eq_self, Bool.false_eq_true, Bool.true_eq_false, not_true_eq_false, not_false_eq_true, jU_eq, jU_ne, jU_U, jV_eq, jV_ne, jV_V, kn_lit, kn_add, kn_mul, kn_sdm, kn_sub, kn_div, kn_nsdm, kn_lt, kn_eq, kn_pred, kn_m1, kn_m1', kn_a31, kn_shl, kn_shr, kn_bit, nB_0, nB_1, nB_t, nB_f, Nat.zero_add, Nat.add_zero, Nat.reduceAdd, Nat.reduceMul, Nat.reduceSub, Nat.reducePow]
    generalize hdd : p / 3 ^ (n - 1 - k) % 3 = dd at hdk hd3 epq
    refine jW_for0 (f := fun fuel e (K : Nat → Nat → Int32) => F_Mod_isKept_l16 (F_Mod_isKept_l7 F) fuel 205 (nI g) (nI w) (nI n) (nI bits) (nI k) (nI e) (jz_I h K)) dd (fun e K => (jN I K ∧ K 714 = J 714) ∧ ∃ q', s_kl τ g w q e = some q' ∧ jMR K 692 q') K ⟨⟨v1, v2⟩, q, rfl, v4⟩ (by omega) (fun F2 e K he hV ih2 => ?_) (fun F2 K hV => ?_)
    · obtain ⟨⟨v1, v2⟩, q', v3', v4⟩ := hV
      obtain ⟨hq', -⟩ := s_kl_ok ho (show g < 9 by omega) hw hq _ _ v3'
      have hQ' := jN_QM v1 hQ
      have hdk' : K 714 k = nI dd := by rw [v2]; exact hdk
      have el : s_kl τ g w q (e + 1) = (if s_can q' g w = true then some (s_lay τ q' g w) else none) := by show (s_kl τ g w q e).bind _ = _; rw [v3']; rfl
      show jW (F_Mod_isKept_c16 (F_Mod_isKept_l7 F) (F_Mod_isKept_l16 (F_Mod_isKept_l7 F) F2) 205 (nI g) (nI w) (nI n) (nI bits) (nI k) (nI e) (jz_I h K)) P
      unfold F_Mod_isKept_c16
      simp (disch := omega) only [hdk', ↓dK_205 hL, ↓dG_205 hL, ↓dP_205 hL, ↓dZ_205 hL (x := nI 0) (Or.inl rfl), ↓dZ_205 hL (x := nI 1) (Or.inr rfl), ↓dZ_205 hL (Or.inl rfl), ↓dZ_205 hL (Or.inr rfl), ↓dZ_205 hL (nB_01 _), ↓dR_205_47 hL, dI_714 hL, dS_714 hL, ↓dR_205_36 hL, dI_692 hL, dS_692 hL, ↓reduceIte, ↓kq_bi, ↓kq_let, ↓kq_rz0, ↓kq_rz1, ↓kq_rzB, ↓Option.bind_some, kq_dvn, kt_lt, kf_lt, kt_eq, kf_eq, decide_true, decide_false, eq_self, Bool.false_eq_true, Bool.true_eq_false, not_true_eq_false, not_false_eq_true, jU_eq, jU_ne, jU_U, jV_eq, jV_ne, jV_V, kn_lit, kn_add, kn_mul, kn_sdm, kn_sub, kn_div, kn_nsdm, kn_lt, kn_eq, kn_pred, kn_m1, kn_m1', kn_a31, kn_shl, kn_shr, kn_bit, nB_0, nB_1, nB_t, nB_f, Nat.zero_add, Nat.add_zero, Nat.reduceAdd, Nat.reduceMul, Nat.reduceSub, Nat.reducePow]
      refine jW_bi (m_laysOn hL hQ'.1.1 ho (Or.inr rfl) v4 hq' (show g < 9 by omega) hw) (fun K2 hK2 => ?_)
      have w1 : jN I K2 := jN_S3 v1 (fun a _ _ z => hK2.2 a z)
      have w2 : K2 714 = J 714 := by rw [hK2.2 714 (by omega)]; exact v2
      have h21 := hK2.1
      unfold s_layd at h21
      cases hc : s_can q' g w
      · rw [hc, if_neg (show ¬ false = true by decide)] at el
        simp (disch := omega) only [↓reduceIte, ↓kq_bi, ↓kq_let, ↓kq_rz0, ↓kq_rz1, ↓kq_rzB, ↓Option.bind_some, kq_dvn, kt_lt, kf_lt, kt_eq, kf_eq, decide_true, decide_false, eq_self, Bool.false_eq_true, Bool.true_eq_false, not_true_eq_false, not_false_eq_true, jU_eq, jU_ne, jU_U, jV_eq, jV_ne, jV_V, kn_lit, kn_add, kn_mul, kn_sdm, kn_sub, kn_div, kn_nsdm, kn_lt, kn_eq, kn_pred, kn_m1, kn_m1', kn_a31, kn_shl, kn_shr, kn_bit, nB_0, nB_1, nB_t, nB_f, Nat.zero_add, Nat.add_zero, Nat.reduceAdd, Nat.reduceMul, Nat.reduceSub, Nat.reducePow]
        refine jW_s (bad K2 w1 w2 ⟨k + 1, by omega, ?_⟩)
        rw [epq]
        have := s_kl_none el (dd - (e + 1))
        rw [show e + 1 + (dd - (e + 1)) = dd by omega] at this
        rw [this]; rfl
      · rw [hc, if_pos (show true = true from rfl)] at el h21
        simp (disch := omega) only [↓reduceIte, ↓kq_bi, ↓kq_let, ↓kq_rz0, ↓kq_rz1, ↓kq_rzB, ↓Option.bind_some, kq_dvn, kt_lt, kf_lt, kt_eq, kf_eq, decide_true, decide_false, eq_self, Bool.false_eq_true, Bool.true_eq_false, not_true_eq_false, not_false_eq_true, jU_eq, jU_ne, jU_U, jV_eq, jV_ne, jV_V, kn_lit, kn_add, kn_mul, kn_sdm, kn_sub, kn_div, kn_nsdm, kn_lt, kn_eq, kn_pred, kn_m1, kn_m1', kn_a31, kn_shl, kn_shr, kn_bit, nB_0, nB_1, nB_t, nB_f, Nat.zero_add, Nat.add_zero, Nat.reduceAdd, Nat.reduceMul, Nat.reduceSub, Nat.reducePow]
        exact ih2 K2 ⟨⟨w1, w2⟩, _, el, h21⟩
    · obtain ⟨⟨v1, v2⟩, q', v3', v4⟩ := hV
      obtain ⟨hq', hq'h⟩ := s_kl_ok ho (show g < 9 by omega) hw hq _ _ v3'
      have hdk' : K 714 k = nI dd := by rw [v2]; exact hdk
      rw [v3'] at epq
      show jW (F_Mod_isKept_c16 (F_Mod_isKept_l7 F) (F_Mod_isKept_l16 (F_Mod_isKept_l7 F) F2) 205 (nI g) (nI w) (nI n) (nI bits) (nI k) (nI dd) (jz_I h K)) P
      unfold F_Mod_isKept_c16
      simp (disch := omega) only [hdk', ↓dK_205 hL, ↓dG_205 hL, ↓dP_205 hL, ↓dZ_205 hL (x := nI 0) (Or.inl rfl), ↓dZ_205 hL (x := nI 1) (Or.inr rfl), ↓dZ_205 hL (Or.inl rfl), ↓dZ_205 hL (Or.inr rfl), ↓dZ_205 hL (nB_01 _), ↓dR_205_47 hL, dI_714 hL, dS_714 hL, ↓dR_205_36 hL, dI_692 hL, dS_692 hL, ↓reduceIte, ↓kq_bi, ↓kq_let, ↓kq_rz0, ↓kq_rz1, ↓kq_rzB, ↓Option.bind_some, kq_dvn, kt_lt, kf_lt, kt_eq, kf_eq, decide_true, decide_false, eq_self, Bool.false_eq_true, Bool.true_eq_false, not_true_eq_false, not_false_eq_true, jU_eq, jU_ne, jU_U, jV_eq, jV_ne, jV_V, kn_lit, kn_add, kn_mul, kn_sdm, kn_sub, kn_div, kn_nsdm, kn_lt, kn_eq, kn_pred, kn_m1, kn_m1', kn_a31, kn_shl, kn_shr, kn_bit, nB_0, nB_1, nB_t, nB_f, Nat.zero_add, Nat.add_zero, Nat.reduceAdd, Nat.reduceMul, Nat.reduceSub, Nat.reducePow]
      refine jW_bi (m_isShut hL (jN_QM v1 hQ).1 (Or.inr rfl) v4 hq' hg) (fun K2 hK2 => ?_)
      have w1 : jN I K2 := jN_89 v1 hK2
      have w2 : K2 714 = J 714 := by rw [hK2 714 (by omega) (by omega)]; exact v2
      have w3 : jMR K2 692 q' := fun j hj => by rw [hK2 692 (by omega) (by omega)]; exact v4 j hj
      have epq : s_pq τ ω r g w bits (k + 1) (p / 3 ^ (n - (k + 1))) = (if s_sh τ ω false q' g = decide (bits / 2 ^ k % 2 = 1) then some (s_hour τ ω false q') else none) := epq
      simp only [m_has (show bits < 2147483648 by omega) (show k < 32 by omega), kq_bi]
      generalize decide (bits / 2 ^ k % 2 = 1) = bb at epq ⊢
      by_cases hc : s_sh τ ω false q' g = bb
      · rw [if_pos hc] at epq
        rw [hc, if_pos rfl]
        simp (disch := omega) only [↓dK_205 hL, ↓dG_205 hL, ↓dP_205 hL, ↓dZ_205 hL (x := nI 0) (Or.inl rfl), ↓dZ_205 hL (x := nI 1) (Or.inr rfl), ↓dZ_205 hL (Or.inl rfl), ↓dZ_205 hL (Or.inr rfl), ↓dZ_205 hL (nB_01 _), ↓dR_205_36 hL, dI_692 hL, dS_692 hL, ↓reduceIte, ↓kq_bi, ↓kq_let, ↓kq_rz0, ↓kq_rz1, ↓kq_rzB, ↓Option.bind_some, kq_dvn, kt_lt, kf_lt, kt_eq, kf_eq, decide_true, decide_false, eq_self, Bool.false_eq_true, Bool.true_eq_false, not_true_eq_false, not_false_eq_true, jU_eq, jU_ne, jU_U, jV_eq, jV_ne, jV_V, kn_lit, kn_add, kn_mul, kn_sdm, kn_sub, kn_div, kn_nsdm, kn_lt, kn_eq, kn_pred, kn_m1, kn_m1', kn_a31, kn_shl, kn_shr, kn_bit, nB_0, nB_1, nB_t, nB_f, Nat.zero_add, Nat.add_zero, Nat.reduceAdd, Nat.reduceMul, Nat.reduceSub, Nat.reducePow]
        refine jW_bn (m_hourEnds hL (jN_QM w1 hQ).1 (Or.inr rfl) w3 hq') (fun K3 hK3 => ?_)
        exact ih K3 ⟨⟨jN_S3 w1 hK3.2, by rw [hK3.2 714 (by omega) (by omega) (by omega)]; exact w2⟩, _, epq, hK3.1⟩
      · rw [if_neg hc] at epq
        rw [if_neg (by cases hx : s_sh τ ω false q' g <;> cases bb <;> first | exact absurd hx hc | (rw [hx] at hc; exact absurd rfl hc) | decide)]
        exact jW_s (bad K2 w1 w2 ⟨k + 1, by omega, epq⟩)
  · obtain ⟨⟨v1, v2⟩, q, v3, v4⟩ := hV
    rw [Nat.sub_self, Nat.pow_zero, Nat.div_one] at v3
    have fin := hP K ⟨v1, v2⟩
    rw [v3] at fin
    show jW (F_Mod_isKept_c7 (F_Mod_isKept_l7 F) 205 (nI g) (nI w) (nI n) (nI bits) (nI n) (jz_I h K)) P
    unfold F_Mod_isKept_c7
    simp (disch := omega) only [↓reduceIte, ↓kq_bi, ↓kq_let, ↓kq_rz0, ↓kq_rz1, ↓kq_rzB, ↓Option.bind_some, kq_dvn, kt_lt, kf_lt, kt_eq, kf_eq, decide_true, decide_false, eq_self, Bool.false_eq_true, Bool.true_eq_false, not_true_eq_false, not_false_eq_true, jU_eq, jU_ne, jU_U, jV_eq, jV_ne, jV_V, kn_lit, kn_add, kn_mul, kn_sdm, kn_sub, kn_div, kn_nsdm, kn_lt, kn_eq, kn_pred, kn_m1, kn_m1', kn_a31, kn_shl, kn_shr, kn_bit, nB_0, nB_1, nB_t, nB_f, Nat.zero_add, Nat.add_zero, Nat.reduceAdd, Nat.reduceMul, Nat.reduceSub, Nat.reducePow]
    exact jW_s fin
end

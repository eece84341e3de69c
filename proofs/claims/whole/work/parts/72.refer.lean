/-! PLAIN LEAN, 38: texts; the reference reads -/
def jTB (J : Nat → Nat → Int32) (tp : Nat → Nat) (n : Nat) : Prop := J 205 2 = nI n ∧ n ≤ 600 ∧ (∀ k, k < n → J 206 k = nI (tp k)) ∧ ∀ k, tp k < 256
def jTM (J : Nat → Nat → Int32) (tp : Nat → Nat) (n : Nat) (y : JTs) : Prop := jTB J tp n ∧ jTy n y ∧ (J 205 5 = nI y.2.1 ∧ J 205 6 = nF y) ∧ ∃ q, q ≤ n ∧ J 205 4 = nI q ∧ (y.2.1 = 0 → s_skp c_bl tp n q = s_skp c_bl tp n y.1)
/-- where the reference reads has changed alone -/
def jM1 (J K : Nat → Nat → Int32) : Prop := (∀ f, ¬ f = 4 → ¬ f = 5 → ¬ f = 6 → K 205 f = J 205 f) ∧ ∀ a, ¬ a = 205 → K a = J a
def s_byt (tp : Nat → Nat) (n p : Nat) : Option Nat := if p < n then some (tp p) else none
theorem s_byt_lt {tp : Nat → Nat} {n p v : Nat} (h256 : ∀ k, tp k < 256) (h : s_byt tp n p = some v) : v < 256 := by
  unfold s_byt at h
  split at h
  · cases h; exact h256 p
  · cases h
theorem s_skp_id {c : Nat → Bool} {tp : Nat → Nat} {n p : Nat} (hp : p ≤ n) : s_skp c tp n (s_skp c tp n p) = s_skp c tp n p := by
  obtain ⟨g1, g2⟩ := s_skp_ge (c := c) (tp := tp) hp
  by_cases h : s_skp c tp n p < n
  · rw [s_skp_s h, if_neg (by rw [s_skp_end hp h]; decide)]
  · have e : s_skp c tp n p = n := by omega
    rw [e, s_skp_n]
section
variable {t u l m b c : Nat} {h : LH} {I J K : Nat → Nat → Int32} {τ : JTn} {tp : Nat → Nat} {n p : Nat} {y : JTs} {x : Int32} {X : LH}
theorem jM1_trans {L : Nat → Nat → Int32} (h1 : jM1 J K) (h2 : jM1 K L) : jM1 J L := ⟨fun f a1 a2 a3 => (h2.1 f a1 a2 a3).trans (h1.1 f a1 a2 a3), fun a ha => (h2.2 a ha).trans (h1.2 a ha)⟩
theorem jM1_V {f : Nat} (hf : f = 4 ∨ f = 5 ∨ f = 6) {x : Int32} : jM1 K (jU K 205 (jV (K 205) f x)) := ⟨fun g a1 a2 a3 => by rw [jU_eq, jV_ne (by omega)], fun a ha => jU_ne ha⟩
theorem jM1_r : jM1 J J := ⟨fun _ _ _ _ => rfl, fun _ _ => rfl⟩
theorem jTB_M1 (hB : jTB J tp n) (h1 : jM1 J K) : jTB K tp n := ⟨(h1.1 2 (by omega) (by omega) (by omega)).trans hB.1, hB.2.1, fun k hk => by rw [h1.2 206 (by omega)]; exact hB.2.2.1 k hk, hB.2.2.2⟩
theorem m_byteAt (hL : jLay t u l m b c h) (hB : jTB J tp n) (hp : p < 10000) : F_Mod_byteAt 205 (nI p) (jz_I h J) = some (nO (s_byt tp n p), jz_I h J) := by
  obtain ⟨b2, bn, bt, -⟩ := hB
  unfold F_Mod_byteAt s_byt
  by_cases z : p < n
  · have e := bt p z
    rw [if_pos z]
    simp (disch := omega) only [b2, e, F_Mod_byteAt_b18, nO_some, ↓dK_205 hL, ↓dG_205 hL, ↓dP_205 hL, ↓dZ_205 hL (x := nI 0) (Or.inl rfl), ↓dZ_205 hL (x := nI 1) (Or.inr rfl), ↓dZ_205 hL (Or.inl rfl), ↓dZ_205 hL (Or.inr rfl), ↓dZ_205 hL (nB_01 _), ↓dR_205_9 hL, dI_206 hL, dS_206 hL, ↓reduceIte, ↓kq_bi, ↓kq_let, ↓kq_rz0, ↓kq_rz1, ↓kq_rzB, ↓Option.bind_some, kq_dvn, kt_lt, kf_lt, kt_eq, kf_eq, decide_true, decide_false, eq_self, Bool.false_eq_true, Bool.true_eq_false, not_true_eq_false, not_false_eq_true, jU_eq, jU_ne, jU_U, jV_eq, jV_ne, jV_V, kn_lit, kn_add, kn_mul, kn_sdm, kn_sub, kn_div, kn_nsdm, kn_lt, kn_eq, kn_pred, kn_m1, kn_m1', kn_a31, kn_shl, kn_shr, kn_bit, nB_0, nB_1, nB_t, nB_f, Nat.zero_add, Nat.add_zero, Nat.reduceAdd, Nat.reduceMul, Nat.reduceSub, Nat.reducePow]
  · rw [if_neg z]
    simp (disch := omega) only [b2, F_Mod_byteAt_b18, nO_none, ↓dK_205 hL, ↓dG_205 hL, ↓dP_205 hL, ↓dZ_205 hL (x := nI 0) (Or.inl rfl), ↓dZ_205 hL (x := nI 1) (Or.inr rfl), ↓dZ_205 hL (Or.inl rfl), ↓dZ_205 hL (Or.inr rfl), ↓dZ_205 hL (nB_01 _), ↓dR_205_9 hL, dI_206 hL, dS_206 hL, ↓reduceIte, ↓kq_bi, ↓kq_let, ↓kq_rz0, ↓kq_rz1, ↓kq_rzB, ↓Option.bind_some, kq_dvn, kt_lt, kf_lt, kt_eq, kf_eq, decide_true, decide_false, eq_self, Bool.false_eq_true, Bool.true_eq_false, not_true_eq_false, not_false_eq_true, jU_eq, jU_ne, jU_U, jV_eq, jV_ne, jV_V, kn_lit, kn_add, kn_mul, kn_sdm, kn_sub, kn_div, kn_nsdm, kn_lt, kn_eq, kn_pred, kn_m1, kn_m1', kn_a31, kn_shl, kn_shr, kn_bit, nB_0, nB_1, nB_t, nB_f, Nat.zero_add, Nat.add_zero, Nat.reduceAdd, Nat.reduceMul, Nat.reduceSub, Nat.reducePow]
theorem m_isSmall {o : Option Nat} (ho : ∀ v, o = some v → v < 256) : F_Mod_isSmall (nO o) X = some (nB (o.elim false c_sm), X) := by
  unfold F_Mod_isSmall
  cases o with
  | none =>
    have e : (-nI 1 < nI 97) = True := by decide
    simp (disch := omega) only [nO_none, e, F_Mod_isSmall_b16, F_Mod_isSmall_b17, ↓reduceIte, ↓kq_bi, ↓kq_let, ↓kq_rz0, ↓kq_rz1, ↓kq_rzB, ↓Option.bind_some, kq_dvn, kt_lt, kf_lt, kt_eq, kf_eq, decide_true, decide_false, eq_self, Bool.false_eq_true, Bool.true_eq_false, not_true_eq_false, not_false_eq_true, jU_eq, jU_ne, jU_U, jV_eq, jV_ne, jV_V, kn_lit, kn_add, kn_mul, kn_sdm, kn_sub, kn_div, kn_nsdm, kn_lt, kn_eq, kn_pred, kn_m1, kn_m1', kn_a31, kn_shl, kn_shr, kn_bit, nB_0, nB_1, nB_t, nB_f, Nat.zero_add, Nat.add_zero, Nat.reduceAdd, Nat.reduceMul, Nat.reduceSub, Nat.reducePow]
    rfl
  | some v =>
    have hv := ho v rfl
    rw [show (some v).elim false c_sm = decide (97 ≤ v ∧ v ≤ 122) from rfl]
    by_cases z1 : v < 97
    · rw [decide_eq_false (by omega)]
      simp (disch := omega) only [nO_some, F_Mod_isSmall_b16, F_Mod_isSmall_b17, ↓reduceIte, ↓kq_bi, ↓kq_let, ↓kq_rz0, ↓kq_rz1, ↓kq_rzB, ↓Option.bind_some, kq_dvn, kt_lt, kf_lt, kt_eq, kf_eq, decide_true, decide_false, eq_self, Bool.false_eq_true, Bool.true_eq_false, not_true_eq_false, not_false_eq_true, jU_eq, jU_ne, jU_U, jV_eq, jV_ne, jV_V, kn_lit, kn_add, kn_mul, kn_sdm, kn_sub, kn_div, kn_nsdm, kn_lt, kn_eq, kn_pred, kn_m1, kn_m1', kn_a31, kn_shl, kn_shr, kn_bit, nB_0, nB_1, nB_t, nB_f, Nat.zero_add, Nat.add_zero, Nat.reduceAdd, Nat.reduceMul, Nat.reduceSub, Nat.reducePow]
    · by_cases z2 : 122 < v
      · rw [decide_eq_false (by omega)]
        simp (disch := omega) only [nO_some, F_Mod_isSmall_b16, F_Mod_isSmall_b17, ↓reduceIte, ↓kq_bi, ↓kq_let, ↓kq_rz0, ↓kq_rz1, ↓kq_rzB, ↓Option.bind_some, kq_dvn, kt_lt, kf_lt, kt_eq, kf_eq, decide_true, decide_false, eq_self, Bool.false_eq_true, Bool.true_eq_false, not_true_eq_false, not_false_eq_true, jU_eq, jU_ne, jU_U, jV_eq, jV_ne, jV_V, kn_lit, kn_add, kn_mul, kn_sdm, kn_sub, kn_div, kn_nsdm, kn_lt, kn_eq, kn_pred, kn_m1, kn_m1', kn_a31, kn_shl, kn_shr, kn_bit, nB_0, nB_1, nB_t, nB_f, Nat.zero_add, Nat.add_zero, Nat.reduceAdd, Nat.reduceMul, Nat.reduceSub, Nat.reducePow]
      · rw [decide_eq_true (by omega)]
        simp (disch := omega) only [nO_some, F_Mod_isSmall_b16, F_Mod_isSmall_b17, ↓reduceIte, ↓kq_bi, ↓kq_let, ↓kq_rz0, ↓kq_rz1, ↓kq_rzB, ↓Option.bind_some, kq_dvn, kt_lt, kf_lt, kt_eq, kf_eq, decide_true, decide_false, eq_self, Bool.false_eq_true, Bool.true_eq_false, not_true_eq_false, not_false_eq_true, jU_eq, jU_ne, jU_U, jV_eq, jV_ne, jV_V, kn_lit, kn_add, kn_mul, kn_sdm, kn_sub, kn_div, kn_nsdm, kn_lt, kn_eq, kn_pred, kn_m1, kn_m1', kn_a31, kn_shl, kn_shr, kn_bit, nB_0, nB_1, nB_t, nB_f, Nat.zero_add, Nat.add_zero, Nat.reduceAdd, Nat.reduceMul, Nat.reduceSub, Nat.reducePow]
theorem m_isDigit {o : Option Nat} (ho : ∀ v, o = some v → v < 256) : F_Mod_isDigit (nO o) X = some (nB (o.elim false c_dg), X) := by
  unfold F_Mod_isDigit
  cases o with
  | none =>
    have e : (-nI 1 < nI 48) = True := by decide
    simp (disch := omega) only [nO_none, e, F_Mod_isDigit_b16, F_Mod_isDigit_b17, ↓reduceIte, ↓kq_bi, ↓kq_let, ↓kq_rz0, ↓kq_rz1, ↓kq_rzB, ↓Option.bind_some, kq_dvn, kt_lt, kf_lt, kt_eq, kf_eq, decide_true, decide_false, eq_self, Bool.false_eq_true, Bool.true_eq_false, not_true_eq_false, not_false_eq_true, jU_eq, jU_ne, jU_U, jV_eq, jV_ne, jV_V, kn_lit, kn_add, kn_mul, kn_sdm, kn_sub, kn_div, kn_nsdm, kn_lt, kn_eq, kn_pred, kn_m1, kn_m1', kn_a31, kn_shl, kn_shr, kn_bit, nB_0, nB_1, nB_t, nB_f, Nat.zero_add, Nat.add_zero, Nat.reduceAdd, Nat.reduceMul, Nat.reduceSub, Nat.reducePow]
    rfl
  | some v =>
    have hv := ho v rfl
    rw [show (some v).elim false c_dg = decide (48 ≤ v ∧ v ≤ 57) from rfl]
    by_cases z1 : v < 48
    · rw [decide_eq_false (by omega)]
      simp (disch := omega) only [nO_some, F_Mod_isDigit_b16, F_Mod_isDigit_b17, ↓reduceIte, ↓kq_bi, ↓kq_let, ↓kq_rz0, ↓kq_rz1, ↓kq_rzB, ↓Option.bind_some, kq_dvn, kt_lt, kf_lt, kt_eq, kf_eq, decide_true, decide_false, eq_self, Bool.false_eq_true, Bool.true_eq_false, not_true_eq_false, not_false_eq_true, jU_eq, jU_ne, jU_U, jV_eq, jV_ne, jV_V, kn_lit, kn_add, kn_mul, kn_sdm, kn_sub, kn_div, kn_nsdm, kn_lt, kn_eq, kn_pred, kn_m1, kn_m1', kn_a31, kn_shl, kn_shr, kn_bit, nB_0, nB_1, nB_t, nB_f, Nat.zero_add, Nat.add_zero, Nat.reduceAdd, Nat.reduceMul, Nat.reduceSub, Nat.reducePow]
    · by_cases z2 : 57 < v
      · rw [decide_eq_false (by omega)]
        simp (disch := omega) only [nO_some, F_Mod_isDigit_b16, F_Mod_isDigit_b17, ↓reduceIte, ↓kq_bi, ↓kq_let, ↓kq_rz0, ↓kq_rz1, ↓kq_rzB, ↓Option.bind_some, kq_dvn, kt_lt, kf_lt, kt_eq, kf_eq, decide_true, decide_false, eq_self, Bool.false_eq_true, Bool.true_eq_false, not_true_eq_false, not_false_eq_true, jU_eq, jU_ne, jU_U, jV_eq, jV_ne, jV_V, kn_lit, kn_add, kn_mul, kn_sdm, kn_sub, kn_div, kn_nsdm, kn_lt, kn_eq, kn_pred, kn_m1, kn_m1', kn_a31, kn_shl, kn_shr, kn_bit, nB_0, nB_1, nB_t, nB_f, Nat.zero_add, Nat.add_zero, Nat.reduceAdd, Nat.reduceMul, Nat.reduceSub, Nat.reducePow]
      · rw [decide_eq_true (by omega)]
        simp (disch := omega) only [nO_some, F_Mod_isDigit_b16, F_Mod_isDigit_b17, ↓reduceIte, ↓kq_bi, ↓kq_let, ↓kq_rz0, ↓kq_rz1, ↓kq_rzB, ↓Option.bind_some, kq_dvn, kt_lt, kf_lt, kt_eq, kf_eq, decide_true, decide_false, eq_self, Bool.false_eq_true, Bool.true_eq_false, not_true_eq_false, not_false_eq_true, jU_eq, jU_ne, jU_U, jV_eq, jV_ne, jV_V, kn_lit, kn_add, kn_mul, kn_sdm, kn_sub, kn_div, kn_nsdm, kn_lt, kn_eq, kn_pred, kn_m1, kn_m1', kn_a31, kn_shl, kn_shr, kn_bit, nB_0, nB_1, nB_t, nB_f, Nat.zero_add, Nat.add_zero, Nat.reduceAdd, Nat.reduceMul, Nat.reduceSub, Nat.reducePow]
theorem m_blanks (hL : jLay t u l m b c h) (hB : jTB J tp n) (hp : p ≤ n) (h4 : J 205 4 = nI p) : F_Mod_blanks 205 (jz_I h J) = some (jz_I h (jU J 205 (jV (J 205) 4 (nI (s_skp c_bl tp n p))))) := by
  obtain ⟨g1, g2⟩ := s_skp_ge (c := c_bl) (tp := tp) hp
  have hn : n ≤ 600 := hB.2.1
  have key : ∃ K, F_Mod_blanks 205 (jz_I h J) = some (jz_I h K) ∧ K = jU J 205 (jV (J 205) 4 (nI (s_skp c_bl tp n p))) := by
    refine jE_n (fun P hP => ?_)
    unfold F_Mod_blanks
    have hP := hP _ rfl
    rw [show jz_I h J = jz_I h (jU J 205 (jV (J 205) 4 (nI (p + 0)))) from by rw [Nat.add_zero, ← h4, jV_id, jU_id]]
    refine jW_for0 (f := fun fuel k (_ : Unit) => F_Mod_blanks_l0 fuel 205 (jz_I h (jU J 205 (jV (J 205) 4 (nI (p + k)))))) (s_skp c_bl tp n p - p) (fun _ _ => True) () trivial (by omega) (fun F k _ hk _ ih => ?_) (fun F _ _ => ?_)
    · have hc := s_skp_in (c := c_bl) (tp := tp) (n := n) (p := p) (j := p + k) (by omega) (by omega)
      have hc : tp (p + k) = 32 := of_decide_eq_true hc
      have ih' : jW (F_Mod_blanks_l0 F 205 (jz_I h (jU J 205 (jV (J 205) 4 (nI (p + (k + 1))))))) P := ih () trivial
      have hby := m_byteAt hL (jTB_M1 hB (jM1_V (Or.inl rfl) (x := nI (p + k)))) (p := p + k) (by omega)
      rw [show s_byt tp n (p + k) = some 32 by unfold s_byt; rw [if_pos (by omega), hc], nO_some] at hby
      show jW (F_Mod_blanks_c0 (F_Mod_blanks_l0 F) 205 (jz_I h (jU J 205 (jV (J 205) 4 (nI (p + k)))))) P
      unfold F_Mod_blanks_c0
      simp (disch := omega) only [hby, Nat.add_assoc, ↓dK_205 hL, ↓dG_205 hL, ↓dP_205 hL, ↓dZ_205 hL (x := nI 0) (Or.inl rfl), ↓dZ_205 hL (x := nI 1) (Or.inr rfl), ↓dZ_205 hL (Or.inl rfl), ↓dZ_205 hL (Or.inr rfl), ↓dZ_205 hL (nB_01 _), ↓reduceIte, ↓kq_bi, ↓kq_let, ↓kq_rz0, ↓kq_rz1, ↓kq_rzB, ↓Option.bind_some, kq_dvn, kt_lt, kf_lt, kt_eq, kf_eq, decide_true, decide_false, eq_self, Bool.false_eq_true, Bool.true_eq_false, not_true_eq_false, not_false_eq_true, jU_eq, jU_ne, jU_U, jV_eq, jV_ne, jV_V, kn_lit, kn_add, kn_mul, kn_sdm, kn_sub, kn_div, kn_nsdm, kn_lt, kn_eq, kn_pred, kn_m1, kn_m1', kn_a31, kn_shl, kn_shr, kn_bit, nB_0, nB_1, nB_t, nB_f, Nat.zero_add, Nat.add_zero, Nat.reduceAdd, Nat.reduceMul, Nat.reduceSub, Nat.reducePow]
      exact ih'
    · have eN : p + (s_skp c_bl tp n p - p) = s_skp c_bl tp n p := by omega
      show jW (F_Mod_blanks_c0 (F_Mod_blanks_l0 F) 205 (jz_I h (jU J 205 (jV (J 205) 4 (nI (p + (s_skp c_bl tp n p - p))))))) P
      rw [eN]
      have en := fun z => s_skp_end (c := c_bl) (tp := tp) hp z
      generalize s_skp c_bl tp n p = q at g1 g2 en hP
      have hby := m_byteAt hL (jTB_M1 hB (jM1_V (Or.inl rfl) (x := nI q))) (p := q) (by omega)
      have h32 : (nO (s_byt tp n q) = nI 32) = False := by
        unfold s_byt
        by_cases z : q < n
        · have hc : ¬ tp q = 32 := of_decide_eq_false (en z)
          have := hB.2.2.2 q
          rw [if_pos z, nO_some, kn_eq (by omega) (by omega)]
          exact eq_false hc
        · rw [if_neg z, nO_none, kn_m1' (by omega)]
      unfold F_Mod_blanks_c0
      simp (disch := omega) only [hby, h32, ↓dK_205 hL, ↓dG_205 hL, ↓dP_205 hL, ↓dZ_205 hL (x := nI 0) (Or.inl rfl), ↓dZ_205 hL (x := nI 1) (Or.inr rfl), ↓dZ_205 hL (Or.inl rfl), ↓dZ_205 hL (Or.inr rfl), ↓dZ_205 hL (nB_01 _), ↓reduceIte, ↓kq_bi, ↓kq_let, ↓kq_rz0, ↓kq_rz1, ↓kq_rzB, ↓Option.bind_some, kq_dvn, kt_lt, kf_lt, kt_eq, kf_eq, decide_true, decide_false, eq_self, Bool.false_eq_true, Bool.true_eq_false, not_true_eq_false, not_false_eq_true, jU_eq, jU_ne, jU_U, jV_eq, jV_ne, jV_V, kn_lit, kn_add, kn_mul, kn_sdm, kn_sub, kn_div, kn_nsdm, kn_lt, kn_eq, kn_pred, kn_m1, kn_m1', kn_a31, kn_shl, kn_shr, kn_bit, nB_0, nB_1, nB_t, nB_f, Nat.zero_add, Nat.add_zero, Nat.reduceAdd, Nat.reduceMul, Nat.reduceSub, Nat.reducePow]
      exact jW_s hP
  obtain ⟨K, e1, e2⟩ := key
  rw [e1, e2]
theorem jTM_nx (hT : jTM J tp n y) : jTM J tp n (s_nx tp n y) := by
  obtain ⟨hB, hy, h56, hq⟩ := hT
  obtain ⟨q, q1, q2, q3⟩ := hq
  refine ⟨hB, s_nx_y hy, ?_, q, q1, q2, fun h0 => ?_⟩
  · unfold s_nx
    split <;> exact h56
  · by_cases z : y.2.1 = 0
    · have e : s_nx tp n y = (s_skp c_bl tp n y.1, y.2) := if_pos z
      rw [e, q3 z]
      exact (s_skp_id hy.1).symm
    · have e : s_nx tp n y = y := if_neg z
      rw [e] at h0
      exact absurd h0 z
/-- behind blanks -/
theorem m_bl (hL : jLay t u l m b c h) (hT : jTM J tp n y) (h0 : y.2.1 = 0) : ∃ K, F_Mod_blanks 205 (jz_I h J) = some (jz_I h K) ∧ jTM K tp n y ∧ K 205 4 = nI (s_skp c_bl tp n y.1) ∧ jM1 J K := by
  obtain ⟨hB, hy, h56, hq⟩ := hT
  obtain ⟨q, q1, q2, q3⟩ := hq
  have q3 := q3 h0
  have hM := jM1_V (K := J) (f := 4) (Or.inl rfl) (x := nI (s_skp c_bl tp n q))
  refine ⟨_, m_blanks hL hB q1 q2, ⟨jTB_M1 hB hM, hy, ⟨by rw [jU_eq, jV_ne (by omega)]; exact h56.1, by rw [jU_eq, jV_ne (by omega)]; exact h56.2⟩, s_skp c_bl tp n q, (s_skp_ge q1).2, by rw [jU_eq, jV_eq], fun _ => by rw [s_skp_id q1, q3]⟩, by rw [jU_eq, jV_eq, q3], hM⟩
theorem m_wrong (hL : jLay t u l m b c h) (hT : jTM J tp n y) {k w : Nat} (hk : 1 ≤ k) (hk3 : k ≤ 3) (hw : w ≤ n) : ∃ K, F_Mod_wrong 205 (nI k) (nI w) (jz_I h J) = some (jz_I h K) ∧ jTM K tp n (s_fa k w y) ∧ K 205 4 = J 205 4 ∧ jM1 J K := by
  obtain ⟨hB, hy, h56, hq⟩ := hT
  have hy' := s_fa_y (k := k) (w := w) hy hk3 hw
  have h5 := h56.1
  have y2 := hy.2.1
  refine jE_n (fun P hP => ?_)
  unfold F_Mod_wrong
  by_cases h0 : y.2.1 = 0
  · have e : s_fa k w y = (y.1, k, w) := if_pos h0
    rw [e] at hP hy'
    rw [h0] at h5
    have enF : nF (y.1, k, w) = nI w := if_neg (by show ¬ k = 0; omega)
    have hM := jM1_trans (jM1_V (K := J) (f := 5) (Or.inr (Or.inl rfl)) (x := nI k)) (jM1_V (f := 6) (Or.inr (Or.inr rfl)) (x := nI w))
    simp (disch := omega) only [jU_eq, jU_U] at hM
    simp (disch := omega) only [h5, F_Mod_wrong_b17, ↓dK_205 hL, ↓dG_205 hL, ↓dP_205 hL, ↓dZ_205 hL (x := nI 0) (Or.inl rfl), ↓dZ_205 hL (x := nI 1) (Or.inr rfl), ↓dZ_205 hL (Or.inl rfl), ↓dZ_205 hL (Or.inr rfl), ↓dZ_205 hL (nB_01 _), ↓reduceIte, ↓kq_bi, ↓kq_let, ↓kq_rz0, ↓kq_rz1, ↓kq_rzB, ↓Option.bind_some, kq_dvn, kt_lt, kf_lt, kt_eq, kf_eq, decide_true, decide_false, eq_self, Bool.false_eq_true, Bool.true_eq_false, not_true_eq_false, not_false_eq_true, jU_eq, jU_ne, jU_U, jV_eq, jV_ne, jV_V, kn_lit, kn_add, kn_mul, kn_sdm, kn_sub, kn_div, kn_nsdm, kn_lt, kn_eq, kn_pred, kn_m1, kn_m1', kn_a31, kn_shl, kn_shr, kn_bit, nB_0, nB_1, nB_t, nB_f, Nat.zero_add, Nat.add_zero, Nat.reduceAdd, Nat.reduceMul, Nat.reduceSub, Nat.reducePow]
    obtain ⟨q, q1, q2, -⟩ := hq
    refine jW_s (hP _ ⟨⟨jTB_M1 hB hM, hy', ⟨?_, ?_⟩, q, q1, ?_, fun z => ?_⟩, ?_, hM⟩)
    · simp (disch := omega) only [jU_eq, jV_ne, jV_eq]
    · rw [enF]; simp (disch := omega) only [jU_eq, jV_ne, jV_eq]
    · simp (disch := omega) only [jU_eq, jV_ne, jV_eq]; exact q2
    · have z : k = 0 := z
      omega
    · simp (disch := omega) only [jU_eq, jV_ne, jV_eq]
  · have e : s_fa k w y = y := if_neg h0
    rw [e] at hP
    simp (disch := omega) only [h5, F_Mod_wrong_b17, ↓dK_205 hL, ↓dG_205 hL, ↓dP_205 hL, ↓dZ_205 hL (x := nI 0) (Or.inl rfl), ↓dZ_205 hL (x := nI 1) (Or.inr rfl), ↓dZ_205 hL (Or.inl rfl), ↓dZ_205 hL (Or.inr rfl), ↓dZ_205 hL (nB_01 _), ↓reduceIte, ↓kq_bi, ↓kq_let, ↓kq_rz0, ↓kq_rz1, ↓kq_rzB, ↓Option.bind_some, kq_dvn, kt_lt, kf_lt, kt_eq, kf_eq, decide_true, decide_false, eq_self, Bool.false_eq_true, Bool.true_eq_false, not_true_eq_false, not_false_eq_true, jU_eq, jU_ne, jU_U, jV_eq, jV_ne, jV_V, kn_lit, kn_add, kn_mul, kn_sdm, kn_sub, kn_div, kn_nsdm, kn_lt, kn_eq, kn_pred, kn_m1, kn_m1', kn_a31, kn_shl, kn_shr, kn_bit, nB_0, nB_1, nB_t, nB_f, Nat.zero_add, Nat.add_zero, Nat.reduceAdd, Nat.reduceMul, Nat.reduceSub, Nat.reducePow]
    exact jW_s (hP J ⟨⟨hB, hy, h56, hq⟩, rfl, jM1_r⟩)
theorem s_nc0 (h0 : y.2.1 = 0) : s_nc tp n y = s_byt tp n (s_skp c_bl tp n y.1) := by
  unfold s_nc s_byt
  by_cases z : s_skp c_bl tp n y.1 < n
  · rw [if_pos ⟨h0, z⟩, if_pos z]
  · rw [if_neg (fun a => z a.2), if_neg z]
theorem s_tk_no (h0 : ¬ y.2.1 = 0) {ch : Nat} : s_tk tp n ch y = false := decide_eq_false (fun a => h0 (s_nc_ex a).1)
/-- at is set anew -/
theorem jTM_at (hT : jTM J tp n y) {q : Nat} (hq : q ≤ n) : jTM (jU J 205 (jV (J 205) 4 (nI q))) tp n (q, y.2) := by
  obtain ⟨hB, hy, h56, -⟩ := hT
  exact ⟨jTB_M1 hB (jM1_V (Or.inl rfl)), ⟨hq, hy.2⟩, ⟨by rw [jU_eq, jV_ne (by omega)]; exact h56.1, by rw [jU_eq, jV_ne (by omega)]; exact h56.2⟩, q, hq, by rw [jU_eq, jV_eq], fun _ => rfl⟩
theorem m_sign (hL : jLay t u l m b c h) (hT : jTM J tp n y) {ch : Nat} (hch : ch < 256) : ∃ K, F_Mod_sign 205 (nI ch) (jz_I h J) = some (jz_I h K) ∧ jTM K tp n (s_nd tp n ch y) ∧ jM1 J K := by
  have hy := hT.2.1
  have h5 := hT.2.2.1.1
  have y2 := hy.2.1
  refine jE_n (fun P hP => ?_)
  unfold F_Mod_sign
  by_cases h0 : y.2.1 = 0
  · rw [h0] at h5
    simp (disch := omega) only [h5, ↓dK_205 hL, ↓dG_205 hL, ↓dP_205 hL, ↓dZ_205 hL (x := nI 0) (Or.inl rfl), ↓dZ_205 hL (x := nI 1) (Or.inr rfl), ↓dZ_205 hL (Or.inl rfl), ↓dZ_205 hL (Or.inr rfl), ↓dZ_205 hL (nB_01 _), ↓reduceIte, ↓kq_bi, ↓kq_let, ↓kq_rz0, ↓kq_rz1, ↓kq_rzB, ↓Option.bind_some, kq_dvn, kt_lt, kf_lt, kt_eq, kf_eq, decide_true, decide_false, eq_self, Bool.false_eq_true, Bool.true_eq_false, not_true_eq_false, not_false_eq_true, jU_eq, jU_ne, jU_U, jV_eq, jV_ne, jV_V, kn_lit, kn_add, kn_mul, kn_sdm, kn_sub, kn_div, kn_nsdm, kn_lt, kn_eq, kn_pred, kn_m1, kn_m1', kn_a31, kn_shl, kn_shr, kn_bit, nB_0, nB_1, nB_t, nB_f, Nat.zero_add, Nat.add_zero, Nat.reduceAdd, Nat.reduceMul, Nat.reduceSub, Nat.reducePow]
    refine jW_bn (m_bl hL hT h0) (fun K hK => ?_)
    obtain ⟨k1, k4, kM⟩ := hK
    have hp := (s_skp_ge (c := c_bl) (tp := tp) hy.1).2
    have hn := hy.2.2.2
    have hby := m_byteAt hL k1.1 (p := s_skp c_bl tp n y.1) (by omega)
    have ech := nO_ch (n := n) (y := y) hT.1.2.2.2 hch
    rw [s_nc0 h0] at ech
    have ey : s_nx tp n y = (s_skp c_bl tp n y.1, y.2) := if_pos h0
    have kx := jTM_nx k1
    unfold s_nd at hP
    cases hc : s_tk tp n ch y
    · rw [hc, if_neg (show ¬ false = true by decide)] at hP
      rw [hc] at ech
      simp (disch := omega) only [k4, hby, ech, ↓dK_205 hL, ↓dG_205 hL, ↓dP_205 hL, ↓dZ_205 hL (x := nI 0) (Or.inl rfl), ↓dZ_205 hL (x := nI 1) (Or.inr rfl), ↓dZ_205 hL (Or.inl rfl), ↓dZ_205 hL (Or.inr rfl), ↓dZ_205 hL (nB_01 _), ↓reduceIte, ↓kq_bi, ↓kq_let, ↓kq_rz0, ↓kq_rz1, ↓kq_rzB, ↓Option.bind_some, kq_dvn, kt_lt, kf_lt, kt_eq, kf_eq, decide_true, decide_false, eq_self, Bool.false_eq_true, Bool.true_eq_false, not_true_eq_false, not_false_eq_true, jU_eq, jU_ne, jU_U, jV_eq, jV_ne, jV_V, kn_lit, kn_add, kn_mul, kn_sdm, kn_sub, kn_div, kn_nsdm, kn_lt, kn_eq, kn_pred, kn_m1, kn_m1', kn_a31, kn_shl, kn_shr, kn_bit, nB_0, nB_1, nB_t, nB_f, Nat.zero_add, Nat.add_zero, Nat.reduceAdd, Nat.reduceMul, Nat.reduceSub, Nat.reducePow]
      refine jW_bn (m_wrong hL kx (show 1 ≤ 1 by omega) (by omega) hp) (fun L hL' => ?_)
      simp (disch := omega) only [F_Mod_sign_b46, ↓reduceIte, ↓kq_bi, ↓kq_let, ↓kq_rz0, ↓kq_rz1, ↓kq_rzB, ↓Option.bind_some, kq_dvn, kt_lt, kf_lt, kt_eq, kf_eq, decide_true, decide_false, eq_self, Bool.false_eq_true, Bool.true_eq_false, not_true_eq_false, not_false_eq_true, jU_eq, jU_ne, jU_U, jV_eq, jV_ne, jV_V, kn_lit, kn_add, kn_mul, kn_sdm, kn_sub, kn_div, kn_nsdm, kn_lt, kn_eq, kn_pred, kn_m1, kn_m1', kn_a31, kn_shl, kn_shr, kn_bit, nB_0, nB_1, nB_t, nB_f, Nat.zero_add, Nat.add_zero, Nat.reduceAdd, Nat.reduceMul, Nat.reduceSub, Nat.reducePow]
      rw [ey] at hL'
      rw [ey] at hP
      exact jW_s (hP L ⟨hL'.1, jM1_trans kM hL'.2.2⟩)
    · rw [hc, if_pos (show true = true from rfl), ey] at hP
      obtain ⟨-, -, e3, -⟩ := s_nc_ex (of_decide_eq_true hc)
      rw [hc] at ech
      simp (disch := omega) only [k4, hby, ech, F_Mod_sign_b46, ↓dK_205 hL, ↓dG_205 hL, ↓dP_205 hL, ↓dZ_205 hL (x := nI 0) (Or.inl rfl), ↓dZ_205 hL (x := nI 1) (Or.inr rfl), ↓dZ_205 hL (Or.inl rfl), ↓dZ_205 hL (Or.inr rfl), ↓dZ_205 hL (nB_01 _), ↓reduceIte, ↓kq_bi, ↓kq_let, ↓kq_rz0, ↓kq_rz1, ↓kq_rzB, ↓Option.bind_some, kq_dvn, kt_lt, kf_lt, kt_eq, kf_eq, decide_true, decide_false, eq_self, Bool.false_eq_true, Bool.true_eq_false, not_true_eq_false, not_false_eq_true, jU_eq, jU_ne, jU_U, jV_eq, jV_ne, jV_V, kn_lit, kn_add, kn_mul, kn_sdm, kn_sub, kn_div, kn_nsdm, kn_lt, kn_eq, kn_pred, kn_m1, kn_m1', kn_a31, kn_shl, kn_shr, kn_bit, nB_0, nB_1, nB_t, nB_f, Nat.zero_add, Nat.add_zero, Nat.reduceAdd, Nat.reduceMul, Nat.reduceSub, Nat.reducePow]
      exact jW_s (hP _ ⟨jTM_at k1 (by omega), jM1_trans kM (jM1_V (Or.inl rfl))⟩)
  · have ey : s_nx tp n y = y := if_neg h0
    unfold s_nd at hP
    rw [s_tk_no h0, if_neg (show ¬ false = true by decide), ey, show s_fa 1 y.1 y = y from if_neg h0] at hP
    simp (disch := omega) only [h5, ↓dK_205 hL, ↓dG_205 hL, ↓dP_205 hL, ↓dZ_205 hL (x := nI 0) (Or.inl rfl), ↓dZ_205 hL (x := nI 1) (Or.inr rfl), ↓dZ_205 hL (Or.inl rfl), ↓dZ_205 hL (Or.inr rfl), ↓dZ_205 hL (nB_01 _), ↓reduceIte, ↓kq_bi, ↓kq_let, ↓kq_rz0, ↓kq_rz1, ↓kq_rzB, ↓Option.bind_some, kq_dvn, kt_lt, kf_lt, kt_eq, kf_eq, decide_true, decide_false, eq_self, Bool.false_eq_true, Bool.true_eq_false, not_true_eq_false, not_false_eq_true, jU_eq, jU_ne, jU_U, jV_eq, jV_ne, jV_V, kn_lit, kn_add, kn_mul, kn_sdm, kn_sub, kn_div, kn_nsdm, kn_lt, kn_eq, kn_pred, kn_m1, kn_m1', kn_a31, kn_shl, kn_shr, kn_bit, nB_0, nB_1, nB_t, nB_f, Nat.zero_add, Nat.add_zero, Nat.reduceAdd, Nat.reduceMul, Nat.reduceSub, Nat.reducePow]
    exact jW_s (hP J ⟨hT, jM1_r⟩)
theorem m_takesSign (hL : jLay t u l m b c h) (hT : jTM J tp n y) {ch : Nat} (hch : ch < 256) : ∃ K, F_Mod_takesSign 205 (nI ch) (jz_I h J) = some (nB (s_tk tp n ch y), jz_I h K) ∧ jTM K tp n (s_tks tp n ch y) ∧ jM1 J K := by
  have hy := hT.2.1
  have h5 := hT.2.2.1.1
  have y2 := hy.2.1
  refine jE_i (fun P hP => ?_)
  unfold F_Mod_takesSign
  by_cases h0 : y.2.1 = 0
  · rw [h0] at h5
    simp (disch := omega) only [h5, ↓dK_205 hL, ↓dG_205 hL, ↓dP_205 hL, ↓dZ_205 hL (x := nI 0) (Or.inl rfl), ↓dZ_205 hL (x := nI 1) (Or.inr rfl), ↓dZ_205 hL (Or.inl rfl), ↓dZ_205 hL (Or.inr rfl), ↓dZ_205 hL (nB_01 _), ↓reduceIte, ↓kq_bi, ↓kq_let, ↓kq_rz0, ↓kq_rz1, ↓kq_rzB, ↓Option.bind_some, kq_dvn, kt_lt, kf_lt, kt_eq, kf_eq, decide_true, decide_false, eq_self, Bool.false_eq_true, Bool.true_eq_false, not_true_eq_false, not_false_eq_true, jU_eq, jU_ne, jU_U, jV_eq, jV_ne, jV_V, kn_lit, kn_add, kn_mul, kn_sdm, kn_sub, kn_div, kn_nsdm, kn_lt, kn_eq, kn_pred, kn_m1, kn_m1', kn_a31, kn_shl, kn_shr, kn_bit, nB_0, nB_1, nB_t, nB_f, Nat.zero_add, Nat.add_zero, Nat.reduceAdd, Nat.reduceMul, Nat.reduceSub, Nat.reducePow]
    refine jW_bn (m_bl hL hT h0) (fun K hK => ?_)
    obtain ⟨k1, k4, kM⟩ := hK
    have hp := (s_skp_ge (c := c_bl) (tp := tp) hy.1).2
    have hn := hy.2.2.2
    have hby := m_byteAt hL k1.1 (p := s_skp c_bl tp n y.1) (by omega)
    have ech := nO_ch (n := n) (y := y) hT.1.2.2.2 hch
    rw [s_nc0 h0] at ech
    have ey : s_nx tp n y = (s_skp c_bl tp n y.1, y.2) := if_pos h0
    have kx := jTM_nx k1
    unfold s_tks at hP
    cases hc : s_tk tp n ch y
    · rw [hc, if_neg (show ¬ false = true by decide)] at hP
      rw [hc] at ech
      simp (disch := omega) only [k4, hby, ech, F_Mod_takesSign_b30, F_Mod_takesSign_b45, ↓dK_205 hL, ↓dG_205 hL, ↓dP_205 hL, ↓dZ_205 hL (x := nI 0) (Or.inl rfl), ↓dZ_205 hL (x := nI 1) (Or.inr rfl), ↓dZ_205 hL (Or.inl rfl), ↓dZ_205 hL (Or.inr rfl), ↓dZ_205 hL (nB_01 _), ↓reduceIte, ↓kq_bi, ↓kq_let, ↓kq_rz0, ↓kq_rz1, ↓kq_rzB, ↓Option.bind_some, kq_dvn, kt_lt, kf_lt, kt_eq, kf_eq, decide_true, decide_false, eq_self, Bool.false_eq_true, Bool.true_eq_false, not_true_eq_false, not_false_eq_true, jU_eq, jU_ne, jU_U, jV_eq, jV_ne, jV_V, kn_lit, kn_add, kn_mul, kn_sdm, kn_sub, kn_div, kn_nsdm, kn_lt, kn_eq, kn_pred, kn_m1, kn_m1', kn_a31, kn_shl, kn_shr, kn_bit, nB_0, nB_1, nB_t, nB_f, Nat.zero_add, Nat.add_zero, Nat.reduceAdd, Nat.reduceMul, Nat.reduceSub, Nat.reducePow]
      exact jW_s (hP K ⟨kx, kM⟩)
    · rw [hc, if_pos (show true = true from rfl), ey] at hP
      obtain ⟨-, -, e3, -⟩ := s_nc_ex (of_decide_eq_true hc)
      rw [hc] at ech
      simp (disch := omega) only [k4, hby, ech, F_Mod_takesSign_b30, F_Mod_takesSign_b45, ↓dK_205 hL, ↓dG_205 hL, ↓dP_205 hL, ↓dZ_205 hL (x := nI 0) (Or.inl rfl), ↓dZ_205 hL (x := nI 1) (Or.inr rfl), ↓dZ_205 hL (Or.inl rfl), ↓dZ_205 hL (Or.inr rfl), ↓dZ_205 hL (nB_01 _), ↓reduceIte, ↓kq_bi, ↓kq_let, ↓kq_rz0, ↓kq_rz1, ↓kq_rzB, ↓Option.bind_some, kq_dvn, kt_lt, kf_lt, kt_eq, kf_eq, decide_true, decide_false, eq_self, Bool.false_eq_true, Bool.true_eq_false, not_true_eq_false, not_false_eq_true, jU_eq, jU_ne, jU_U, jV_eq, jV_ne, jV_V, kn_lit, kn_add, kn_mul, kn_sdm, kn_sub, kn_div, kn_nsdm, kn_lt, kn_eq, kn_pred, kn_m1, kn_m1', kn_a31, kn_shl, kn_shr, kn_bit, nB_0, nB_1, nB_t, nB_f, Nat.zero_add, Nat.add_zero, Nat.reduceAdd, Nat.reduceMul, Nat.reduceSub, Nat.reducePow]
      exact jW_s (hP _ ⟨jTM_at k1 (by omega), jM1_trans kM (jM1_V (Or.inl rfl))⟩)
  · have ey : s_nx tp n y = y := if_neg h0
    unfold s_tks at hP
    rw [s_tk_no h0, if_neg (show ¬ false = true by decide), ey] at hP
    simp (disch := omega) only [h5, ↓dK_205 hL, ↓dG_205 hL, ↓dP_205 hL, ↓dZ_205 hL (x := nI 0) (Or.inl rfl), ↓dZ_205 hL (x := nI 1) (Or.inr rfl), ↓dZ_205 hL (Or.inl rfl), ↓dZ_205 hL (Or.inr rfl), ↓dZ_205 hL (nB_01 _), ↓reduceIte, ↓kq_bi, ↓kq_let, ↓kq_rz0, ↓kq_rz1, ↓kq_rzB, ↓Option.bind_some, kq_dvn, kt_lt, kf_lt, kt_eq, kf_eq, decide_true, decide_false, eq_self, Bool.false_eq_true, Bool.true_eq_false, not_true_eq_false, not_false_eq_true, jU_eq, jU_ne, jU_U, jV_eq, jV_ne, jV_V, kn_lit, kn_add, kn_mul, kn_sdm, kn_sub, kn_div, kn_nsdm, kn_lt, kn_eq, kn_pred, kn_m1, kn_m1', kn_a31, kn_shl, kn_shr, kn_bit, nB_0, nB_1, nB_t, nB_f, Nat.zero_add, Nat.add_zero, Nat.reduceAdd, Nat.reduceMul, Nat.reduceSub, Nat.reducePow]
    exact jW_s (hP J ⟨hT, jM1_r⟩)
end

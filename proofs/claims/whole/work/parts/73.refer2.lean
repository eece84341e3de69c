/-! PLAIN LEAN, 39: texts; the reference reads numbers and words -/
def s_v27 (f : Nat → Nat) (p : Nat) : Nat → Nat
  | 0 => 0
  | k + 1 => 27 * s_v27 f p k + (f (p + k) - 96)
theorem s_v27_inj {f g : Nat → Nat} {p q : Nat} : ∀ N M, (∀ j, j < N → 97 ≤ f (p + j) ∧ f (p + j) ≤ 122) → (∀ j, j < M → 97 ≤ g (q + j) ∧ g (q + j) ≤ 122) → s_v27 f p N = s_v27 g q M → N = M ∧ ∀ j, j < N → f (p + j) = g (q + j)
  | 0, 0, _, _, _ => ⟨rfl, fun j hj => by omega⟩
  | 0, M + 1, _, b, e => by
    have e : 0 = 27 * s_v27 g q M + (g (q + M) - 96) := e
    have := b M (by omega)
    omega
  | N + 1, 0, a, _, e => by
    have e : 27 * s_v27 f p N + (f (p + N) - 96) = 0 := e
    have := a N (by omega)
    omega
  | N + 1, M + 1, a, b, e => by
    have e : 27 * s_v27 f p N + (f (p + N) - 96) = 27 * s_v27 g q M + (g (q + M) - 96) := e
    have h1 := a N (by omega)
    have h2 := b M (by omega)
    obtain ⟨e1, e2⟩ := s_v27_inj N M (fun j hj => a j (by omega)) (fun j hj => b j (by omega)) (by omega)
    refine ⟨by omega, fun j hj => ?_⟩
    by_cases hj' : j = N
    · rw [hj']
      rw [← e1] at e h2
      omega
    · exact e2 j (by omega)
theorem s_v27_cg {f g : Nat → Nat} {p q : Nat} : ∀ N, (∀ j, j < N → f (p + j) = g (q + j)) → s_v27 f p N = s_v27 g q N
  | 0, _ => rfl
  | N + 1, a => by
    show 27 * s_v27 f p N + (f (p + N) - 96) = 27 * s_v27 g q N + (g (q + N) - 96)
    rw [s_v27_cg N (fun j hj => a j (by omega)), a N (by omega)]
theorem s_v27_lt {f : Nat → Nat} {p : Nat} : ∀ N, (∀ j, j < N → f (p + j) ≤ 122) → s_v27 f p N < 27 ^ N
  | 0, _ => by show 0 < 27 ^ 0; decide
  | N + 1, a => by
    have h1 := s_v27_lt N (fun j hj => a j (by omega))
    have h2 := a N (by omega)
    show 27 * s_v27 f p N + (f (p + N) - 96) < 27 ^ (N + 1)
    rw [Nat.pow_succ]
    omega
theorem s_v27_b {f : Nat → Nat} {p N : Nat} (hN : N ≤ 6) (a : ∀ j, j < N → f (p + j) ≤ 122) : s_v27 f p N < 387420489 := Nat.lt_of_lt_of_le (s_v27_lt N a) (Nat.le_trans (Nat.pow_le_pow_right (by decide) hN) (by decide))
def s_wv (k : Nat) : Nat := s_v27 (fun j => (s_w k).getD j 0) 0 (s_w k).length
theorem s_w_az0 : ∀ k, k < 16 → ∀ j, j < 6 → j < (s_w k).length → 97 ≤ (s_w k).getD j 0 ∧ (s_w k).getD j 0 ≤ 122 := by decide
theorem s_w_az {k j : Nat} (hk : k < 16) (hj : j < (s_w k).length) : 97 ≤ (s_w k).getD j 0 ∧ (s_w k).getD j 0 ≤ 122 := s_w_az0 k hk j (Nat.lt_of_lt_of_le hj (s_w_len hk)) hj
/-- the word that comes next is word k -/
def s_isk (tp : Nat → Nat) (n : Nat) (y : JTs) (k : Nat) : Bool := decide (y.2.1 = 0 ∧ s_rng tp (s_skp c_bl tp n y.1) (s_p1 c_sm tp n y - s_skp c_bl tp n y.1) = s_w k)
section
variable {t u l m b c : Nat} {h : LH} {I J K : Nat → Nat → Int32} {τ : JTn} {tp : Nat → Nat} {n p : Nat} {y : JTs} {x : Int32} {X : LH} {k : Nat}
theorem s_isw_isk : s_isw tp (s_nx tp n y).1 (s_wd tp n y) k = s_isk tp n y k := by
  by_cases h0 : y.2.1 = 0
  · have ey : s_nx tp n y = (s_skp c_bl tp n y.1, y.2) := if_pos h0
    have ew : s_wd tp n y = (s_p1 c_sm tp n y, y.2) := if_pos h0
    rw [ey, ew]
    rfl
  · have ew : s_wd tp n y = y := if_neg h0
    rw [ew]
    unfold s_isw s_isk
    rw [decide_eq_false (fun a => h0 a.1), decide_eq_false (fun a => h0 a.1)]
theorem m_wordHereL (hL : jLay t u l m b c h) (hB : jTB J tp n) (hp : p ≤ n) (h4 : J 205 4 = nI p) : F_Mod_wordHere_l8 jF 205 (nI 0) (nI 0) (jz_I h J) = some (nO (if s_skp c_sm tp n p - p ≤ 6 then some (s_v27 tp p (s_skp c_sm tp n p - p)) else none), jz_I h J) := by
  obtain ⟨g1, g2⟩ := s_skp_ge (c := c_sm) (tp := tp) hp
  have hn : n ≤ 600 := hB.2.1
  have hsm : ∀ j, j < s_skp c_sm tp n p - p → 97 ≤ tp (p + j) ∧ tp (p + j) ≤ 122 := fun j hj => of_decide_eq_true (s_skp_in (c := c_sm) (tp := tp) (n := n) (p := p) (j := p + j) (by omega) (by omega))
  have key : ∃ K, F_Mod_wordHere_l8 jF 205 (nI 0) (nI 0) (jz_I h J) = some (nO (if s_skp c_sm tp n p - p ≤ 6 then some (s_v27 tp p (s_skp c_sm tp n p - p)) else none), jz_I h K) ∧ K = J := by
    refine jE_i (fun P hP => ?_)
    have hP := hP _ rfl
    show jW (F_Mod_wordHere_l8 jF 205 (nI (s_v27 tp p (min 0 6))) (nI 0) (jz_I h J)) P
    refine jW_for0 (f := fun fuel i (_ : Unit) => F_Mod_wordHere_l8 fuel 205 (nI (s_v27 tp p (min i 6))) (nI i) (jz_I h J)) (s_skp c_sm tp n p - p) (fun _ _ => True) () trivial (by omega) (fun F i _ hi _ ih => ?_) (fun F _ _ => ?_)
    · have hc := hsm i hi
      have ih' : jW (F_Mod_wordHere_l8 F 205 (nI (s_v27 tp p (min (i + 1) 6))) (nI (i + 1)) (jz_I h J)) P := ih () trivial
      have hby := m_byteAt hL hB (p := p + i) (by omega)
      rw [show s_byt tp n (p + i) = some (tp (p + i)) from if_pos (by omega)] at hby
      have hb := s_v27_b (f := tp) (p := p) (N := min i 6) (by omega) (fun j hj => (hsm j (by omega)).2)
      have hsl : F_Mod_isSmall (nO (some (tp (p + i)))) (jz_I h J) = some (nB true, jz_I h J) := by
        rw [m_isSmall (fun v hv => by cases hv; omega)]
        rw [show (some (tp (p + i))).elim false c_sm = true from decide_eq_true hc]
      show jW (F_Mod_wordHere_c8 (F_Mod_wordHere_l8 F) 205 (nI (s_v27 tp p (min i 6))) (nI i) (jz_I h J)) P
      rw [nO_some] at hby hsl
      unfold F_Mod_wordHere_c8
      by_cases z : i < 6
      · have hb5 := s_v27_lt (f := tp) (p := p) i (fun j hj => (hsm j (by omega)).2)
        have hb6 : 27 ^ i ≤ 27 ^ 5 := Nat.pow_le_pow_right (by decide) (by omega)
        have hb7 : s_v27 tp p i < 14348907 := Nat.lt_of_lt_of_le hb5 hb6
        rw [show min (i + 1) 6 = i + 1 by omega, show s_v27 tp p (i + 1) = 27 * s_v27 tp p i + (tp (p + i) - 96) from rfl] at ih'
        rw [show min i 6 = i by omega]
        generalize tp (p + i) = d at hc ih' hby hsl
        generalize s_v27 tp p i = v at ih' hb7
        rw [show 27 * v + (d - 96) = 27 * v + d - 97 + 1 by omega] at ih'
        clear hb hb5 hb6
        simp (disch := omega) only [h4, hby, hsl, F_Mod_wordHere_b54, ↓dK_205 hL, ↓dG_205 hL, ↓dP_205 hL, ↓dZ_205 hL (x := nI 0) (Or.inl rfl), ↓dZ_205 hL (x := nI 1) (Or.inr rfl), ↓dZ_205 hL (Or.inl rfl), ↓dZ_205 hL (Or.inr rfl), ↓dZ_205 hL (nB_01 _), ↓reduceIte, ↓kq_bi, ↓kq_let, ↓kq_rz0, ↓kq_rz1, ↓kq_rzB, ↓Option.bind_some, kq_dvn, kt_lt, kf_lt, kt_eq, kf_eq, decide_true, decide_false, eq_self, Bool.false_eq_true, Bool.true_eq_false, not_true_eq_false, not_false_eq_true, jU_eq, jU_ne, jU_U, jV_eq, jV_ne, jV_V, kn_lit, kn_add, kn_mul, kn_sdm, kn_sub, kn_div, kn_nsdm, kn_lt, kn_eq, kn_pred, kn_m1, kn_m1', kn_a31, kn_shl, kn_shr, kn_bit, nB_0, nB_1, nB_t, nB_f, Nat.zero_add, Nat.add_zero, Nat.reduceAdd, Nat.reduceMul, Nat.reduceSub, Nat.reducePow]
        exact ih'
      · rw [show min (i + 1) 6 = min i 6 by omega] at ih'
        simp (disch := omega) only [h4, hby, hsl, F_Mod_wordHere_b54, ↓dK_205 hL, ↓dG_205 hL, ↓dP_205 hL, ↓dZ_205 hL (x := nI 0) (Or.inl rfl), ↓dZ_205 hL (x := nI 1) (Or.inr rfl), ↓dZ_205 hL (Or.inl rfl), ↓dZ_205 hL (Or.inr rfl), ↓dZ_205 hL (nB_01 _), ↓reduceIte, ↓kq_bi, ↓kq_let, ↓kq_rz0, ↓kq_rz1, ↓kq_rzB, ↓Option.bind_some, kq_dvn, kt_lt, kf_lt, kt_eq, kf_eq, decide_true, decide_false, eq_self, Bool.false_eq_true, Bool.true_eq_false, not_true_eq_false, not_false_eq_true, jU_eq, jU_ne, jU_U, jV_eq, jV_ne, jV_V, kn_lit, kn_add, kn_mul, kn_sdm, kn_sub, kn_div, kn_nsdm, kn_lt, kn_eq, kn_pred, kn_m1, kn_m1', kn_a31, kn_shl, kn_shr, kn_bit, nB_0, nB_1, nB_t, nB_f, Nat.zero_add, Nat.add_zero, Nat.reduceAdd, Nat.reduceMul, Nat.reduceSub, Nat.reducePow]
        exact ih'
    · show jW (F_Mod_wordHere_c8 (F_Mod_wordHere_l8 F) 205 (nI (s_v27 tp p (min (s_skp c_sm tp n p - p) 6))) (nI (s_skp c_sm tp n p - p)) (jz_I h J)) P
      have en := fun z => s_skp_end (c := c_sm) (tp := tp) hp z
      have hby := m_byteAt hL hB (p := s_skp c_sm tp n p) (by omega)
      have hsl : F_Mod_isSmall (nO (s_byt tp n (s_skp c_sm tp n p))) (jz_I h J) = some (nB false, jz_I h J) := by
        rw [m_isSmall (fun v hv => s_byt_lt hB.2.2.2 hv)]
        by_cases z : s_skp c_sm tp n p < n
        · rw [show s_byt tp n (s_skp c_sm tp n p) = some (tp (s_skp c_sm tp n p)) from if_pos z]
          rw [show (some (tp (s_skp c_sm tp n p))).elim false c_sm = false from en z]
        · rw [show s_byt tp n (s_skp c_sm tp n p) = none from if_neg z]
          rfl
      have eN : p + (s_skp c_sm tp n p - p) = s_skp c_sm tp n p := by omega
      unfold F_Mod_wordHere_c8
      by_cases z : s_skp c_sm tp n p - p ≤ 6
      · rw [if_pos z, nO_some] at hP
        rw [show min (s_skp c_sm tp n p - p) 6 = s_skp c_sm tp n p - p by omega]
        generalize s_v27 tp p (s_skp c_sm tp n p - p) = v at hP
        generalize nO (s_byt tp n (s_skp c_sm tp n p)) = w at hby hsl
        generalize s_skp c_sm tp n p = q at hby z eN g1 g2
        simp (disch := omega) only [h4, eN, hby, hsl, F_Mod_wordHere_b72, ↓dK_205 hL, ↓dG_205 hL, ↓dP_205 hL, ↓dZ_205 hL (x := nI 0) (Or.inl rfl), ↓dZ_205 hL (x := nI 1) (Or.inr rfl), ↓dZ_205 hL (Or.inl rfl), ↓dZ_205 hL (Or.inr rfl), ↓dZ_205 hL (nB_01 _), ↓reduceIte, ↓kq_bi, ↓kq_let, ↓kq_rz0, ↓kq_rz1, ↓kq_rzB, ↓Option.bind_some, kq_dvn, kt_lt, kf_lt, kt_eq, kf_eq, decide_true, decide_false, eq_self, Bool.false_eq_true, Bool.true_eq_false, not_true_eq_false, not_false_eq_true, jU_eq, jU_ne, jU_U, jV_eq, jV_ne, jV_V, kn_lit, kn_add, kn_mul, kn_sdm, kn_sub, kn_div, kn_nsdm, kn_lt, kn_eq, kn_pred, kn_m1, kn_m1', kn_a31, kn_shl, kn_shr, kn_bit, nB_0, nB_1, nB_t, nB_f, Nat.zero_add, Nat.add_zero, Nat.reduceAdd, Nat.reduceMul, Nat.reduceSub, Nat.reducePow]
        exact jW_s hP
      · rw [if_neg z, nO_none] at hP
        generalize s_v27 tp p (min (s_skp c_sm tp n p - p) 6) = v
        generalize nO (s_byt tp n (s_skp c_sm tp n p)) = w at hby hsl
        generalize s_skp c_sm tp n p = q at hby z eN g1 g2
        simp (disch := omega) only [h4, eN, hby, hsl, F_Mod_wordHere_b72, ↓dK_205 hL, ↓dG_205 hL, ↓dP_205 hL, ↓dZ_205 hL (x := nI 0) (Or.inl rfl), ↓dZ_205 hL (x := nI 1) (Or.inr rfl), ↓dZ_205 hL (Or.inl rfl), ↓dZ_205 hL (Or.inr rfl), ↓dZ_205 hL (nB_01 _), ↓reduceIte, ↓kq_bi, ↓kq_let, ↓kq_rz0, ↓kq_rz1, ↓kq_rzB, ↓Option.bind_some, kq_dvn, kt_lt, kf_lt, kt_eq, kf_eq, decide_true, decide_false, eq_self, Bool.false_eq_true, Bool.true_eq_false, not_true_eq_false, not_false_eq_true, jU_eq, jU_ne, jU_U, jV_eq, jV_ne, jV_V, kn_lit, kn_add, kn_mul, kn_sdm, kn_sub, kn_div, kn_nsdm, kn_lt, kn_eq, kn_pred, kn_m1, kn_m1', kn_a31, kn_shl, kn_shr, kn_bit, nB_0, nB_1, nB_t, nB_f, Nat.zero_add, Nat.add_zero, Nat.reduceAdd, Nat.reduceMul, Nat.reduceSub, Nat.reducePow]
        exact jW_s hP
  obtain ⟨K, e1, e2⟩ := key
  rw [e1, e2]
theorem m_isWord (hL : jLay t u l m b c h) (hT : jTM J tp n y) (hk : k < 16) {a1 a2 a3 a4 a5 a6 : Int32} (h6 : ∀ H, F_Mod_six a1 a2 a3 a4 a5 a6 H = some (nI (s_wv k), H)) : ∃ K, F_Mod_isWord 205 a1 a2 a3 a4 a5 a6 (jz_I h J) = some (nB (s_isk tp n y k), jz_I h K) ∧ jTM K tp n y ∧ (y.2.1 = 0 → K 205 4 = nI (s_skp c_bl tp n y.1)) ∧ jM1 J K := by
  have hy := hT.2.1
  have h5 := hT.2.2.1.1
  have y2 := hy.2.1
  refine jE_i (fun P hP => ?_)
  unfold F_Mod_isWord
  by_cases h0 : y.2.1 = 0
  · rw [h0] at h5
    simp (disch := omega) only [h5, ↓dK_205 hL, ↓dG_205 hL, ↓dP_205 hL, ↓dZ_205 hL (x := nI 0) (Or.inl rfl), ↓dZ_205 hL (x := nI 1) (Or.inr rfl), ↓dZ_205 hL (Or.inl rfl), ↓dZ_205 hL (Or.inr rfl), ↓dZ_205 hL (nB_01 _), ↓reduceIte, ↓kq_bi, ↓kq_let, ↓kq_rz0, ↓kq_rz1, ↓kq_rzB, ↓Option.bind_some, kq_dvn, kt_lt, kf_lt, kt_eq, kf_eq, decide_true, decide_false, eq_self, Bool.false_eq_true, Bool.true_eq_false, not_true_eq_false, not_false_eq_true, jU_eq, jU_ne, jU_U, jV_eq, jV_ne, jV_V, kn_lit, kn_add, kn_mul, kn_sdm, kn_sub, kn_div, kn_nsdm, kn_lt, kn_eq, kn_pred, kn_m1, kn_m1', kn_a31, kn_shl, kn_shr, kn_bit, nB_0, nB_1, nB_t, nB_f, Nat.zero_add, Nat.add_zero, Nat.reduceAdd, Nat.reduceMul, Nat.reduceSub, Nat.reducePow]
    unfold F_Mod_wordHere
    obtain ⟨K, e1, k1, k4, kM⟩ := m_bl hL hT h0
    have hp := (s_skp_ge (c := c_bl) (tp := tp) hy.1).2
    have hWL := m_wordHereL hL k1.1 hp k4
    have fin := hP K ⟨k1, fun _ => k4, kM⟩
    have hwv : s_wv k < 387420489 := s_v27_b (s_w_len hk) (fun j hj => by rw [Nat.zero_add]; exact (s_w_az hk hj).2)
    have eis : (nO (if s_skp c_sm tp n (s_skp c_bl tp n y.1) - s_skp c_bl tp n y.1 ≤ 6 then some (s_v27 tp (s_skp c_bl tp n y.1) (s_skp c_sm tp n (s_skp c_bl tp n y.1) - s_skp c_bl tp n y.1)) else none) = nI (s_wv k)) = (s_isk tp n y k = true) := by
      unfold s_isk s_p1
      rw [decide_eq_true_eq]
      have hsm : ∀ j, j < s_skp c_sm tp n (s_skp c_bl tp n y.1) - s_skp c_bl tp n y.1 → 97 ≤ tp (s_skp c_bl tp n y.1 + j) ∧ tp (s_skp c_bl tp n y.1 + j) ≤ 122 := fun j hj => of_decide_eq_true (s_skp_in (c := c_sm) (tp := tp) (n := n) (p := s_skp c_bl tp n y.1) (j := s_skp c_bl tp n y.1 + j) (by omega) (by omega))
      generalize s_skp c_sm tp n (s_skp c_bl tp n y.1) - s_skp c_bl tp n y.1 = N at hsm
      generalize s_skp c_bl tp n y.1 = q at hsm
      by_cases z : N ≤ 6
      · have hb := s_v27_b (f := tp) (p := q) z (fun j hj => (hsm j hj).2)
        rw [if_pos z, nO_some, kn_eq (by omega) (by omega)]
        refine propext ⟨fun e => ⟨h0, ?_⟩, fun e => ?_⟩
        · obtain ⟨i1, i2⟩ := s_v27_inj N (s_w k).length hsm (fun j hj => by rw [Nat.zero_add]; exact s_w_az hk hj) e
          refine s_rng_eq.mpr ⟨i1, fun j hj => ?_⟩
          have := i2 j (by omega)
          rw [Nat.zero_add] at this
          exact this
        · obtain ⟨i1, i2⟩ := s_rng_eq.mp e.2
          unfold s_wv
          rw [i1]
          exact s_v27_cg _ (fun j hj => by rw [Nat.zero_add]; exact i2 j hj)
      · rw [if_neg z, nO_none, kn_m1' (by omega)]
        refine propext ⟨fun e => e.elim, fun e => ?_⟩
        have := (s_rng_eq.mp e.2).1
        have := s_w_len hk
        omega
    generalize nO (if s_skp c_sm tp n (s_skp c_bl tp n y.1) - s_skp c_bl tp n y.1 ≤ 6 then some (s_v27 tp (s_skp c_bl tp n y.1) (s_skp c_sm tp n (s_skp c_bl tp n y.1) - s_skp c_bl tp n y.1)) else none) = v at hWL eis
    generalize s_wv k = wv at h6 eis
    cases hc : s_isk tp n y k
    · rw [hc] at fin eis
      simp (disch := omega) only [e1, hWL, h6, eis, F_Mod_isWord_b30, F_Mod_isWord_b31, ↓dK_205 hL, ↓dG_205 hL, ↓dP_205 hL, ↓dZ_205 hL (x := nI 0) (Or.inl rfl), ↓dZ_205 hL (x := nI 1) (Or.inr rfl), ↓dZ_205 hL (Or.inl rfl), ↓dZ_205 hL (Or.inr rfl), ↓dZ_205 hL (nB_01 _), ↓reduceIte, ↓kq_bi, ↓kq_let, ↓kq_rz0, ↓kq_rz1, ↓kq_rzB, ↓Option.bind_some, kq_dvn, kt_lt, kf_lt, kt_eq, kf_eq, decide_true, decide_false, eq_self, Bool.false_eq_true, Bool.true_eq_false, not_true_eq_false, not_false_eq_true, jU_eq, jU_ne, jU_U, jV_eq, jV_ne, jV_V, kn_lit, kn_add, kn_mul, kn_sdm, kn_sub, kn_div, kn_nsdm, kn_lt, kn_eq, kn_pred, kn_m1, kn_m1', kn_a31, kn_shl, kn_shr, kn_bit, nB_0, nB_1, nB_t, nB_f, Nat.zero_add, Nat.add_zero, Nat.reduceAdd, Nat.reduceMul, Nat.reduceSub, Nat.reducePow]
      exact jW_s fin
    · rw [hc] at fin eis
      simp (disch := omega) only [e1, hWL, h6, eis, F_Mod_isWord_b30, F_Mod_isWord_b31, ↓dK_205 hL, ↓dG_205 hL, ↓dP_205 hL, ↓dZ_205 hL (x := nI 0) (Or.inl rfl), ↓dZ_205 hL (x := nI 1) (Or.inr rfl), ↓dZ_205 hL (Or.inl rfl), ↓dZ_205 hL (Or.inr rfl), ↓dZ_205 hL (nB_01 _), ↓reduceIte, ↓kq_bi, ↓kq_let, ↓kq_rz0, ↓kq_rz1, ↓kq_rzB, ↓Option.bind_some, kq_dvn, kt_lt, kf_lt, kt_eq, kf_eq, decide_true, decide_false, eq_self, Bool.false_eq_true, Bool.true_eq_false, not_true_eq_false, not_false_eq_true, jU_eq, jU_ne, jU_U, jV_eq, jV_ne, jV_V, kn_lit, kn_add, kn_mul, kn_sdm, kn_sub, kn_div, kn_nsdm, kn_lt, kn_eq, kn_pred, kn_m1, kn_m1', kn_a31, kn_shl, kn_shr, kn_bit, nB_0, nB_1, nB_t, nB_f, Nat.zero_add, Nat.add_zero, Nat.reduceAdd, Nat.reduceMul, Nat.reduceSub, Nat.reducePow]
      exact jW_s fin
  · have e : s_isk tp n y k = false := decide_eq_false (fun a => h0 a.1)
    rw [e] at hP
    simp (disch := omega) only [h5, F_Mod_isWord_b30, F_Mod_isWord_b31, ↓dK_205 hL, ↓dG_205 hL, ↓dP_205 hL, ↓dZ_205 hL (x := nI 0) (Or.inl rfl), ↓dZ_205 hL (x := nI 1) (Or.inr rfl), ↓dZ_205 hL (Or.inl rfl), ↓dZ_205 hL (Or.inr rfl), ↓dZ_205 hL (nB_01 _), ↓reduceIte, ↓kq_bi, ↓kq_let, ↓kq_rz0, ↓kq_rz1, ↓kq_rzB, ↓Option.bind_some, kq_dvn, kt_lt, kf_lt, kt_eq, kf_eq, decide_true, decide_false, eq_self, Bool.false_eq_true, Bool.true_eq_false, not_true_eq_false, not_false_eq_true, jU_eq, jU_ne, jU_U, jV_eq, jV_ne, jV_V, kn_lit, kn_add, kn_mul, kn_sdm, kn_sub, kn_div, kn_nsdm, kn_lt, kn_eq, kn_pred, kn_m1, kn_m1', kn_a31, kn_shl, kn_shr, kn_bit, nB_0, nB_1, nB_t, nB_f, Nat.zero_add, Nat.add_zero, Nat.reduceAdd, Nat.reduceMul, Nat.reduceSub, Nat.reducePow]
    exact jW_s (hP J ⟨hT, fun a => absurd a h0, jM1_r⟩)
theorem m_skipWord (hL : jLay t u l m b c h) (hT : jTM J tp n y) (h0 : y.2.1 = 0) (h4 : J 205 4 = nI (s_skp c_bl tp n y.1)) : ∃ K, F_Mod_skipWord 205 (jz_I h J) = some (jz_I h K) ∧ jTM K tp n (s_wd tp n y) ∧ jM1 J K := by
  have hy := hT.2.1
  have hp := (s_skp_ge (c := c_bl) (tp := tp) hy.1).2
  have hn := hy.2.2.2
  have hB := hT.1
  have ew : s_wd tp n y = (s_skp c_sm tp n (s_skp c_bl tp n y.1), y.2) := if_pos h0
  rw [ew]
  generalize s_skp c_bl tp n y.1 = p at hp h4
  obtain ⟨g1, g2⟩ := s_skp_ge (c := c_sm) (tp := tp) hp
  refine jE_n (fun P hP => ?_)
  have fin := hP _ ⟨jTM_at hT g2, jM1_V (Or.inl rfl)⟩
  unfold F_Mod_skipWord
  rw [show jz_I h J = jz_I h (jU J 205 (jV (J 205) 4 (nI (p + 0)))) from by rw [Nat.add_zero, ← h4, jV_id, jU_id]]
  refine jW_for0 (f := fun fuel k (_ : Unit) => F_Mod_skipWord_l0 fuel 205 (jz_I h (jU J 205 (jV (J 205) 4 (nI (p + k)))))) (s_skp c_sm tp n p - p) (fun _ _ => True) () trivial (by omega) (fun F i _ hi _ ih => ?_) (fun F _ _ => ?_)
  · have hc := s_skp_in (c := c_sm) (tp := tp) (n := n) (p := p) (j := p + i) (by omega) (by omega)
    have ih' : jW (F_Mod_skipWord_l0 F 205 (jz_I h (jU J 205 (jV (J 205) 4 (nI (p + (i + 1))))))) P := ih () trivial
    have hby := m_byteAt hL (jTB_M1 hB (jM1_V (Or.inl rfl) (x := nI (p + i)))) (p := p + i) (by omega)
    rw [show s_byt tp n (p + i) = some (tp (p + i)) from if_pos (by omega)] at hby
    have hsl := m_isSmall (X := jz_I h (jU J 205 (jV (J 205) 4 (nI (p + i))))) (o := some (tp (p + i))) (fun v hv => by cases hv; exact hB.2.2.2 _)
    rw [show (some (tp (p + i))).elim false c_sm = true from hc] at hsl
    show jW (F_Mod_skipWord_c0 (F_Mod_skipWord_l0 F) 205 (jz_I h (jU J 205 (jV (J 205) 4 (nI (p + i)))))) P
    unfold F_Mod_skipWord_c0
    simp (disch := omega) only [hby, hsl, Nat.add_assoc, ↓dK_205 hL, ↓dG_205 hL, ↓dP_205 hL, ↓dZ_205 hL (x := nI 0) (Or.inl rfl), ↓dZ_205 hL (x := nI 1) (Or.inr rfl), ↓dZ_205 hL (Or.inl rfl), ↓dZ_205 hL (Or.inr rfl), ↓dZ_205 hL (nB_01 _), ↓reduceIte, ↓kq_bi, ↓kq_let, ↓kq_rz0, ↓kq_rz1, ↓kq_rzB, ↓Option.bind_some, kq_dvn, kt_lt, kf_lt, kt_eq, kf_eq, decide_true, decide_false, eq_self, Bool.false_eq_true, Bool.true_eq_false, not_true_eq_false, not_false_eq_true, jU_eq, jU_ne, jU_U, jV_eq, jV_ne, jV_V, kn_lit, kn_add, kn_mul, kn_sdm, kn_sub, kn_div, kn_nsdm, kn_lt, kn_eq, kn_pred, kn_m1, kn_m1', kn_a31, kn_shl, kn_shr, kn_bit, nB_0, nB_1, nB_t, nB_f, Nat.zero_add, Nat.add_zero, Nat.reduceAdd, Nat.reduceMul, Nat.reduceSub, Nat.reducePow]
    exact ih'
  · have eN : p + (s_skp c_sm tp n p - p) = s_skp c_sm tp n p := by omega
    show jW (F_Mod_skipWord_c0 (F_Mod_skipWord_l0 F) 205 (jz_I h (jU J 205 (jV (J 205) 4 (nI (p + (s_skp c_sm tp n p - p))))))) P
    rw [eN]
    have en := fun z => s_skp_end (c := c_sm) (tp := tp) hp z
    generalize s_skp c_sm tp n p = q at g1 g2 en fin
    have hby := m_byteAt hL (jTB_M1 hB (jM1_V (Or.inl rfl) (x := nI q))) (p := q) (by omega)
    have hsl : F_Mod_isSmall (nO (s_byt tp n q)) (jz_I h (jU J 205 (jV (J 205) 4 (nI q)))) = some (nB false, jz_I h (jU J 205 (jV (J 205) 4 (nI q)))) := by
      rw [m_isSmall (fun v hv => s_byt_lt hB.2.2.2 hv)]
      by_cases z : q < n
      · rw [show s_byt tp n q = some (tp q) from if_pos z]
        rw [show (some (tp q)).elim false c_sm = false from en z]
      · rw [show s_byt tp n q = none from if_neg z]
        rfl
    unfold F_Mod_skipWord_c0
    simp (disch := omega) only [hby, hsl, ↓dK_205 hL, ↓dG_205 hL, ↓dP_205 hL, ↓dZ_205 hL (x := nI 0) (Or.inl rfl), ↓dZ_205 hL (x := nI 1) (Or.inr rfl), ↓dZ_205 hL (Or.inl rfl), ↓dZ_205 hL (Or.inr rfl), ↓dZ_205 hL (nB_01 _), ↓reduceIte, ↓kq_bi, ↓kq_let, ↓kq_rz0, ↓kq_rz1, ↓kq_rzB, ↓Option.bind_some, kq_dvn, kt_lt, kf_lt, kt_eq, kf_eq, decide_true, decide_false, eq_self, Bool.false_eq_true, Bool.true_eq_false, not_true_eq_false, not_false_eq_true, jU_eq, jU_ne, jU_U, jV_eq, jV_ne, jV_V, kn_lit, kn_add, kn_mul, kn_sdm, kn_sub, kn_div, kn_nsdm, kn_lt, kn_eq, kn_pred, kn_m1, kn_m1', kn_a31, kn_shl, kn_shr, kn_bit, nB_0, nB_1, nB_t, nB_f, Nat.zero_add, Nat.add_zero, Nat.reduceAdd, Nat.reduceMul, Nat.reduceSub, Nat.reducePow]
    exact jW_s fin
theorem m_takes (hL : jLay t u l m b c h) (hT : jTM J tp n y) (hk : k < 16) {a1 a2 a3 a4 a5 a6 : Int32} (h6 : ∀ H, F_Mod_six a1 a2 a3 a4 a5 a6 H = some (nI (s_wv k), H)) : ∃ K, F_Mod_takes 205 a1 a2 a3 a4 a5 a6 (jz_I h J) = some (nB (s_isk tp n y k), jz_I h K) ∧ jTM K tp n (if s_isk tp n y k = true then s_wd tp n y else y) ∧ jM1 J K := by
  refine jE_i (fun P hP => ?_)
  unfold F_Mod_takes
  simp (disch := omega) only [↓dK_205 hL, ↓dG_205 hL, ↓dP_205 hL, ↓dZ_205 hL (x := nI 0) (Or.inl rfl), ↓dZ_205 hL (x := nI 1) (Or.inr rfl), ↓dZ_205 hL (Or.inl rfl), ↓dZ_205 hL (Or.inr rfl), ↓dZ_205 hL (nB_01 _), ↓reduceIte, ↓kq_bi, ↓kq_let, ↓kq_rz0, ↓kq_rz1, ↓kq_rzB, ↓Option.bind_some, kq_dvn, kt_lt, kf_lt, kt_eq, kf_eq, decide_true, decide_false, eq_self, Bool.false_eq_true, Bool.true_eq_false, not_true_eq_false, not_false_eq_true, jU_eq, jU_ne, jU_U, jV_eq, jV_ne, jV_V, kn_lit, kn_add, kn_mul, kn_sdm, kn_sub, kn_div, kn_nsdm, kn_lt, kn_eq, kn_pred, kn_m1, kn_m1', kn_a31, kn_shl, kn_shr, kn_bit, nB_0, nB_1, nB_t, nB_f, Nat.zero_add, Nat.add_zero, Nat.reduceAdd, Nat.reduceMul, Nat.reduceSub, Nat.reducePow]
  refine jW_bi (m_isWord hL hT hk h6) (fun K hK => ?_)
  cases hc : s_isk tp n y k
  · rw [hc, if_neg (show ¬ false = true by decide)] at hP
    simp (disch := omega) only [F_Mod_takes_b24, ↓dK_205 hL, ↓dG_205 hL, ↓dP_205 hL, ↓dZ_205 hL (x := nI 0) (Or.inl rfl), ↓dZ_205 hL (x := nI 1) (Or.inr rfl), ↓dZ_205 hL (Or.inl rfl), ↓dZ_205 hL (Or.inr rfl), ↓dZ_205 hL (nB_01 _), ↓reduceIte, ↓kq_bi, ↓kq_let, ↓kq_rz0, ↓kq_rz1, ↓kq_rzB, ↓Option.bind_some, kq_dvn, kt_lt, kf_lt, kt_eq, kf_eq, decide_true, decide_false, eq_self, Bool.false_eq_true, Bool.true_eq_false, not_true_eq_false, not_false_eq_true, jU_eq, jU_ne, jU_U, jV_eq, jV_ne, jV_V, kn_lit, kn_add, kn_mul, kn_sdm, kn_sub, kn_div, kn_nsdm, kn_lt, kn_eq, kn_pred, kn_m1, kn_m1', kn_a31, kn_shl, kn_shr, kn_bit, nB_0, nB_1, nB_t, nB_f, Nat.zero_add, Nat.add_zero, Nat.reduceAdd, Nat.reduceMul, Nat.reduceSub, Nat.reducePow]
    exact jW_s (hP K ⟨hK.1, hK.2.2⟩)
  · rw [hc, if_pos (show true = true from rfl)] at hP
    have h0 : y.2.1 = 0 := (of_decide_eq_true hc).1
    simp (disch := omega) only [F_Mod_takes_b24, ↓dK_205 hL, ↓dG_205 hL, ↓dP_205 hL, ↓dZ_205 hL (x := nI 0) (Or.inl rfl), ↓dZ_205 hL (x := nI 1) (Or.inr rfl), ↓dZ_205 hL (Or.inl rfl), ↓dZ_205 hL (Or.inr rfl), ↓dZ_205 hL (nB_01 _), ↓reduceIte, ↓kq_bi, ↓kq_let, ↓kq_rz0, ↓kq_rz1, ↓kq_rzB, ↓Option.bind_some, kq_dvn, kt_lt, kf_lt, kt_eq, kf_eq, decide_true, decide_false, eq_self, Bool.false_eq_true, Bool.true_eq_false, not_true_eq_false, not_false_eq_true, jU_eq, jU_ne, jU_U, jV_eq, jV_ne, jV_V, kn_lit, kn_add, kn_mul, kn_sdm, kn_sub, kn_div, kn_nsdm, kn_lt, kn_eq, kn_pred, kn_m1, kn_m1', kn_a31, kn_shl, kn_shr, kn_bit, nB_0, nB_1, nB_t, nB_f, Nat.zero_add, Nat.add_zero, Nat.reduceAdd, Nat.reduceMul, Nat.reduceSub, Nat.reducePow]
    refine jW_bn (m_skipWord hL hK.1 h0 (hK.2.1 h0)) (fun L hL' => ?_)
    exact jW_s (hP L ⟨hL'.1, jM1_trans hK.2.2 hL'.2⟩)
end

/-! PLAIN LEAN, 40: texts; the reference reads numbers; the words as numbers -/
def s_nur (tp : Nat → Nat) (n lo hi : Nat) (y : JTs) : Nat := if (s_num tp n lo hi y).2.1 = 0 then s_nuv tp n y else 0
section
variable {t u l m b c : Nat} {h : LH} {I J K : Nat → Nat → Int32} {τ : JTn} {tp : Nat → Nat} {n p : Nat} {y : JTs} {x : Int32} {X : LH} {k : Nat}
theorem s_num_y {lo hi : Nat} (hy : jTy n y) : jTy n (s_num tp n lo hi y) := by
  obtain ⟨y1, y2, y3, y4⟩ := hy
  obtain ⟨g1, g2⟩ := s_skp_ge (c := c_bl) (tp := tp) y1
  obtain ⟨g3, g4⟩ := s_skp_ge (c := c_dg) (tp := tp) g2
  unfold s_num s_p1
  split
  · split
    · exact ⟨g2, by show 1 ≤ 3; omega, g2, y4⟩
    · split
      · exact ⟨g4, by show 2 ≤ 3; omega, g2, y4⟩
      · exact ⟨g4, y2, y3, y4⟩
  · exact ⟨y1, y2, y3, y4⟩
theorem s_wd_y (hy : jTy n y) : jTy n (s_wd tp n y) := by
  obtain ⟨y1, y2, y3, y4⟩ := hy
  obtain ⟨g1, g2⟩ := s_skp_ge (c := c_bl) (tp := tp) y1
  obtain ⟨g3, g4⟩ := s_skp_ge (c := c_sm) (tp := tp) g2
  unfold s_wd s_p1
  split
  · exact ⟨g4, y2, y3, y4⟩
  · exact ⟨y1, y2, y3, y4⟩
theorem s_nuv_le : s_nuv tp n y ≤ 100000 := by
  unfold s_nuv
  split
  · exact s_val_le _
  · omega
/-- what was read stands in its bounds -/
theorem s_num_ok {lo hi : Nat} (h0 : (s_num tp n lo hi y).2.1 = 0) : y.2.1 = 0 ∧ lo ≤ s_nuv tp n y ∧ s_nuv tp n y < hi := by
  unfold s_num at h0
  split at h0
  · rename_i a
    split at h0
    · cases h0
    · split at h0
      · cases h0
      · exact ⟨a, by omega, by omega⟩
  · rename_i a
    exact absurd h0 a
theorem m_inb {v lo hi : Nat} {H : Int32} (hv : v ≤ 100000) (hlo : lo ≤ 100000) (hH : ∀ v, v ≤ 100000 → (H < nI v) = (hi ≤ v)) : F_Mod_in (nI v) (nI lo) H X = some (nB (decide (¬ (v < lo ∨ hi ≤ v))), X) := by
  have eH := hH v hv
  unfold F_Mod_in
  by_cases z1 : v < lo
  · rw [decide_eq_false (show ¬ ¬ (v < lo ∨ hi ≤ v) by omega)]
    simp (disch := omega) only [F_Mod_in_b14, F_Mod_in_b15, ↓reduceIte, ↓kq_bi, ↓kq_let, ↓kq_rz0, ↓kq_rz1, ↓kq_rzB, ↓Option.bind_some, kq_dvn, kt_lt, kf_lt, kt_eq, kf_eq, decide_true, decide_false, eq_self, Bool.false_eq_true, Bool.true_eq_false, not_true_eq_false, not_false_eq_true, jU_eq, jU_ne, jU_U, jV_eq, jV_ne, jV_V, kn_lit, kn_add, kn_mul, kn_sdm, kn_sub, kn_div, kn_nsdm, kn_lt, kn_eq, kn_pred, kn_m1, kn_m1', kn_a31, kn_shl, kn_shr, kn_bit, nB_0, nB_1, nB_t, nB_f, Nat.zero_add, Nat.add_zero, Nat.reduceAdd, Nat.reduceMul, Nat.reduceSub, Nat.reducePow]
  · by_cases z2 : hi ≤ v
    · rw [decide_eq_false (show ¬ ¬ (v < lo ∨ hi ≤ v) by omega)]
      rw [eq_true z2] at eH
      simp (disch := omega) only [eH, F_Mod_in_b14, F_Mod_in_b15, ↓reduceIte, ↓kq_bi, ↓kq_let, ↓kq_rz0, ↓kq_rz1, ↓kq_rzB, ↓Option.bind_some, kq_dvn, kt_lt, kf_lt, kt_eq, kf_eq, decide_true, decide_false, eq_self, Bool.false_eq_true, Bool.true_eq_false, not_true_eq_false, not_false_eq_true, jU_eq, jU_ne, jU_U, jV_eq, jV_ne, jV_V, kn_lit, kn_add, kn_mul, kn_sdm, kn_sub, kn_div, kn_nsdm, kn_lt, kn_eq, kn_pred, kn_m1, kn_m1', kn_a31, kn_shl, kn_shr, kn_bit, nB_0, nB_1, nB_t, nB_f, Nat.zero_add, Nat.add_zero, Nat.reduceAdd, Nat.reduceMul, Nat.reduceSub, Nat.reducePow]
    · rw [decide_eq_true (show ¬ (v < lo ∨ hi ≤ v) by omega)]
      rw [eq_false z2] at eH
      simp (disch := omega) only [eH, F_Mod_in_b14, F_Mod_in_b15, ↓reduceIte, ↓kq_bi, ↓kq_let, ↓kq_rz0, ↓kq_rz1, ↓kq_rzB, ↓Option.bind_some, kq_dvn, kt_lt, kf_lt, kt_eq, kf_eq, decide_true, decide_false, eq_self, Bool.false_eq_true, Bool.true_eq_false, not_true_eq_false, not_false_eq_true, jU_eq, jU_ne, jU_U, jV_eq, jV_ne, jV_V, kn_lit, kn_add, kn_mul, kn_sdm, kn_sub, kn_div, kn_nsdm, kn_lt, kn_eq, kn_pred, kn_m1, kn_m1', kn_a31, kn_shl, kn_shr, kn_bit, nB_0, nB_1, nB_t, nB_f, Nat.zero_add, Nat.add_zero, Nat.reduceAdd, Nat.reduceMul, Nat.reduceSub, Nat.reducePow]
theorem m_number (hL : jLay t u l m b c h) (hT : jTM J tp n y) {lo hi : Nat} {H : Int32} (hlo : lo ≤ 100000) (hH : ∀ v, v ≤ 100000 → (H < nI v) = (hi ≤ v)) : ∃ K, F_Mod_number 205 (nI lo) H (jz_I h J) = some (nI (s_nur tp n lo hi y), jz_I h K) ∧ jTM K tp n (s_num tp n lo hi y) ∧ jM1 J K := by
  have hy := hT.2.1
  have h5 := hT.2.2.1.1
  have y2 := hy.2.1
  have hn := hy.2.2.2
  have h256 := hT.1.2.2.2
  refine jE_i (fun P hP => ?_)
  unfold F_Mod_number
  by_cases h0 : y.2.1 = 0
  · rw [h0] at h5
    have ev : s_nuv tp n y = s_val tp (s_skp c_bl tp n y.1) (s_skp c_dg tp n (s_skp c_bl tp n y.1) - s_skp c_bl tp n y.1) := if_pos h0
    have eu : s_num tp n lo hi y = (if s_skp c_dg tp n (s_skp c_bl tp n y.1) = s_skp c_bl tp n y.1 then (s_skp c_bl tp n y.1, 1, s_skp c_bl tp n y.1) else if s_nuv tp n y < lo ∨ hi ≤ s_nuv tp n y then (s_skp c_dg tp n (s_skp c_bl tp n y.1), 2, s_skp c_bl tp n y.1) else (s_skp c_dg tp n (s_skp c_bl tp n y.1), y.2)) := if_pos h0
    unfold s_nur at hP
    rw [eu, ev] at hP
    simp (disch := omega) only [h5, ↓dK_205 hL, ↓dG_205 hL, ↓dP_205 hL, ↓dZ_205 hL (x := nI 0) (Or.inl rfl), ↓dZ_205 hL (x := nI 1) (Or.inr rfl), ↓dZ_205 hL (Or.inl rfl), ↓dZ_205 hL (Or.inr rfl), ↓dZ_205 hL (nB_01 _), ↓reduceIte, ↓kq_bi, ↓kq_let, ↓kq_rz0, ↓kq_rz1, ↓kq_rzB, ↓Option.bind_some, kq_dvn, kt_lt, kf_lt, kt_eq, kf_eq, decide_true, decide_false, eq_self, Bool.false_eq_true, Bool.true_eq_false, not_true_eq_false, not_false_eq_true, jU_eq, jU_ne, jU_U, jV_eq, jV_ne, jV_V, kn_lit, kn_add, kn_mul, kn_sdm, kn_sub, kn_div, kn_nsdm, kn_lt, kn_eq, kn_pred, kn_m1, kn_m1', kn_a31, kn_shl, kn_shr, kn_bit, nB_0, nB_1, nB_t, nB_f, Nat.zero_add, Nat.add_zero, Nat.reduceAdd, Nat.reduceMul, Nat.reduceSub, Nat.reducePow]
    refine jW_bn (m_bl hL hT h0) (fun K1 hK => ?_)
    obtain ⟨k1, k4, kM⟩ := hK
    have hp := (s_skp_ge (c := c_bl) (tp := tp) hy.1).2
    have kx := jTM_nx k1
    rw [show s_nx tp n y = (s_skp c_bl tp n y.1, y.2) from if_pos h0] at kx
    generalize s_skp c_bl tp n y.1 = p at hP k4 hp kx
    obtain ⟨g1, g2⟩ := s_skp_ge (c := c_dg) (tp := tp) hp
    have hby := m_byteAt hL k1.1 (p := p) (by omega)
    have hdg := m_isDigit (X := jz_I h K1) (o := s_byt tp n p) (fun v hv => s_byt_lt h256 hv)
    by_cases hD : p < n ∧ c_dg (tp p) = true
    · have eD : (s_byt tp n p).elim false c_dg = true := by
        rw [show s_byt tp n p = some (tp p) from if_pos hD.1]
        exact hD.2
      rw [eD] at hdg
      have hne : ¬ s_skp c_dg tp n p = p := by
        have e1 : s_skp c_dg tp n p = s_skp c_dg tp n (p + 1) := by rw [s_skp_s hD.1, if_pos hD.2]
        have := (s_skp_ge (c := c_dg) (tp := tp) (n := n) (p := p + 1) (by omega)).1
        omega
      rw [if_neg hne] at hP
      simp (disch := omega) only [k4, hby, hdg, ↓dK_205 hL, ↓dG_205 hL, ↓dP_205 hL, ↓dZ_205 hL (x := nI 0) (Or.inl rfl), ↓dZ_205 hL (x := nI 1) (Or.inr rfl), ↓dZ_205 hL (Or.inl rfl), ↓dZ_205 hL (Or.inr rfl), ↓dZ_205 hL (nB_01 _), ↓reduceIte, ↓kq_bi, ↓kq_let, ↓kq_rz0, ↓kq_rz1, ↓kq_rzB, ↓Option.bind_some, kq_dvn, kt_lt, kf_lt, kt_eq, kf_eq, decide_true, decide_false, eq_self, Bool.false_eq_true, Bool.true_eq_false, not_true_eq_false, not_false_eq_true, jU_eq, jU_ne, jU_U, jV_eq, jV_ne, jV_V, kn_lit, kn_add, kn_mul, kn_sdm, kn_sub, kn_div, kn_nsdm, kn_lt, kn_eq, kn_pred, kn_m1, kn_m1', kn_a31, kn_shl, kn_shr, kn_bit, nB_0, nB_1, nB_t, nB_f, Nat.zero_add, Nat.add_zero, Nat.reduceAdd, Nat.reduceMul, Nat.reduceSub, Nat.reducePow]
      show jW (F_Mod_number_l44 jF 205 (nI lo) H (nI p) (nI (s_val tp p 0)) (jz_I h K1)) P
      rw [show jz_I h K1 = jz_I h (jU K1 205 (jV (K1 205) 4 (nI (p + 0)))) from by rw [Nat.add_zero, ← k4, jV_id, jU_id]]
      refine jW_for0 (f := fun fuel k (_ : Unit) => F_Mod_number_l44 fuel 205 (nI lo) H (nI p) (nI (s_val tp p k)) (jz_I h (jU K1 205 (jV (K1 205) 4 (nI (p + k)))))) (s_skp c_dg tp n p - p) (fun _ _ => True) () trivial (by omega) (fun F k _ hk _ ih => ?_) (fun F _ _ => ?_)
      · have hc := s_skp_in (c := c_dg) (tp := tp) (n := n) (p := p) (j := p + k) (by omega) (by omega)
        have hc' : 48 ≤ tp (p + k) ∧ tp (p + k) ≤ 57 := of_decide_eq_true hc
        have hby := m_byteAt hL (jTB_M1 k1.1 (jM1_V (Or.inl rfl) (x := nI (p + k)))) (p := p + k) (by omega)
        rw [show s_byt tp n (p + k) = some (tp (p + k)) from if_pos (by omega)] at hby
        have hdg := m_isDigit (X := jz_I h (jU K1 205 (jV (K1 205) 4 (nI (p + k))))) (o := some (tp (p + k))) (fun v hv => by cases hv; exact h256 _)
        rw [show (some (tp (p + k))).elim false c_dg = true from hc] at hdg
        rw [nO_some] at hby hdg
        have ih' : jW (F_Mod_number_l44 F 205 (nI lo) H (nI p) (nI (s_val tp p (k + 1))) (jz_I h (jU K1 205 (jV (K1 205) 4 (nI (p + (k + 1))))))) P := ih () trivial
        have hv := s_val_le (tp := tp) (p := p) k
        rw [show s_val tp p (k + 1) = min (10 * s_val tp p k + (tp (p + k) - 48)) 100000 from rfl] at ih'
        show jW (F_Mod_number_c44 (F_Mod_number_l44 F) 205 (nI lo) H (nI p) (nI (s_val tp p k)) (jz_I h (jU K1 205 (jV (K1 205) 4 (nI (p + k)))))) P
        generalize tp (p + k) = d at hc' hby hdg ih'
        generalize s_val tp p k = v at hv ih'
        unfold F_Mod_number_c44
        by_cases z : 100000 < 10 * v + d - 48
        · rw [show min (10 * v + (d - 48)) 100000 = 100000 by omega] at ih'
          simp (disch := omega) only [hby, hdg, F_Mod_number_b91, Nat.add_assoc, ↓dK_205 hL, ↓dG_205 hL, ↓dP_205 hL, ↓dZ_205 hL (x := nI 0) (Or.inl rfl), ↓dZ_205 hL (x := nI 1) (Or.inr rfl), ↓dZ_205 hL (Or.inl rfl), ↓dZ_205 hL (Or.inr rfl), ↓dZ_205 hL (nB_01 _), ↓reduceIte, ↓kq_bi, ↓kq_let, ↓kq_rz0, ↓kq_rz1, ↓kq_rzB, ↓Option.bind_some, kq_dvn, kt_lt, kf_lt, kt_eq, kf_eq, decide_true, decide_false, eq_self, Bool.false_eq_true, Bool.true_eq_false, not_true_eq_false, not_false_eq_true, jU_eq, jU_ne, jU_U, jV_eq, jV_ne, jV_V, kn_lit, kn_add, kn_mul, kn_sdm, kn_sub, kn_div, kn_nsdm, kn_lt, kn_eq, kn_pred, kn_m1, kn_m1', kn_a31, kn_shl, kn_shr, kn_bit, nB_0, nB_1, nB_t, nB_f, Nat.zero_add, Nat.add_zero, Nat.reduceAdd, Nat.reduceMul, Nat.reduceSub, Nat.reducePow]
          exact ih'
        · rw [show min (10 * v + (d - 48)) 100000 = 10 * v + d - 48 by omega] at ih'
          simp (disch := omega) only [hby, hdg, F_Mod_number_b91, Nat.add_assoc, ↓dK_205 hL, ↓dG_205 hL, ↓dP_205 hL, ↓dZ_205 hL (x := nI 0) (Or.inl rfl), ↓dZ_205 hL (x := nI 1) (Or.inr rfl), ↓dZ_205 hL (Or.inl rfl), ↓dZ_205 hL (Or.inr rfl), ↓dZ_205 hL (nB_01 _), ↓reduceIte, ↓kq_bi, ↓kq_let, ↓kq_rz0, ↓kq_rz1, ↓kq_rzB, ↓Option.bind_some, kq_dvn, kt_lt, kf_lt, kt_eq, kf_eq, decide_true, decide_false, eq_self, Bool.false_eq_true, Bool.true_eq_false, not_true_eq_false, not_false_eq_true, jU_eq, jU_ne, jU_U, jV_eq, jV_ne, jV_V, kn_lit, kn_add, kn_mul, kn_sdm, kn_sub, kn_div, kn_nsdm, kn_lt, kn_eq, kn_pred, kn_m1, kn_m1', kn_a31, kn_shl, kn_shr, kn_bit, nB_0, nB_1, nB_t, nB_f, Nat.zero_add, Nat.add_zero, Nat.reduceAdd, Nat.reduceMul, Nat.reduceSub, Nat.reducePow]
          exact ih'
      · have eN : p + (s_skp c_dg tp n p - p) = s_skp c_dg tp n p := by omega
        show jW (F_Mod_number_c44 (F_Mod_number_l44 F) 205 (nI lo) H (nI p) (nI (s_val tp p (s_skp c_dg tp n p - p))) (jz_I h (jU K1 205 (jV (K1 205) 4 (nI (p + (s_skp c_dg tp n p - p))))))) P
        rw [eN]
        have hv := s_val_le (tp := tp) (p := p) (s_skp c_dg tp n p - p)
        have en := fun z => s_skp_end (c := c_dg) (tp := tp) hp z
        generalize s_val tp p (s_skp c_dg tp n p - p) = v at hP hv
        generalize s_skp c_dg tp n p = q at g1 g2 en hP hne
        have hX := jTM_at k1 (q := q) g2
        have hM := jM1_trans kM (jM1_V (K := K1) (Or.inl rfl) (x := nI q))
        have h4q : (jU K1 205 (jV (K1 205) 4 (nI q))) 205 4 = nI q := by rw [jU_eq, jV_eq]
        generalize jU K1 205 (jV (K1 205) 4 (nI q)) = K2 at hX hM h4q
        have hby := m_byteAt hL hX.1 (p := q) (by omega)
        have hdg := m_isDigit (X := jz_I h K2) (o := s_byt tp n q) (fun v hv => s_byt_lt h256 hv)
        rw [show (s_byt tp n q).elim false c_dg = false from by
          unfold s_byt
          by_cases z : q < n
          · rw [if_pos z]; exact en z
          · rw [if_neg z]; rfl] at hdg
        have x5 : K2 205 5 = nI 0 := by rw [← h0]; exact hX.2.2.1.1
        have hin := m_inb (X := jz_I h K2) hv hlo hH
        unfold F_Mod_number_c44
        by_cases z : v < lo ∨ hi ≤ v
        · rw [if_pos z] at hP
          rw [decide_eq_false (show ¬ ¬ (v < lo ∨ hi ≤ v) from fun a => a z)] at hin
          simp (disch := omega) only [h4q, hby, hdg, hin, ↓dK_205 hL, ↓dG_205 hL, ↓dP_205 hL, ↓dZ_205 hL (x := nI 0) (Or.inl rfl), ↓dZ_205 hL (x := nI 1) (Or.inr rfl), ↓dZ_205 hL (Or.inl rfl), ↓dZ_205 hL (Or.inr rfl), ↓dZ_205 hL (nB_01 _), ↓reduceIte, ↓kq_bi, ↓kq_let, ↓kq_rz0, ↓kq_rz1, ↓kq_rzB, ↓Option.bind_some, kq_dvn, kt_lt, kf_lt, kt_eq, kf_eq, decide_true, decide_false, eq_self, Bool.false_eq_true, Bool.true_eq_false, not_true_eq_false, not_false_eq_true, jU_eq, jU_ne, jU_U, jV_eq, jV_ne, jV_V, kn_lit, kn_add, kn_mul, kn_sdm, kn_sub, kn_div, kn_nsdm, kn_lt, kn_eq, kn_pred, kn_m1, kn_m1', kn_a31, kn_shl, kn_shr, kn_bit, nB_0, nB_1, nB_t, nB_f, Nat.zero_add, Nat.add_zero, Nat.reduceAdd, Nat.reduceMul, Nat.reduceSub, Nat.reducePow]
          refine jW_bn (m_wrong hL hX (show 1 ≤ 2 by omega) (by omega) hp) (fun L hL' => ?_)
          rw [show s_fa 2 p (q, y.2) = (q, 2, p) from if_pos h0] at hL'
          have w5 : L 205 5 = nI 2 := hL'.1.2.2.1.1
          simp (disch := omega) only [w5, F_Mod_number_b122, F_Mod_number_b135, ↓dK_205 hL, ↓dG_205 hL, ↓dP_205 hL, ↓dZ_205 hL (x := nI 0) (Or.inl rfl), ↓dZ_205 hL (x := nI 1) (Or.inr rfl), ↓dZ_205 hL (Or.inl rfl), ↓dZ_205 hL (Or.inr rfl), ↓dZ_205 hL (nB_01 _), ↓reduceIte, ↓kq_bi, ↓kq_let, ↓kq_rz0, ↓kq_rz1, ↓kq_rzB, ↓Option.bind_some, kq_dvn, kt_lt, kf_lt, kt_eq, kf_eq, decide_true, decide_false, eq_self, Bool.false_eq_true, Bool.true_eq_false, not_true_eq_false, not_false_eq_true, jU_eq, jU_ne, jU_U, jV_eq, jV_ne, jV_V, kn_lit, kn_add, kn_mul, kn_sdm, kn_sub, kn_div, kn_nsdm, kn_lt, kn_eq, kn_pred, kn_m1, kn_m1', kn_a31, kn_shl, kn_shr, kn_bit, nB_0, nB_1, nB_t, nB_f, Nat.zero_add, Nat.add_zero, Nat.reduceAdd, Nat.reduceMul, Nat.reduceSub, Nat.reducePow]
          exact jW_s (hP L ⟨hL'.1, jM1_trans hM hL'.2.2⟩)
        · rw [if_neg z, if_pos (show (q, y.2).2.1 = 0 from h0)] at hP
          rw [decide_eq_true z] at hin
          simp (disch := omega) only [h4q, hby, hdg, hin, x5, F_Mod_number_b122, F_Mod_number_b135, ↓dK_205 hL, ↓dG_205 hL, ↓dP_205 hL, ↓dZ_205 hL (x := nI 0) (Or.inl rfl), ↓dZ_205 hL (x := nI 1) (Or.inr rfl), ↓dZ_205 hL (Or.inl rfl), ↓dZ_205 hL (Or.inr rfl), ↓dZ_205 hL (nB_01 _), ↓reduceIte, ↓kq_bi, ↓kq_let, ↓kq_rz0, ↓kq_rz1, ↓kq_rzB, ↓Option.bind_some, kq_dvn, kt_lt, kf_lt, kt_eq, kf_eq, decide_true, decide_false, eq_self, Bool.false_eq_true, Bool.true_eq_false, not_true_eq_false, not_false_eq_true, jU_eq, jU_ne, jU_U, jV_eq, jV_ne, jV_V, kn_lit, kn_add, kn_mul, kn_sdm, kn_sub, kn_div, kn_nsdm, kn_lt, kn_eq, kn_pred, kn_m1, kn_m1', kn_a31, kn_shl, kn_shr, kn_bit, nB_0, nB_1, nB_t, nB_f, Nat.zero_add, Nat.add_zero, Nat.reduceAdd, Nat.reduceMul, Nat.reduceSub, Nat.reducePow]
          exact jW_s (hP K2 ⟨hX, hM⟩)
    · have eD : (s_byt tp n p).elim false c_dg = false := by
        unfold s_byt
        by_cases z : p < n
        · rw [if_pos z]
          cases hc : c_dg (tp p)
          · exact hc
          · exact absurd ⟨z, hc⟩ hD
        · rw [if_neg z]; rfl
      rw [eD] at hdg
      have hne : s_skp c_dg tp n p = p := by
        by_cases z : p < n
        · rw [s_skp_s z, if_neg (fun a => hD ⟨z, a⟩)]
        · have e1 : p = n := by omega
          rw [e1, s_skp_n]
      rw [if_pos hne] at hP
      simp (disch := omega) only [k4, hby, hdg, ↓dK_205 hL, ↓dG_205 hL, ↓dP_205 hL, ↓dZ_205 hL (x := nI 0) (Or.inl rfl), ↓dZ_205 hL (x := nI 1) (Or.inr rfl), ↓dZ_205 hL (Or.inl rfl), ↓dZ_205 hL (Or.inr rfl), ↓dZ_205 hL (nB_01 _), ↓reduceIte, ↓kq_bi, ↓kq_let, ↓kq_rz0, ↓kq_rz1, ↓kq_rzB, ↓Option.bind_some, kq_dvn, kt_lt, kf_lt, kt_eq, kf_eq, decide_true, decide_false, eq_self, Bool.false_eq_true, Bool.true_eq_false, not_true_eq_false, not_false_eq_true, jU_eq, jU_ne, jU_U, jV_eq, jV_ne, jV_V, kn_lit, kn_add, kn_mul, kn_sdm, kn_sub, kn_div, kn_nsdm, kn_lt, kn_eq, kn_pred, kn_m1, kn_m1', kn_a31, kn_shl, kn_shr, kn_bit, nB_0, nB_1, nB_t, nB_f, Nat.zero_add, Nat.add_zero, Nat.reduceAdd, Nat.reduceMul, Nat.reduceSub, Nat.reducePow]
      refine jW_bn (m_wrong hL kx (show 1 ≤ 1 by omega) (by omega) hp) (fun L hL' => ?_)
      rw [show s_fa 1 p (p, y.2) = (p, 1, p) from if_pos h0] at hL'
      obtain ⟨l1, l4, lM⟩ := hL'
      rw [k4] at l4
      have hby := m_byteAt hL l1.1 (p := p) (by omega)
      have hdg := m_isDigit (X := jz_I h L) (o := s_byt tp n p) (fun v hv => s_byt_lt h256 hv)
      rw [eD] at hdg
      have hin := m_inb (X := jz_I h L) (v := 0) (by omega) hlo hH
      have w5 : L 205 5 = nI 1 := l1.2.2.1.1
      show jW (F_Mod_number_c44 (F_Mod_number_l44 999) 205 (nI lo) H (nI p) (nI 0) (jz_I h L)) P
      unfold F_Mod_number_c44
      cases hc : decide (¬ (0 < lo ∨ hi ≤ 0))
      · rw [hc] at hin
        simp (disch := omega) only [l4, hby, hdg, hin, ↓dK_205 hL, ↓dG_205 hL, ↓dP_205 hL, ↓dZ_205 hL (x := nI 0) (Or.inl rfl), ↓dZ_205 hL (x := nI 1) (Or.inr rfl), ↓dZ_205 hL (Or.inl rfl), ↓dZ_205 hL (Or.inr rfl), ↓dZ_205 hL (nB_01 _), ↓reduceIte, ↓kq_bi, ↓kq_let, ↓kq_rz0, ↓kq_rz1, ↓kq_rzB, ↓Option.bind_some, kq_dvn, kt_lt, kf_lt, kt_eq, kf_eq, decide_true, decide_false, eq_self, Bool.false_eq_true, Bool.true_eq_false, not_true_eq_false, not_false_eq_true, jU_eq, jU_ne, jU_U, jV_eq, jV_ne, jV_V, kn_lit, kn_add, kn_mul, kn_sdm, kn_sub, kn_div, kn_nsdm, kn_lt, kn_eq, kn_pred, kn_m1, kn_m1', kn_a31, kn_shl, kn_shr, kn_bit, nB_0, nB_1, nB_t, nB_f, Nat.zero_add, Nat.add_zero, Nat.reduceAdd, Nat.reduceMul, Nat.reduceSub, Nat.reducePow]
        refine jW_bn (m_wrong hL l1 (show 1 ≤ 2 by omega) (by omega) hp) (fun L2 hL2 => ?_)
        rw [show s_fa 2 p (p, 1, p) = (p, 1, p) from if_neg (by show ¬ 1 = 0; omega)] at hL2
        have w5 : L2 205 5 = nI 1 := hL2.1.2.2.1.1
        simp (disch := omega) only [w5, F_Mod_number_b122, F_Mod_number_b135, ↓dK_205 hL, ↓dG_205 hL, ↓dP_205 hL, ↓dZ_205 hL (x := nI 0) (Or.inl rfl), ↓dZ_205 hL (x := nI 1) (Or.inr rfl), ↓dZ_205 hL (Or.inl rfl), ↓dZ_205 hL (Or.inr rfl), ↓dZ_205 hL (nB_01 _), ↓reduceIte, ↓kq_bi, ↓kq_let, ↓kq_rz0, ↓kq_rz1, ↓kq_rzB, ↓Option.bind_some, kq_dvn, kt_lt, kf_lt, kt_eq, kf_eq, decide_true, decide_false, eq_self, Bool.false_eq_true, Bool.true_eq_false, not_true_eq_false, not_false_eq_true, jU_eq, jU_ne, jU_U, jV_eq, jV_ne, jV_V, kn_lit, kn_add, kn_mul, kn_sdm, kn_sub, kn_div, kn_nsdm, kn_lt, kn_eq, kn_pred, kn_m1, kn_m1', kn_a31, kn_shl, kn_shr, kn_bit, nB_0, nB_1, nB_t, nB_f, Nat.zero_add, Nat.add_zero, Nat.reduceAdd, Nat.reduceMul, Nat.reduceSub, Nat.reducePow]
        exact jW_s (hP L2 ⟨hL2.1, jM1_trans kM (jM1_trans lM hL2.2.2)⟩)
      · rw [hc] at hin
        simp (disch := omega) only [l4, hby, hdg, hin, w5, F_Mod_number_b122, F_Mod_number_b135, ↓dK_205 hL, ↓dG_205 hL, ↓dP_205 hL, ↓dZ_205 hL (x := nI 0) (Or.inl rfl), ↓dZ_205 hL (x := nI 1) (Or.inr rfl), ↓dZ_205 hL (Or.inl rfl), ↓dZ_205 hL (Or.inr rfl), ↓dZ_205 hL (nB_01 _), ↓reduceIte, ↓kq_bi, ↓kq_let, ↓kq_rz0, ↓kq_rz1, ↓kq_rzB, ↓Option.bind_some, kq_dvn, kt_lt, kf_lt, kt_eq, kf_eq, decide_true, decide_false, eq_self, Bool.false_eq_true, Bool.true_eq_false, not_true_eq_false, not_false_eq_true, jU_eq, jU_ne, jU_U, jV_eq, jV_ne, jV_V, kn_lit, kn_add, kn_mul, kn_sdm, kn_sub, kn_div, kn_nsdm, kn_lt, kn_eq, kn_pred, kn_m1, kn_m1', kn_a31, kn_shl, kn_shr, kn_bit, nB_0, nB_1, nB_t, nB_f, Nat.zero_add, Nat.add_zero, Nat.reduceAdd, Nat.reduceMul, Nat.reduceSub, Nat.reducePow]
        exact jW_s (hP L ⟨l1, jM1_trans kM lM⟩)
  · have eu : s_num tp n lo hi y = y := if_neg h0
    unfold s_nur at hP
    rw [eu, if_neg h0] at hP
    simp (disch := omega) only [h5, ↓dK_205 hL, ↓dG_205 hL, ↓dP_205 hL, ↓dZ_205 hL (x := nI 0) (Or.inl rfl), ↓dZ_205 hL (x := nI 1) (Or.inr rfl), ↓dZ_205 hL (Or.inl rfl), ↓dZ_205 hL (Or.inr rfl), ↓dZ_205 hL (nB_01 _), ↓reduceIte, ↓kq_bi, ↓kq_let, ↓kq_rz0, ↓kq_rz1, ↓kq_rzB, ↓Option.bind_some, kq_dvn, kt_lt, kf_lt, kt_eq, kf_eq, decide_true, decide_false, eq_self, Bool.false_eq_true, Bool.true_eq_false, not_true_eq_false, not_false_eq_true, jU_eq, jU_ne, jU_U, jV_eq, jV_ne, jV_V, kn_lit, kn_add, kn_mul, kn_sdm, kn_sub, kn_div, kn_nsdm, kn_lt, kn_eq, kn_pred, kn_m1, kn_m1', kn_a31, kn_shl, kn_shr, kn_bit, nB_0, nB_1, nB_t, nB_f, Nat.zero_add, Nat.add_zero, Nat.reduceAdd, Nat.reduceMul, Nat.reduceSub, Nat.reducePow]
    exact jW_s (hP J ⟨hT, jM1_r⟩)
/-- how a text starts -/
theorem m_starts (hL : jLay t u l m b c h) (hn : n ≤ 600) (htp : ∀ k, k < n → J 206 k = nI (tp k)) (h256 : ∀ k, tp k < 256) : ∃ K, F_Mod_starts 205 (nI n) (jz_I h J) = some (jz_I h K) ∧ jTM K tp n (0, 0, 0) ∧ (K 205 1 = nI 0 ∧ K 205 7 = nI 0 ∧ K 205 8 = nI 0) ∧ (∀ f, f = 0 ∨ f = 3 → K 205 f = J 205 f) ∧ ∀ a, ¬ a = 205 → K a = J a := by
  refine jE_n (fun P hP => ?_)
  unfold F_Mod_starts
  simp (disch := omega) only [↓dK_205 hL, ↓dG_205 hL, ↓dP_205 hL, ↓dZ_205 hL (x := nI 0) (Or.inl rfl), ↓dZ_205 hL (x := nI 1) (Or.inr rfl), ↓dZ_205 hL (Or.inl rfl), ↓dZ_205 hL (Or.inr rfl), ↓dZ_205 hL (nB_01 _), ↓reduceIte, ↓kq_bi, ↓kq_let, ↓kq_rz0, ↓kq_rz1, ↓kq_rzB, ↓Option.bind_some, kq_dvn, kt_lt, kf_lt, kt_eq, kf_eq, decide_true, decide_false, eq_self, Bool.false_eq_true, Bool.true_eq_false, not_true_eq_false, not_false_eq_true, jU_eq, jU_ne, jU_U, jV_eq, jV_ne, jV_V, kn_lit, kn_add, kn_mul, kn_sdm, kn_sub, kn_div, kn_nsdm, kn_lt, kn_eq, kn_pred, kn_m1, kn_m1', kn_a31, kn_shl, kn_shr, kn_bit, nB_0, nB_1, nB_t, nB_f, Nat.zero_add, Nat.add_zero, Nat.reduceAdd, Nat.reduceMul, Nat.reduceSub, Nat.reducePow]
  refine jW_bn (m_bl hL (tp := tp) (n := n) (y := (0, 0, 0)) ⟨⟨?_, hn, fun k hk => by rw [jU_ne (by omega)]; exact htp k hk, h256⟩, ⟨Nat.zero_le _, by show 0 ≤ 3; omega, Nat.zero_le _, hn⟩, ⟨?_, ?_⟩, 0, Nat.zero_le _, ?_, fun _ => rfl⟩ rfl) (fun K hK => ?_)
  · simp (disch := omega) only [jU_eq, jV_ne, jV_eq]
  · simp (disch := omega) only [jU_eq, jV_ne, jV_eq]
  · simp (disch := omega) only [jU_eq, jV_ne, jV_eq]; rfl
  · simp (disch := omega) only [jU_eq, jV_ne, jV_eq]
  · obtain ⟨k1, -, kM⟩ := hK
    have e := fun f a1 a2 a3 => kM.1 f a1 a2 a3
    refine jW_s (hP K ⟨k1, ⟨?_, ?_, ?_⟩, fun f hf => ?_, fun a ha => (kM.2 a ha).trans (jU_ne ha)⟩)
    · rw [e 1 (by omega) (by omega) (by omega)]; simp (disch := omega) only [jU_eq, jV_ne, jV_eq]
    · rw [e 7 (by omega) (by omega) (by omega)]; simp (disch := omega) only [jU_eq, jV_ne, jV_eq]
    · rw [e 8 (by omega) (by omega) (by omega)]; simp (disch := omega) only [jU_eq, jV_ne, jV_eq]
    · rw [e f (by omega) (by omega) (by omega)]; simp (disch := omega) only [jU_eq, jV_ne, jV_eq]
end
/-- the words as numbers -/
theorem six_1 (H : LH) : F_Mod_six (nI 7) (nI 1) (nI 20) (nI 5) (nI 0) (nI 0) H = some (nI (s_wv 1), H) := rfl
theorem six_2 (H : LH) : F_Mod_six (nI 23) (nI 15) (nI 15) (nI 4) (nI 0) (nI 0) H = some (nI (s_wv 2), H) := rfl
theorem six_3 (H : LH) : F_Mod_six (nI 23) (nI 9) (nI 14) (nI 4) (nI 0) (nI 0) H = some (nI (s_wv 3), H) := rfl
theorem six_4 (H : LH) : F_Mod_six (nI 18) (nI 1) (nI 9) (nI 14) (nI 0) (nI 0) H = some (nI (s_wv 4), H) := rfl
theorem six_5 (H : LH) : F_Mod_six (nI 3) (nI 15) (nI 13) (nI 5) (nI 18) (nI 0) H = some (nI (s_wv 5), H) := rfl
theorem six_6 (H : LH) : F_Mod_six (nI 19) (nI 9) (nI 7) (nI 14) (nI 1) (nI 12) H = some (nI (s_wv 6), H) := rfl
theorem six_7 (H : LH) : F_Mod_six (nI 12) (nI 5) (nI 1) (nI 19) (nI 20) (nI 0) H = some (nI (s_wv 7), H) := rfl
theorem six_8 (H : LH) : F_Mod_six (nI 13) (nI 15) (nI 19) (nI 20) (nI 0) (nI 0) H = some (nI (s_wv 8), H) := rfl
theorem six_9 (H : LH) : F_Mod_six (nI 19) (nI 13) (nI 15) (nI 11) (nI 5) (nI 0) H = some (nI (s_wv 9), H) := rfl
theorem six_10 (H : LH) : F_Mod_six (nI 12) (nI 15) (nI 7) (nI 19) (nI 0) (nI 0) H = some (nI (s_wv 10), H) := rfl
theorem six_11 (H : LH) : F_Mod_six (nI 8) (nI 15) (nI 21) (nI 18) (nI 0) (nI 0) H = some (nI (s_wv 11), H) := rfl
theorem six_12 (H : LH) : F_Mod_six (nI 19) (nI 3) (nI 5) (nI 14) (nI 20) (nI 0) H = some (nI (s_wv 12), H) := rfl
theorem six_13 (H : LH) : F_Mod_six (nI 12) (nI 15) (nI 7) (nI 0) (nI 0) (nI 0) H = some (nI (s_wv 13), H) := rfl
theorem six_14 (H : LH) : F_Mod_six (nI 4) (nI 15) (nI 21) (nI 19) (nI 5) (nI 0) H = some (nI (s_wv 14), H) := rfl
theorem six_15 (H : LH) : F_Mod_six (nI 1) (nI 7) (nI 1) (nI 9) (nI 14) (nI 0) H = some (nI (s_wv 15), H) := rfl

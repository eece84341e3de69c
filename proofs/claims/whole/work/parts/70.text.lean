/-! PLAIN LEAN, 36: texts; the class reads numbers and words -/
/-- what k digits say, capped -/
def s_val (tp : Nat → Nat) (p : Nat) : Nat → Nat
  | 0 => 0
  | k + 1 => min (10 * s_val tp p k + (tp (p + k) - 48)) 100000
theorem s_val_le {tp : Nat → Nat} {p : Nat} : ∀ k, s_val tp p k ≤ 100000
  | 0 => Nat.zero_le _
  | _ + 1 => Nat.min_le_right _ _
def s_p1 (c : Nat → Bool) (tp : Nat → Nat) (n : Nat) (y : JTs) : Nat := s_skp c tp n (s_skp c_bl tp n y.1)
def s_nuv (tp : Nat → Nat) (n : Nat) (y : JTs) : Nat := if y.2.1 = 0 then s_val tp (s_skp c_bl tp n y.1) (s_p1 c_dg tp n y - s_skp c_bl tp n y.1) else 0
def s_num (tp : Nat → Nat) (n lo hi : Nat) (y : JTs) : JTs := if y.2.1 = 0 then (if s_p1 c_dg tp n y = s_skp c_bl tp n y.1 then (s_skp c_bl tp n y.1, 1, s_skp c_bl tp n y.1) else if s_nuv tp n y < lo ∨ hi ≤ s_nuv tp n y then (s_p1 c_dg tp n y, 2, s_skp c_bl tp n y.1) else (s_p1 c_dg tp n y, y.2)) else y
def s_wd (tp : Nat → Nat) (n : Nat) (y : JTs) : JTs := if y.2.1 = 0 then (s_p1 c_sm tp n y, y.2) else y
def s_isd (tp : Nat → Nat) (n : Nat) (y : JTs) : Bool := (s_nc tp n y).elim false c_dg
section
variable {t u l m b c : Nat} {h : LH} {I J K : Nat → Nat → Int32} {τ : JTn} {tp : Nat → Nat} {n : Nat} {y : JTs} {x : Int32}
theorem jTX_6 (hT : jTX K tp n y) {x : Int32} : jTX (jU K 65 (jV (K 65) 6 x)) tp n y := by
  obtain ⟨⟨h2, h3, h4, h5⟩, hy, htp, h256⟩ := hT
  exact ⟨⟨by rw [jU_eq, jV_ne (by omega)]; exact h2, by rw [jU_eq, jV_ne (by omega)]; exact h3, by rw [jU_eq, jV_ne (by omega)]; exact h4, by rw [jU_eq, jV_ne (by omega)]; exact h5⟩, hy, fun k hk => by rw [jU_ne (by omega)]; exact htp k hk, h256⟩
theorem jTX_5 (hT : jTX K tp n y) {p : Nat} (hp : p ≤ n) : jTX (jU K 65 (jV (K 65) 5 (nI p))) tp n (p, y.2) := by
  obtain ⟨⟨h2, h3, h4, h5⟩, hy, htp, h256⟩ := hT
  exact ⟨⟨by rw [jU_eq, jV_ne (by omega)]; exact h2, by rw [jU_eq, jV_ne (by omega)]; exact h3, by rw [jU_eq, jV_ne (by omega)]; exact h4, by rw [jU_eq, jV_eq]⟩, ⟨hp, hy.2⟩, fun k hk => by rw [jU_ne (by omega)]; exact htp k hk, h256⟩
theorem jT1_V (f : Nat) (hf : ¬ f = 1) {x : Int32} : jT1 K (jU K 65 (jV (K 65) f x)) := ⟨by rw [jU_eq, jV_ne (by omega)], fun a ha => jU_ne ha⟩
theorem c_isNumberNext (hL : jLay t u l m b c h) (hT : jTX J tp n y) : ∃ K, F_Text_isNumberNext 65 (jz_I h J) = some (nB (s_isd tp n y), jz_I h K) ∧ jTX K tp n (s_nx tp n y) ∧ K 65 6 = J 65 6 ∧ jT1 J K := by
  have h256 := hT.2.2.2
  refine jE_i (fun P hP => ?_)
  unfold F_Text_isNumberNext
  simp (disch := omega) only [↓dR_64_0 hL, ↓dK_65 hL, ↓dG_65 hL, ↓dP_65 hL, ↓reduceIte, ↓kq_bi, ↓kq_let, ↓kq_rz0, ↓kq_rz1, ↓kq_rzB, ↓Option.bind_some, kq_dvn, kt_lt, kf_lt, kt_eq, kf_eq, decide_true, decide_false, eq_self, Bool.false_eq_true, Bool.true_eq_false, not_true_eq_false, not_false_eq_true, jU_eq, jU_ne, jU_U, jV_eq, jV_ne, jV_V, kn_lit, kn_add, kn_mul, kn_sdm, kn_sub, kn_div, kn_nsdm, kn_lt, kn_eq, kn_pred, kn_m1, kn_m1', kn_a31, kn_shl, kn_shr, kn_bit, nB_0, nB_1, nB_t, nB_f, Nat.zero_add, Nat.add_zero, Nat.reduceAdd, Nat.reduceMul, Nat.reduceSub, Nat.reducePow]
  refine jW_bi (c_next hL hT) (fun K hK => ?_)
  have fin := hP K hK
  unfold s_isd at fin
  cases hc : s_nc tp n y with
  | none =>
    rw [hc] at fin
    simp only [nO_none]
    have e : (-nI 1 < nI 48) = True := by decide
    simp (disch := omega) only [e, F_Text_isNumberNext_b21, F_Text_isNumberNext_b22, ↓reduceIte, ↓kq_bi, ↓kq_let, ↓kq_rz0, ↓kq_rz1, ↓kq_rzB, ↓Option.bind_some, kq_dvn, kt_lt, kf_lt, kt_eq, kf_eq, decide_true, decide_false, eq_self, Bool.false_eq_true, Bool.true_eq_false, not_true_eq_false, not_false_eq_true, jU_eq, jU_ne, jU_U, jV_eq, jV_ne, jV_V, kn_lit, kn_add, kn_mul, kn_sdm, kn_sub, kn_div, kn_nsdm, kn_lt, kn_eq, kn_pred, kn_m1, kn_m1', kn_a31, kn_shl, kn_shr, kn_bit, nB_0, nB_1, nB_t, nB_f, Nat.zero_add, Nat.add_zero, Nat.reduceAdd, Nat.reduceMul, Nat.reduceSub, Nat.reducePow]
    exact jW_s fin
  | some v =>
    have hv := s_nc_lt h256 hc
    rw [hc] at fin
    have fin : P (nB (c_dg v), jz_I h K) := fin
    simp only [nO_some]
    unfold c_dg at fin
    by_cases z1 : v < 48
    · rw [decide_eq_false (by omega)] at fin
      simp (disch := omega) only [F_Text_isNumberNext_b21, F_Text_isNumberNext_b22, ↓reduceIte, ↓kq_bi, ↓kq_let, ↓kq_rz0, ↓kq_rz1, ↓kq_rzB, ↓Option.bind_some, kq_dvn, kt_lt, kf_lt, kt_eq, kf_eq, decide_true, decide_false, eq_self, Bool.false_eq_true, Bool.true_eq_false, not_true_eq_false, not_false_eq_true, jU_eq, jU_ne, jU_U, jV_eq, jV_ne, jV_V, kn_lit, kn_add, kn_mul, kn_sdm, kn_sub, kn_div, kn_nsdm, kn_lt, kn_eq, kn_pred, kn_m1, kn_m1', kn_a31, kn_shl, kn_shr, kn_bit, nB_0, nB_1, nB_t, nB_f, Nat.zero_add, Nat.add_zero, Nat.reduceAdd, Nat.reduceMul, Nat.reduceSub, Nat.reducePow]
      exact jW_s fin
    · by_cases z2 : 57 < v
      · rw [decide_eq_false (by omega)] at fin
        simp (disch := omega) only [F_Text_isNumberNext_b21, F_Text_isNumberNext_b22, ↓reduceIte, ↓kq_bi, ↓kq_let, ↓kq_rz0, ↓kq_rz1, ↓kq_rzB, ↓Option.bind_some, kq_dvn, kt_lt, kf_lt, kt_eq, kf_eq, decide_true, decide_false, eq_self, Bool.false_eq_true, Bool.true_eq_false, not_true_eq_false, not_false_eq_true, jU_eq, jU_ne, jU_U, jV_eq, jV_ne, jV_V, kn_lit, kn_add, kn_mul, kn_sdm, kn_sub, kn_div, kn_nsdm, kn_lt, kn_eq, kn_pred, kn_m1, kn_m1', kn_a31, kn_shl, kn_shr, kn_bit, nB_0, nB_1, nB_t, nB_f, Nat.zero_add, Nat.add_zero, Nat.reduceAdd, Nat.reduceMul, Nat.reduceSub, Nat.reducePow]
        exact jW_s fin
      · rw [decide_eq_true (by omega)] at fin
        simp (disch := omega) only [F_Text_isNumberNext_b21, F_Text_isNumberNext_b22, ↓reduceIte, ↓kq_bi, ↓kq_let, ↓kq_rz0, ↓kq_rz1, ↓kq_rzB, ↓Option.bind_some, kq_dvn, kt_lt, kf_lt, kt_eq, kf_eq, decide_true, decide_false, eq_self, Bool.false_eq_true, Bool.true_eq_false, not_true_eq_false, not_false_eq_true, jU_eq, jU_ne, jU_U, jV_eq, jV_ne, jV_V, kn_lit, kn_add, kn_mul, kn_sdm, kn_sub, kn_div, kn_nsdm, kn_lt, kn_eq, kn_pred, kn_m1, kn_m1', kn_a31, kn_shl, kn_shr, kn_bit, nB_0, nB_1, nB_t, nB_f, Nat.zero_add, Nat.add_zero, Nat.reduceAdd, Nat.reduceMul, Nat.reduceSub, Nat.reducePow]
        exact jW_s fin
theorem c_number (hL : jLay t u l m b c h) (hT : jTX J tp n y) {lo hi : Nat} {H : Int32} (hlo : lo ≤ 100000) (hH : ∀ v, v ≤ 100000 → (H < nI v) = (hi ≤ v)) : ∃ K, F_Text_number 65 (nI lo) H (jz_I h J) = some (nI (s_nuv tp n y), jz_I h K) ∧ jTX K tp n (s_num tp n lo hi y) ∧ K 65 6 = nI (s_nx tp n y).1 ∧ jT1 J K := by
  refine jE_i (fun P hP => ?_)
  unfold F_Text_number
  simp (disch := omega) only [↓dR_64_0 hL, ↓dK_65 hL, ↓dG_65 hL, ↓dP_65 hL, ↓reduceIte, ↓kq_bi, ↓kq_let, ↓kq_rz0, ↓kq_rz1, ↓kq_rzB, ↓Option.bind_some, kq_dvn, kt_lt, kf_lt, kt_eq, kf_eq, decide_true, decide_false, eq_self, Bool.false_eq_true, Bool.true_eq_false, not_true_eq_false, not_false_eq_true, jU_eq, jU_ne, jU_U, jV_eq, jV_ne, jV_V, kn_lit, kn_add, kn_mul, kn_sdm, kn_sub, kn_div, kn_nsdm, kn_lt, kn_eq, kn_pred, kn_m1, kn_m1', kn_a31, kn_shl, kn_shr, kn_bit, nB_0, nB_1, nB_t, nB_f, Nat.zero_add, Nat.add_zero, Nat.reduceAdd, Nat.reduceMul, Nat.reduceSub, Nat.reducePow]
  refine jW_bi (c_next hL hT) (fun K1 hK => ?_)
  obtain ⟨hK1, -, hK3⟩ := hK
  have h5 := hK1.1.2.2.2
  have hn : n ≤ 600 := hT.2.1.2.2.2
  by_cases h0 : y.2.1 = 0
  · have ey : s_nx tp n y = (s_skp c_bl tp n y.1, y.2) := if_pos h0
    have ev : s_nuv tp n y = s_val tp (s_skp c_bl tp n y.1) (s_p1 c_dg tp n y - s_skp c_bl tp n y.1) := if_pos h0
    have eu : s_num tp n lo hi y = (if s_p1 c_dg tp n y = s_skp c_bl tp n y.1 then (s_skp c_bl tp n y.1, 1, s_skp c_bl tp n y.1) else if s_nuv tp n y < lo ∨ hi ≤ s_nuv tp n y then (s_p1 c_dg tp n y, 2, s_skp c_bl tp n y.1) else (s_p1 c_dg tp n y, y.2)) := if_pos h0
    rw [eu, ev, ey] at hP
    rw [ey] at hK1 h5
    have hp := (s_skp_ge (c := c_bl) (tp := tp) hT.2.1.1).2
    unfold s_p1 at hP
    generalize s_skp c_bl tp n y.1 = p at hP hK1 h5 hp
    have h5 : K1 65 5 = nI p := h5
    obtain ⟨g1, g2⟩ := s_skp_ge (c := c_dg) (tp := tp) hp
    simp (disch := omega) only [h5, ↓dR_64_0 hL, ↓dK_65 hL, ↓dG_65 hL, ↓dP_65 hL, ↓reduceIte, ↓kq_bi, ↓kq_let, ↓kq_rz0, ↓kq_rz1, ↓kq_rzB, ↓Option.bind_some, kq_dvn, kt_lt, kf_lt, kt_eq, kf_eq, decide_true, decide_false, eq_self, Bool.false_eq_true, Bool.true_eq_false, not_true_eq_false, not_false_eq_true, jU_eq, jU_ne, jU_U, jV_eq, jV_ne, jV_V, kn_lit, kn_add, kn_mul, kn_sdm, kn_sub, kn_div, kn_nsdm, kn_lt, kn_eq, kn_pred, kn_m1, kn_m1', kn_a31, kn_shl, kn_shr, kn_bit, nB_0, nB_1, nB_t, nB_f, Nat.zero_add, Nat.add_zero, Nat.reduceAdd, Nat.reduceMul, Nat.reduceSub, Nat.reducePow]
    have hX : jTX (jU K1 65 (jV (K1 65) 6 (nI p))) tp n (p, y.2) := jTX_6 hK1
    have h6 : (jU K1 65 (jV (K1 65) 6 (nI p))) 65 6 = nI p := by rw [jU_eq, jV_eq]
    have hF : jT1 J (jU K1 65 (jV (K1 65) 6 (nI p))) := jT1_trans hK3 (jT1_V 6 (by omega))
    generalize jU K1 65 (jV (K1 65) 6 (nI p)) = K2 at hX h6 hF
    have x2 : K2 65 2 = nI 0 := by rw [← h0]; exact hX.1.1
    have x4 : K2 65 4 = nI n := hX.1.2.2.1
    have x5 : K2 65 5 = nI p := hX.1.2.2.2
    show jW (F_Text_number_l15 jF 65 (nI lo) H (nI (s_val tp p 0)) (jz_I h K2)) P
    rw [show jz_I h K2 = jz_I h (jU K2 65 (jV (K2 65) 5 (nI (p + 0)))) from by rw [Nat.add_zero, ← x5, jV_id, jU_id]]
    refine jW_for0 (f := fun fuel k (_ : Unit) => F_Text_number_l15 fuel 65 (nI lo) H (nI (s_val tp p k)) (jz_I h (jU K2 65 (jV (K2 65) 5 (nI (p + k)))))) (s_skp c_dg tp n p - p) (fun _ _ => True) () trivial (by omega) (fun F k _ hk _ ih => ?_) (fun F _ _ => ?_)
    · have hc := s_skp_in (c := c_dg) (tp := tp) (n := n) (p := p) (j := p + k) (by omega) (by omega)
      have hc : 48 ≤ tp (p + k) ∧ tp (p + k) ≤ 57 := of_decide_eq_true hc
      have e6 := hX.2.2.1 (p + k) (by omega)
      rw [nS_lo (by omega)] at e6
      have ih' : jW (F_Text_number_l15 F 65 (nI lo) H (nI (s_val tp p (k + 1))) (jz_I h (jU K2 65 (jV (K2 65) 5 (nI (p + (k + 1))))))) P := ih () trivial
      have hv := s_val_le (tp := tp) (p := p) k
      rw [show s_val tp p (k + 1) = min (10 * s_val tp p k + (tp (p + k) - 48)) 100000 from rfl] at ih'
      show jW (F_Text_number_c15 (F_Text_number_l15 F) 65 (nI lo) H (nI (s_val tp p k)) (jz_I h (jU K2 65 (jV (K2 65) 5 (nI (p + k)))))) P
      generalize tp (p + k) = d at hc e6 ih'
      generalize s_val tp p k = v at hv ih'
      unfold F_Text_number_c15
      by_cases z : 100000 < 10 * v + d - 48
      · rw [show min (10 * v + (d - 48)) 100000 = 100000 by omega] at ih'
        simp (disch := omega) only [x2, x4, e6, Nat.add_assoc, ↓dR_64_0 hL, ↓dK_65 hL, ↓dG_65 hL, ↓dP_65 hL, ↓dR_65_0 hL, dI_66 hL, dS_66 hL, ↓reduceIte, ↓kq_bi, ↓kq_let, ↓kq_rz0, ↓kq_rz1, ↓kq_rzB, ↓Option.bind_some, kq_dvn, kt_lt, kf_lt, kt_eq, kf_eq, decide_true, decide_false, eq_self, Bool.false_eq_true, Bool.true_eq_false, not_true_eq_false, not_false_eq_true, jU_eq, jU_ne, jU_U, jV_eq, jV_ne, jV_V, kn_lit, kn_add, kn_mul, kn_sdm, kn_sub, kn_div, kn_nsdm, kn_lt, kn_eq, kn_pred, kn_m1, kn_m1', kn_a31, kn_shl, kn_shr, kn_bit, nB_0, nB_1, nB_t, nB_f, Nat.zero_add, Nat.add_zero, Nat.reduceAdd, Nat.reduceMul, Nat.reduceSub, Nat.reducePow]
        exact ih'
      · rw [show min (10 * v + (d - 48)) 100000 = 10 * v + d - 48 by omega] at ih'
        simp (disch := omega) only [x2, x4, e6, Nat.add_assoc, ↓dR_64_0 hL, ↓dK_65 hL, ↓dG_65 hL, ↓dP_65 hL, ↓dR_65_0 hL, dI_66 hL, dS_66 hL, ↓reduceIte, ↓kq_bi, ↓kq_let, ↓kq_rz0, ↓kq_rz1, ↓kq_rzB, ↓Option.bind_some, kq_dvn, kt_lt, kf_lt, kt_eq, kf_eq, decide_true, decide_false, eq_self, Bool.false_eq_true, Bool.true_eq_false, not_true_eq_false, not_false_eq_true, jU_eq, jU_ne, jU_U, jV_eq, jV_ne, jV_V, kn_lit, kn_add, kn_mul, kn_sdm, kn_sub, kn_div, kn_nsdm, kn_lt, kn_eq, kn_pred, kn_m1, kn_m1', kn_a31, kn_shl, kn_shr, kn_bit, nB_0, nB_1, nB_t, nB_f, Nat.zero_add, Nat.add_zero, Nat.reduceAdd, Nat.reduceMul, Nat.reduceSub, Nat.reducePow]
        exact ih'
    · have eN : p + (s_skp c_dg tp n p - p) = s_skp c_dg tp n p := by omega
      show jW (F_Text_number_c15 (F_Text_number_l15 F) 65 (nI lo) H (nI (s_val tp p (s_skp c_dg tp n p - p))) (jz_I h (jU K2 65 (jV (K2 65) 5 (nI (p + (s_skp c_dg tp n p - p))))))) P
      rw [eN]
      have hv := s_val_le (tp := tp) (p := p) (s_skp c_dg tp n p - p)
      have en := fun z => s_skp_end (c := c_dg) (tp := tp) hp z
      generalize s_val tp p (s_skp c_dg tp n p - p) = v at hP hv
      generalize s_skp c_dg tp n p = q at g1 g2 en hP
      have hfin : jW (F_Text_number_b97 65 (nI lo) H (nI v) (jz_I h (jU K2 65 (jV (K2 65) 5 (nI q))))) P := by
        have hX3 := jTX_5 hX (p := q) g2
        have h63 : (jU K2 65 (jV (K2 65) 5 (nI q))) 65 6 = nI p := by rw [jU_eq, jV_ne (by omega)]; exact h6
        have h53 : (jU K2 65 (jV (K2 65) 5 (nI q))) 65 5 = nI q := by rw [jU_eq, jV_eq]
        have hF3 := jT1_trans hF (jT1_V (K := K2) 5 (by omega) (x := nI q))
        generalize jU K2 65 (jV (K2 65) 5 (nI q)) = K3 at hX3 h63 h53 hF3
        have ef : ∀ k w, s_fa k w (q, y.2) = (q, k, w) := fun k w => if_pos h0
        unfold F_Text_number_b97
        by_cases hq : q = p
        · rw [if_pos hq, ← hq] at hP
          rw [← hq] at h63
          simp (disch := omega) only [h53, h63, ↓dR_64_0 hL, ↓dK_65 hL, ↓dG_65 hL, ↓dP_65 hL, ↓reduceIte, ↓kq_bi, ↓kq_let, ↓kq_rz0, ↓kq_rz1, ↓kq_rzB, ↓Option.bind_some, kq_dvn, kt_lt, kf_lt, kt_eq, kf_eq, decide_true, decide_false, eq_self, Bool.false_eq_true, Bool.true_eq_false, not_true_eq_false, not_false_eq_true, jU_eq, jU_ne, jU_U, jV_eq, jV_ne, jV_V, kn_lit, kn_add, kn_mul, kn_sdm, kn_sub, kn_div, kn_nsdm, kn_lt, kn_eq, kn_pred, kn_m1, kn_m1', kn_a31, kn_shl, kn_shr, kn_bit, nB_0, nB_1, nB_t, nB_f, Nat.zero_add, Nat.add_zero, Nat.reduceAdd, Nat.reduceMul, Nat.reduceSub, Nat.reducePow]
          refine jW_bn (c_fail hL hX3 (show 1 ≤ 1 by omega) (by omega) g2 h63) (fun L hL' => ?_)
          rw [ef] at hL'
          simp (disch := omega) only [F_Text_number_b131, ↓reduceIte, ↓kq_bi, ↓kq_let, ↓kq_rz0, ↓kq_rz1, ↓kq_rzB, ↓Option.bind_some, kq_dvn, kt_lt, kf_lt, kt_eq, kf_eq, decide_true, decide_false, eq_self, Bool.false_eq_true, Bool.true_eq_false, not_true_eq_false, not_false_eq_true, jU_eq, jU_ne, jU_U, jV_eq, jV_ne, jV_V, kn_lit, kn_add, kn_mul, kn_sdm, kn_sub, kn_div, kn_nsdm, kn_lt, kn_eq, kn_pred, kn_m1, kn_m1', kn_a31, kn_shl, kn_shr, kn_bit, nB_0, nB_1, nB_t, nB_f, Nat.zero_add, Nat.add_zero, Nat.reduceAdd, Nat.reduceMul, Nat.reduceSub, Nat.reducePow]
          exact jW_s (hP L ⟨hL'.1, hL'.2.1.trans h63, jT1_trans hF3 hL'.2.2⟩)
        · rw [if_neg hq] at hP
          have eH := hH v hv
          by_cases z1 : v < lo
          · rw [if_pos (Or.inl z1)] at hP
            simp (disch := omega) only [h53, h63, F_Text_number_b126, ↓dR_64_0 hL, ↓dK_65 hL, ↓dG_65 hL, ↓dP_65 hL, ↓reduceIte, ↓kq_bi, ↓kq_let, ↓kq_rz0, ↓kq_rz1, ↓kq_rzB, ↓Option.bind_some, kq_dvn, kt_lt, kf_lt, kt_eq, kf_eq, decide_true, decide_false, eq_self, Bool.false_eq_true, Bool.true_eq_false, not_true_eq_false, not_false_eq_true, jU_eq, jU_ne, jU_U, jV_eq, jV_ne, jV_V, kn_lit, kn_add, kn_mul, kn_sdm, kn_sub, kn_div, kn_nsdm, kn_lt, kn_eq, kn_pred, kn_m1, kn_m1', kn_a31, kn_shl, kn_shr, kn_bit, nB_0, nB_1, nB_t, nB_f, Nat.zero_add, Nat.add_zero, Nat.reduceAdd, Nat.reduceMul, Nat.reduceSub, Nat.reducePow]
            refine jW_bn (c_fail hL hX3 (show 1 ≤ 2 by omega) (by omega) hp h63) (fun L hL' => ?_)
            rw [ef] at hL'
            simp (disch := omega) only [F_Text_number_b131, ↓reduceIte, ↓kq_bi, ↓kq_let, ↓kq_rz0, ↓kq_rz1, ↓kq_rzB, ↓Option.bind_some, kq_dvn, kt_lt, kf_lt, kt_eq, kf_eq, decide_true, decide_false, eq_self, Bool.false_eq_true, Bool.true_eq_false, not_true_eq_false, not_false_eq_true, jU_eq, jU_ne, jU_U, jV_eq, jV_ne, jV_V, kn_lit, kn_add, kn_mul, kn_sdm, kn_sub, kn_div, kn_nsdm, kn_lt, kn_eq, kn_pred, kn_m1, kn_m1', kn_a31, kn_shl, kn_shr, kn_bit, nB_0, nB_1, nB_t, nB_f, Nat.zero_add, Nat.add_zero, Nat.reduceAdd, Nat.reduceMul, Nat.reduceSub, Nat.reducePow]
            exact jW_s (hP L ⟨hL'.1, hL'.2.1.trans h63, jT1_trans hF3 hL'.2.2⟩)
          · by_cases z2 : hi ≤ v
            · rw [if_pos (Or.inr z2)] at hP
              rw [eq_true z2] at eH
              simp (disch := omega) only [h53, h63, eH, F_Text_number_b126, ↓dR_64_0 hL, ↓dK_65 hL, ↓dG_65 hL, ↓dP_65 hL, ↓reduceIte, ↓kq_bi, ↓kq_let, ↓kq_rz0, ↓kq_rz1, ↓kq_rzB, ↓Option.bind_some, kq_dvn, kt_lt, kf_lt, kt_eq, kf_eq, decide_true, decide_false, eq_self, Bool.false_eq_true, Bool.true_eq_false, not_true_eq_false, not_false_eq_true, jU_eq, jU_ne, jU_U, jV_eq, jV_ne, jV_V, kn_lit, kn_add, kn_mul, kn_sdm, kn_sub, kn_div, kn_nsdm, kn_lt, kn_eq, kn_pred, kn_m1, kn_m1', kn_a31, kn_shl, kn_shr, kn_bit, nB_0, nB_1, nB_t, nB_f, Nat.zero_add, Nat.add_zero, Nat.reduceAdd, Nat.reduceMul, Nat.reduceSub, Nat.reducePow]
              refine jW_bn (c_fail hL hX3 (show 1 ≤ 2 by omega) (by omega) hp h63) (fun L hL' => ?_)
              rw [ef] at hL'
              simp (disch := omega) only [F_Text_number_b131, ↓reduceIte, ↓kq_bi, ↓kq_let, ↓kq_rz0, ↓kq_rz1, ↓kq_rzB, ↓Option.bind_some, kq_dvn, kt_lt, kf_lt, kt_eq, kf_eq, decide_true, decide_false, eq_self, Bool.false_eq_true, Bool.true_eq_false, not_true_eq_false, not_false_eq_true, jU_eq, jU_ne, jU_U, jV_eq, jV_ne, jV_V, kn_lit, kn_add, kn_mul, kn_sdm, kn_sub, kn_div, kn_nsdm, kn_lt, kn_eq, kn_pred, kn_m1, kn_m1', kn_a31, kn_shl, kn_shr, kn_bit, nB_0, nB_1, nB_t, nB_f, Nat.zero_add, Nat.add_zero, Nat.reduceAdd, Nat.reduceMul, Nat.reduceSub, Nat.reducePow]
              exact jW_s (hP L ⟨hL'.1, hL'.2.1.trans h63, jT1_trans hF3 hL'.2.2⟩)
            · rw [if_neg (show ¬ (v < lo ∨ hi ≤ v) by omega)] at hP
              rw [eq_false z2] at eH
              simp (disch := omega) only [h53, h63, eH, F_Text_number_b131, ↓dR_64_0 hL, ↓dK_65 hL, ↓dG_65 hL, ↓dP_65 hL, ↓reduceIte, ↓kq_bi, ↓kq_let, ↓kq_rz0, ↓kq_rz1, ↓kq_rzB, ↓Option.bind_some, kq_dvn, kt_lt, kf_lt, kt_eq, kf_eq, decide_true, decide_false, eq_self, Bool.false_eq_true, Bool.true_eq_false, not_true_eq_false, not_false_eq_true, jU_eq, jU_ne, jU_U, jV_eq, jV_ne, jV_V, kn_lit, kn_add, kn_mul, kn_sdm, kn_sub, kn_div, kn_nsdm, kn_lt, kn_eq, kn_pred, kn_m1, kn_m1', kn_a31, kn_shl, kn_shr, kn_bit, nB_0, nB_1, nB_t, nB_f, Nat.zero_add, Nat.add_zero, Nat.reduceAdd, Nat.reduceMul, Nat.reduceSub, Nat.reducePow]
              exact jW_s (hP K3 ⟨hX3, h63, hF3⟩)
      unfold F_Text_number_c15
      by_cases hq : q < n
      · have hc : ¬ (48 ≤ tp q ∧ tp q ≤ 57) := of_decide_eq_false (en hq)
        have e6 := hX.2.2.1 q hq
        have h256 := hX.2.2.2 q
        have e48 := nS_48 h256
        have e57 := nS_57 h256
        by_cases z : tp q < 48 ∨ 128 ≤ tp q
        · rw [eq_true z] at e48
          simp (disch := omega) only [x2, x4, e6, e48, ↓dR_64_0 hL, ↓dK_65 hL, ↓dG_65 hL, ↓dP_65 hL, ↓dR_65_0 hL, dI_66 hL, dS_66 hL, ↓reduceIte, ↓kq_bi, ↓kq_let, ↓kq_rz0, ↓kq_rz1, ↓kq_rzB, ↓Option.bind_some, kq_dvn, kt_lt, kf_lt, kt_eq, kf_eq, decide_true, decide_false, eq_self, Bool.false_eq_true, Bool.true_eq_false, not_true_eq_false, not_false_eq_true, jU_eq, jU_ne, jU_U, jV_eq, jV_ne, jV_V, kn_lit, kn_add, kn_mul, kn_sdm, kn_sub, kn_div, kn_nsdm, kn_lt, kn_eq, kn_pred, kn_m1, kn_m1', kn_a31, kn_shl, kn_shr, kn_bit, nB_0, nB_1, nB_t, nB_f, Nat.zero_add, Nat.add_zero, Nat.reduceAdd, Nat.reduceMul, Nat.reduceSub, Nat.reducePow]
          exact hfin
        · rw [eq_false z] at e48
          rw [eq_true (show 57 < tp q ∧ tp q < 128 by omega)] at e57
          simp (disch := omega) only [x2, x4, e6, e48, e57, ↓dR_64_0 hL, ↓dK_65 hL, ↓dG_65 hL, ↓dP_65 hL, ↓dR_65_0 hL, dI_66 hL, dS_66 hL, ↓reduceIte, ↓kq_bi, ↓kq_let, ↓kq_rz0, ↓kq_rz1, ↓kq_rzB, ↓Option.bind_some, kq_dvn, kt_lt, kf_lt, kt_eq, kf_eq, decide_true, decide_false, eq_self, Bool.false_eq_true, Bool.true_eq_false, not_true_eq_false, not_false_eq_true, jU_eq, jU_ne, jU_U, jV_eq, jV_ne, jV_V, kn_lit, kn_add, kn_mul, kn_sdm, kn_sub, kn_div, kn_nsdm, kn_lt, kn_eq, kn_pred, kn_m1, kn_m1', kn_a31, kn_shl, kn_shr, kn_bit, nB_0, nB_1, nB_t, nB_f, Nat.zero_add, Nat.add_zero, Nat.reduceAdd, Nat.reduceMul, Nat.reduceSub, Nat.reducePow]
          exact hfin
      · simp (disch := omega) only [x2, x4, ↓dR_64_0 hL, ↓dK_65 hL, ↓dG_65 hL, ↓dP_65 hL, ↓dR_65_0 hL, dI_66 hL, dS_66 hL, ↓reduceIte, ↓kq_bi, ↓kq_let, ↓kq_rz0, ↓kq_rz1, ↓kq_rzB, ↓Option.bind_some, kq_dvn, kt_lt, kf_lt, kt_eq, kf_eq, decide_true, decide_false, eq_self, Bool.false_eq_true, Bool.true_eq_false, not_true_eq_false, not_false_eq_true, jU_eq, jU_ne, jU_U, jV_eq, jV_ne, jV_V, kn_lit, kn_add, kn_mul, kn_sdm, kn_sub, kn_div, kn_nsdm, kn_lt, kn_eq, kn_pred, kn_m1, kn_m1', kn_a31, kn_shl, kn_shr, kn_bit, nB_0, nB_1, nB_t, nB_f, Nat.zero_add, Nat.add_zero, Nat.reduceAdd, Nat.reduceMul, Nat.reduceSub, Nat.reducePow]
        exact hfin
  · have ey : s_nx tp n y = y := if_neg h0
    have ev : s_nuv tp n y = 0 := if_neg h0
    have eu : s_num tp n lo hi y = y := if_neg h0
    rw [eu, ev, ey] at hP
    rw [ey] at hK1 h5
    have hX := jTX_6 hK1 (x := nI y.1)
    have h6 : (jU K1 65 (jV (K1 65) 6 (nI y.1))) 65 6 = nI y.1 := by rw [jU_eq, jV_eq]
    have hF := jT1_trans hK3 (jT1_V (K := K1) 6 (by omega) (x := nI y.1))
    simp (disch := omega) only [h5, ↓dR_64_0 hL, ↓dK_65 hL, ↓dG_65 hL, ↓dP_65 hL, ↓reduceIte, ↓kq_bi, ↓kq_let, ↓kq_rz0, ↓kq_rz1, ↓kq_rzB, ↓Option.bind_some, kq_dvn, kt_lt, kf_lt, kt_eq, kf_eq, decide_true, decide_false, eq_self, Bool.false_eq_true, Bool.true_eq_false, not_true_eq_false, not_false_eq_true, jU_eq, jU_ne, jU_U, jV_eq, jV_ne, jV_V, kn_lit, kn_add, kn_mul, kn_sdm, kn_sub, kn_div, kn_nsdm, kn_lt, kn_eq, kn_pred, kn_m1, kn_m1', kn_a31, kn_shl, kn_shr, kn_bit, nB_0, nB_1, nB_t, nB_f, Nat.zero_add, Nat.add_zero, Nat.reduceAdd, Nat.reduceMul, Nat.reduceSub, Nat.reducePow]
    generalize jU K1 65 (jV (K1 65) 6 (nI y.1)) = K2 at hX h6 hF
    have x2 : K2 65 2 = nI y.2.1 := hX.1.1
    have x5 : K2 65 5 = nI y.1 := hX.1.2.2.2
    have hy2 : y.2.1 ≤ 3 := hT.2.1.2.1
    have hy1 : y.1 ≤ n := hT.2.1.1
    show jW (F_Text_number_c15 (F_Text_number_l15 999) 65 (nI lo) H (nI 0) (jz_I h K2)) P
    unfold F_Text_number_c15
    simp (disch := omega) only [x2, x5, h6, F_Text_number_b97, ↓dR_64_0 hL, ↓dK_65 hL, ↓dG_65 hL, ↓dP_65 hL, ↓reduceIte, ↓kq_bi, ↓kq_let, ↓kq_rz0, ↓kq_rz1, ↓kq_rzB, ↓Option.bind_some, kq_dvn, kt_lt, kf_lt, kt_eq, kf_eq, decide_true, decide_false, eq_self, Bool.false_eq_true, Bool.true_eq_false, not_true_eq_false, not_false_eq_true, jU_eq, jU_ne, jU_U, jV_eq, jV_ne, jV_V, kn_lit, kn_add, kn_mul, kn_sdm, kn_sub, kn_div, kn_nsdm, kn_lt, kn_eq, kn_pred, kn_m1, kn_m1', kn_a31, kn_shl, kn_shr, kn_bit, nB_0, nB_1, nB_t, nB_f, Nat.zero_add, Nat.add_zero, Nat.reduceAdd, Nat.reduceMul, Nat.reduceSub, Nat.reducePow]
    refine jW_bn (c_fail hL hX (show 1 ≤ 1 by omega) (by omega) hy1 h6) (fun L hL' => ?_)
    rw [show s_fa 1 y.1 y = y from if_neg h0] at hL'
    simp (disch := omega) only [F_Text_number_b131, ↓reduceIte, ↓kq_bi, ↓kq_let, ↓kq_rz0, ↓kq_rz1, ↓kq_rzB, ↓Option.bind_some, kq_dvn, kt_lt, kf_lt, kt_eq, kf_eq, decide_true, decide_false, eq_self, Bool.false_eq_true, Bool.true_eq_false, not_true_eq_false, not_false_eq_true, jU_eq, jU_ne, jU_U, jV_eq, jV_ne, jV_V, kn_lit, kn_add, kn_mul, kn_sdm, kn_sub, kn_div, kn_nsdm, kn_lt, kn_eq, kn_pred, kn_m1, kn_m1', kn_a31, kn_shl, kn_shr, kn_bit, nB_0, nB_1, nB_t, nB_f, Nat.zero_add, Nat.add_zero, Nat.reduceAdd, Nat.reduceMul, Nat.reduceSub, Nat.reducePow]
    exact jW_s (hP L ⟨hL'.1, hL'.2.1.trans h6, jT1_trans hF hL'.2.2⟩)
theorem c_word (hL : jLay t u l m b c h) (hT : jTX J tp n y) : ∃ K, F_Text_word 65 (jz_I h J) = some (jz_I h K) ∧ jTX K tp n (s_wd tp n y) ∧ K 65 6 = nI (s_nx tp n y).1 ∧ jT1 J K := by
  refine jE_n (fun P hP => ?_)
  unfold F_Text_word
  simp (disch := omega) only [↓dR_64_0 hL, ↓dK_65 hL, ↓dG_65 hL, ↓dP_65 hL, ↓reduceIte, ↓kq_bi, ↓kq_let, ↓kq_rz0, ↓kq_rz1, ↓kq_rzB, ↓Option.bind_some, kq_dvn, kt_lt, kf_lt, kt_eq, kf_eq, decide_true, decide_false, eq_self, Bool.false_eq_true, Bool.true_eq_false, not_true_eq_false, not_false_eq_true, jU_eq, jU_ne, jU_U, jV_eq, jV_ne, jV_V, kn_lit, kn_add, kn_mul, kn_sdm, kn_sub, kn_div, kn_nsdm, kn_lt, kn_eq, kn_pred, kn_m1, kn_m1', kn_a31, kn_shl, kn_shr, kn_bit, nB_0, nB_1, nB_t, nB_f, Nat.zero_add, Nat.add_zero, Nat.reduceAdd, Nat.reduceMul, Nat.reduceSub, Nat.reducePow]
  refine jW_bi (c_next hL hT) (fun K1 hK => ?_)
  obtain ⟨hK1, -, hK3⟩ := hK
  have h5 := hK1.1.2.2.2
  have hn : n ≤ 600 := hT.2.1.2.2.2
  by_cases h0 : y.2.1 = 0
  · have ey : s_nx tp n y = (s_skp c_bl tp n y.1, y.2) := if_pos h0
    have eu : s_wd tp n y = (s_p1 c_sm tp n y, y.2) := if_pos h0
    rw [eu, ey] at hP
    rw [ey] at hK1 h5
    have hp := (s_skp_ge (c := c_bl) (tp := tp) hT.2.1.1).2
    unfold s_p1 at hP
    generalize s_skp c_bl tp n y.1 = p at hP hK1 h5 hp
    have h5 : K1 65 5 = nI p := h5
    obtain ⟨g1, g2⟩ := s_skp_ge (c := c_sm) (tp := tp) hp
    simp (disch := omega) only [h5, ↓dR_64_0 hL, ↓dK_65 hL, ↓dG_65 hL, ↓dP_65 hL, ↓reduceIte, ↓kq_bi, ↓kq_let, ↓kq_rz0, ↓kq_rz1, ↓kq_rzB, ↓Option.bind_some, kq_dvn, kt_lt, kf_lt, kt_eq, kf_eq, decide_true, decide_false, eq_self, Bool.false_eq_true, Bool.true_eq_false, not_true_eq_false, not_false_eq_true, jU_eq, jU_ne, jU_U, jV_eq, jV_ne, jV_V, kn_lit, kn_add, kn_mul, kn_sdm, kn_sub, kn_div, kn_nsdm, kn_lt, kn_eq, kn_pred, kn_m1, kn_m1', kn_a31, kn_shl, kn_shr, kn_bit, nB_0, nB_1, nB_t, nB_f, Nat.zero_add, Nat.add_zero, Nat.reduceAdd, Nat.reduceMul, Nat.reduceSub, Nat.reducePow]
    have hX : jTX (jU K1 65 (jV (K1 65) 6 (nI p))) tp n (p, y.2) := jTX_6 hK1
    have h6 : (jU K1 65 (jV (K1 65) 6 (nI p))) 65 6 = nI p := by rw [jU_eq, jV_eq]
    have hF : jT1 J (jU K1 65 (jV (K1 65) 6 (nI p))) := jT1_trans hK3 (jT1_V 6 (by omega))
    generalize jU K1 65 (jV (K1 65) 6 (nI p)) = K2 at hX h6 hF
    have x2 : K2 65 2 = nI 0 := by rw [← h0]; exact hX.1.1
    have x4 : K2 65 4 = nI n := hX.1.2.2.1
    have x5 : K2 65 5 = nI p := hX.1.2.2.2
    show jW (F_Text_word_l13 jF 65 (jz_I h K2)) P
    rw [show jz_I h K2 = jz_I h (jU K2 65 (jV (K2 65) 5 (nI (p + 0)))) from by rw [Nat.add_zero, ← x5, jV_id, jU_id]]
    refine jW_for0 (f := fun fuel k (_ : Unit) => F_Text_word_l13 fuel 65 (jz_I h (jU K2 65 (jV (K2 65) 5 (nI (p + k)))))) (s_skp c_sm tp n p - p) (fun _ _ => True) () trivial (by omega) (fun F k _ hk _ ih => ?_) (fun F _ _ => ?_)
    · have hc := s_skp_in (c := c_sm) (tp := tp) (n := n) (p := p) (j := p + k) (by omega) (by omega)
      have hc : 97 ≤ tp (p + k) ∧ tp (p + k) ≤ 122 := of_decide_eq_true hc
      have e6 := hX.2.2.1 (p + k) (by omega)
      rw [nS_lo (by omega)] at e6
      have ih' : jW (F_Text_word_l13 F 65 (jz_I h (jU K2 65 (jV (K2 65) 5 (nI (p + (k + 1))))))) P := ih () trivial
      show jW (F_Text_word_c13 (F_Text_word_l13 F) 65 (jz_I h (jU K2 65 (jV (K2 65) 5 (nI (p + k)))))) P
      generalize tp (p + k) = d at hc e6
      unfold F_Text_word_c13
      simp (disch := omega) only [x2, x4, e6, Nat.add_assoc, ↓dR_64_0 hL, ↓dK_65 hL, ↓dG_65 hL, ↓dP_65 hL, ↓dR_65_0 hL, dI_66 hL, dS_66 hL, ↓reduceIte, ↓kq_bi, ↓kq_let, ↓kq_rz0, ↓kq_rz1, ↓kq_rzB, ↓Option.bind_some, kq_dvn, kt_lt, kf_lt, kt_eq, kf_eq, decide_true, decide_false, eq_self, Bool.false_eq_true, Bool.true_eq_false, not_true_eq_false, not_false_eq_true, jU_eq, jU_ne, jU_U, jV_eq, jV_ne, jV_V, kn_lit, kn_add, kn_mul, kn_sdm, kn_sub, kn_div, kn_nsdm, kn_lt, kn_eq, kn_pred, kn_m1, kn_m1', kn_a31, kn_shl, kn_shr, kn_bit, nB_0, nB_1, nB_t, nB_f, Nat.zero_add, Nat.add_zero, Nat.reduceAdd, Nat.reduceMul, Nat.reduceSub, Nat.reducePow]
      exact ih'
    · have eN : p + (s_skp c_sm tp n p - p) = s_skp c_sm tp n p := by omega
      show jW (F_Text_word_c13 (F_Text_word_l13 F) 65 (jz_I h (jU K2 65 (jV (K2 65) 5 (nI (p + (s_skp c_sm tp n p - p))))))) P
      rw [eN]
      have en := fun z => s_skp_end (c := c_sm) (tp := tp) hp z
      generalize s_skp c_sm tp n p = q at g1 g2 en hP
      have h63 : (jU K2 65 (jV (K2 65) 5 (nI q))) 65 6 = nI p := by rw [jU_eq, jV_ne (by omega)]; exact h6
      have hfin := hP _ ⟨jTX_5 hX (p := q) g2, h63, jT1_trans hF (jT1_V (K := K2) 5 (by omega) (x := nI q))⟩
      unfold F_Text_word_c13
      by_cases hq : q < n
      · have hc : ¬ (97 ≤ tp q ∧ tp q ≤ 122) := of_decide_eq_false (en hq)
        have e6 := hX.2.2.1 q hq
        have h256 := hX.2.2.2 q
        have e97 := nS_97 h256
        have e122 := nS_122 h256
        by_cases z : tp q < 97 ∨ 128 ≤ tp q
        · rw [eq_true z] at e97
          simp (disch := omega) only [x2, x4, e6, e97, F_Text_word_b72, ↓dR_64_0 hL, ↓dK_65 hL, ↓dG_65 hL, ↓dP_65 hL, ↓dR_65_0 hL, dI_66 hL, dS_66 hL, ↓reduceIte, ↓kq_bi, ↓kq_let, ↓kq_rz0, ↓kq_rz1, ↓kq_rzB, ↓Option.bind_some, kq_dvn, kt_lt, kf_lt, kt_eq, kf_eq, decide_true, decide_false, eq_self, Bool.false_eq_true, Bool.true_eq_false, not_true_eq_false, not_false_eq_true, jU_eq, jU_ne, jU_U, jV_eq, jV_ne, jV_V, kn_lit, kn_add, kn_mul, kn_sdm, kn_sub, kn_div, kn_nsdm, kn_lt, kn_eq, kn_pred, kn_m1, kn_m1', kn_a31, kn_shl, kn_shr, kn_bit, nB_0, nB_1, nB_t, nB_f, Nat.zero_add, Nat.add_zero, Nat.reduceAdd, Nat.reduceMul, Nat.reduceSub, Nat.reducePow]
          exact jW_s hfin
        · rw [eq_false z] at e97
          rw [eq_true (show 122 < tp q ∧ tp q < 128 by omega)] at e122
          simp (disch := omega) only [x2, x4, e6, e97, e122, F_Text_word_b72, ↓dR_64_0 hL, ↓dK_65 hL, ↓dG_65 hL, ↓dP_65 hL, ↓dR_65_0 hL, dI_66 hL, dS_66 hL, ↓reduceIte, ↓kq_bi, ↓kq_let, ↓kq_rz0, ↓kq_rz1, ↓kq_rzB, ↓Option.bind_some, kq_dvn, kt_lt, kf_lt, kt_eq, kf_eq, decide_true, decide_false, eq_self, Bool.false_eq_true, Bool.true_eq_false, not_true_eq_false, not_false_eq_true, jU_eq, jU_ne, jU_U, jV_eq, jV_ne, jV_V, kn_lit, kn_add, kn_mul, kn_sdm, kn_sub, kn_div, kn_nsdm, kn_lt, kn_eq, kn_pred, kn_m1, kn_m1', kn_a31, kn_shl, kn_shr, kn_bit, nB_0, nB_1, nB_t, nB_f, Nat.zero_add, Nat.add_zero, Nat.reduceAdd, Nat.reduceMul, Nat.reduceSub, Nat.reducePow]
          exact jW_s hfin
      · simp (disch := omega) only [x2, x4, F_Text_word_b72, ↓dR_64_0 hL, ↓dK_65 hL, ↓dG_65 hL, ↓dP_65 hL, ↓dR_65_0 hL, dI_66 hL, dS_66 hL, ↓reduceIte, ↓kq_bi, ↓kq_let, ↓kq_rz0, ↓kq_rz1, ↓kq_rzB, ↓Option.bind_some, kq_dvn, kt_lt, kf_lt, kt_eq, kf_eq, decide_true, decide_false, eq_self, Bool.false_eq_true, Bool.true_eq_false, not_true_eq_false, not_false_eq_true, jU_eq, jU_ne, jU_U, jV_eq, jV_ne, jV_V, kn_lit, kn_add, kn_mul, kn_sdm, kn_sub, kn_div, kn_nsdm, kn_lt, kn_eq, kn_pred, kn_m1, kn_m1', kn_a31, kn_shl, kn_shr, kn_bit, nB_0, nB_1, nB_t, nB_f, Nat.zero_add, Nat.add_zero, Nat.reduceAdd, Nat.reduceMul, Nat.reduceSub, Nat.reducePow]
        exact jW_s hfin
  · have ey : s_nx tp n y = y := if_neg h0
    have eu : s_wd tp n y = y := if_neg h0
    rw [eu, ey] at hP
    rw [ey] at hK1 h5
    have hX := jTX_6 hK1 (x := nI y.1)
    have h6 : (jU K1 65 (jV (K1 65) 6 (nI y.1))) 65 6 = nI y.1 := by rw [jU_eq, jV_eq]
    have hF := jT1_trans hK3 (jT1_V (K := K1) 6 (by omega) (x := nI y.1))
    simp (disch := omega) only [h5, ↓dR_64_0 hL, ↓dK_65 hL, ↓dG_65 hL, ↓dP_65 hL, ↓reduceIte, ↓kq_bi, ↓kq_let, ↓kq_rz0, ↓kq_rz1, ↓kq_rzB, ↓Option.bind_some, kq_dvn, kt_lt, kf_lt, kt_eq, kf_eq, decide_true, decide_false, eq_self, Bool.false_eq_true, Bool.true_eq_false, not_true_eq_false, not_false_eq_true, jU_eq, jU_ne, jU_U, jV_eq, jV_ne, jV_V, kn_lit, kn_add, kn_mul, kn_sdm, kn_sub, kn_div, kn_nsdm, kn_lt, kn_eq, kn_pred, kn_m1, kn_m1', kn_a31, kn_shl, kn_shr, kn_bit, nB_0, nB_1, nB_t, nB_f, Nat.zero_add, Nat.add_zero, Nat.reduceAdd, Nat.reduceMul, Nat.reduceSub, Nat.reducePow]
    generalize jU K1 65 (jV (K1 65) 6 (nI y.1)) = K2 at hX h6 hF
    have x2 : K2 65 2 = nI y.2.1 := hX.1.1
    have hy2 : y.2.1 ≤ 3 := hT.2.1.2.1
    show jW (F_Text_word_c13 (F_Text_word_l13 999) 65 (jz_I h K2)) P
    unfold F_Text_word_c13
    simp (disch := omega) only [x2, F_Text_word_b72, ↓dR_64_0 hL, ↓dK_65 hL, ↓dG_65 hL, ↓dP_65 hL, ↓reduceIte, ↓kq_bi, ↓kq_let, ↓kq_rz0, ↓kq_rz1, ↓kq_rzB, ↓Option.bind_some, kq_dvn, kt_lt, kf_lt, kt_eq, kf_eq, decide_true, decide_false, eq_self, Bool.false_eq_true, Bool.true_eq_false, not_true_eq_false, not_false_eq_true, jU_eq, jU_ne, jU_U, jV_eq, jV_ne, jV_V, kn_lit, kn_add, kn_mul, kn_sdm, kn_sub, kn_div, kn_nsdm, kn_lt, kn_eq, kn_pred, kn_m1, kn_m1', kn_a31, kn_shl, kn_shr, kn_bit, nB_0, nB_1, nB_t, nB_f, Nat.zero_add, Nat.add_zero, Nat.reduceAdd, Nat.reduceMul, Nat.reduceSub, Nat.reducePow]
    exact jW_s (hP K2 ⟨hX, h6, hF⟩)
end

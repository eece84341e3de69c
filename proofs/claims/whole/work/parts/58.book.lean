/-! PLAIN LEAN, 24: fits -/
def s_ffo (τ : JTn) (r : JRw) (β : JBk) : Nat → Option Nat
  | 0 => none
  | g + 1 => (s_ffo τ r β g).or ((s_ff τ r β g).map (fun j => 64 * g + (1 + j)))
def s_fits (τ : JTn) (r : JRw) (β : JBk) (w : Bool) : Int32 := if w = true then nO (s_ffo τ r β (τ 0 0)) else nI (s_sum (s_bt τ r β) (τ 0 0))
section
variable {t u l m b c : Nat} {h : LH} {I J K : Nat → Nat → Int32} {τ : JTn} {r q : JRw} {σ ρ i : Nat} {Q : Type} {x : Int32} {d : Bool} {ω : JLw} {f : Nat → Int32} {β : JBk}
theorem s_bt_le (ho : jTOK τ) {x : Nat} : s_bt τ r β x ≤ 63 := Nat.le_trans (s_cnt_le _ _) (by have := (s_2w ho).2; omega)
theorem s_bts_le (ho : jTOK τ) {n : Nat} (hn : n ≤ 9) : s_sum (s_bt τ r β) n ≤ 567 := by
  have := s_sum_le (f := s_bt τ r β) (c := 63) n (fun k _ => s_bt_le ho)
  omega
theorem s_cnt_fst {p : Nat → Bool} : ∀ n, (s_cnt p n = 0) = (s_fst p n = none)
  | 0 => by show (0 = 0) = (none = none); simp
  | n + 1 => by
    have ih := s_cnt_fst (p := p) n
    show (s_cnt p n + (if p n = true then 1 else 0) = 0) = ((s_fst p n).or (if p n = true then some n else none) = none)
    by_cases hp : p n = true
    · rw [if_pos hp, if_pos hp]
      refine propext ⟨fun h => by omega, fun h => ?_⟩
      cases hs : s_fst p n <;> rw [hs] at h <;> cases h
    · rw [if_neg hp, if_neg hp, Nat.add_zero, ih]
      cases s_fst p n <;> rfl
theorem s_ffo_none : ∀ g, (s_sum (s_bt τ r β) g = 0) = (s_ffo τ r β g = none)
  | 0 => by show (0 = 0) = (none = none); simp
  | g + 1 => by
    have ih := s_ffo_none g
    have e := s_cnt_fst (p := s_ft τ r β g) (2 ^ τ 0 1 - 1)
    show (s_sum (s_bt τ r β) g + s_bt τ r β g = 0) = ((s_ffo τ r β g).or ((s_ff τ r β g).map (fun j => 64 * g + (1 + j))) = none)
    unfold s_bt at ih ⊢
    unfold s_ff
    refine propext ⟨fun h => ?_, fun h => ?_⟩
    · have h1 := ih.mp (by omega)
      have h2 := e.mp (by omega)
      rw [h1, h2]; rfl
    · cases h1 : s_ffo τ r β g with
      | none =>
        rw [h1] at h
        cases h2 : s_fst (s_ft τ r β g) (2 ^ τ 0 1 - 1) with
        | none =>
          have := ih.mpr h1
          have := e.mpr h2
          omega
        | some y => rw [h2] at h; cases h
      | some y => rw [h1] at h; cases h
theorem c_fits (hL : jLay t u l m b c h) (hQ : jQC I t l τ ω r) (hC : jCB I b β) (hB : jBOK τ β) (w : Bool) : ∃ J, F_SG_fits 64 (nB w) (jz_I h I) = some (jo_i (s_fits τ r β w, jz_I h J)) ∧ jCS J 85 τ false r ∧ jSc l 85 I J := by
  have ht := jLay_t hL
  have hb := jLay_b hL
  have ho := hQ.1.2.1
  have o0 : τ 0 0 ≤ 9 := ho.1
  obtain ⟨p1, p2⟩ := s_2w ho
  refine jE_o (fun P hP => ?_)
  have key : jW (F_SG_fits_b15 64 (nB w) 64 (nI 1) (jz_I h I)) P := by
    unfold F_SG_fits_b15
    simp (disch := omega) only [c_need1, kq_th, ↓dK_64 hL, ↓dG_64 hL, ↓dP_64 hL, ↓reduceIte, ↓kq_bi, ↓kq_let, ↓kq_rz0, ↓kq_rz1, ↓kq_rzB, ↓Option.bind_some, kq_dvn, kt_lt, kf_lt, kt_eq, kf_eq, decide_true, decide_false, eq_self, Bool.false_eq_true, Bool.true_eq_false, not_true_eq_false, not_false_eq_true, jU_eq, jU_ne, jU_U, jV_eq, jV_ne, jV_V, kn_lit, kn_add, kn_mul, kn_sdm, kn_sub, kn_div, kn_nsdm, kn_lt, kn_eq, kn_pred, kn_m1, kn_m1', kn_a31, kn_shl, kn_shr, kn_bit, nB_0, nB_1, nB_t, nB_f, Nat.zero_add, Nat.add_zero, Nat.reduceAdd, Nat.reduceMul, Nat.reduceSub, Nat.reducePow]
    refine jW_for0 (f := fun fuel g (J : Nat → Nat → Int32) => F_SG_fits_l22 fuel 64 (nB w) (nI (s_sum (s_bt τ r β) g)) (nI g) (jz_I h J)) (τ 0 0) (fun g J => (jCS J 85 τ false r ∧ jSc l 85 I J) ∧ (w = true → s_ffo τ r β g = none)) I ⟨⟨hQ.2.1, jSc_refl⟩, fun _ => rfl⟩ (by omega) (fun n g J hg hV ih => ?_) (fun n J hV => ?_)
    · obtain ⟨⟨v1, v2⟩, v3⟩ := hV
      have hQ' := jQC_85 hL v2 v1 hQ
      have hs := s_bts_le (r := r) (β := β) ho (show g ≤ 9 by omega)
      have hbt := s_bt_le (r := r) (β := β) (x := g) ho
      show jW (F_SG_fits_c22 (F_SG_fits_l22 n) 64 (nB w) (nI (s_sum (s_bt τ r β) g)) (nI g) (jz_I h J)) P
      unfold F_SG_fits_c22
      simp (disch := omega) only [↓dR_85_1 hL, ↓dR_64_12 hL, cT_f0 hQ'.1.1, ↓dK_64 hL, ↓dG_64 hL, ↓dP_64 hL, ↓dR_64_2 hL, ↓dK_85 hL, ↓dG_85 hL, ↓dP_85 hL, ↓dZ_85 hL (x := nI 0) (Or.inl rfl), ↓dZ_85 hL (x := nI 1) (Or.inr rfl), ↓dZ_85 hL (Or.inl rfl), ↓dZ_85 hL (Or.inr rfl), ↓dZ_85 hL (nB_01 _), ↓dK_T hL ht, ↓dG_T hL ht, ↓dP_T hL ht, ↓dK_B hL hb, ↓dG_B hL hb, ↓dP_B hL hb, ↓reduceIte, ↓kq_bi, ↓kq_let, ↓kq_rz0, ↓kq_rz1, ↓kq_rzB, ↓Option.bind_some, kq_dvn, kt_lt, kf_lt, kt_eq, kf_eq, decide_true, decide_false, eq_self, Bool.false_eq_true, Bool.true_eq_false, not_true_eq_false, not_false_eq_true, jU_eq, jU_ne, jU_U, jV_eq, jV_ne, jV_V, kn_lit, kn_add, kn_mul, kn_sdm, kn_sub, kn_div, kn_nsdm, kn_lt, kn_eq, kn_pred, kn_m1, kn_m1', kn_a31, kn_shl, kn_shr, kn_bit, nB_0, nB_1, nB_t, nB_f, Nat.zero_add, Nat.add_zero, Nat.reduceAdd, Nat.reduceMul, Nat.reduceSub, Nat.reducePow]
      refine jW_bi (c_firstFit hL hQ' (jCB_Sc hL v2 hC) hB hg) (fun J2 hJ2 => ?_)
      have v22 := jSc_trans v2 hJ2.2
      have hQ2 := jQC_85 hL v22 hJ2.1 hQ
      have go : (w = true → s_ff τ r β g = none) → jW (F_SG_fits_b69 (F_SG_fits_l22 n) 64 (nB w) (nI (s_sum (s_bt τ r β) g)) (nI g) (jz_I h J2)) P := fun hw => by
        unfold F_SG_fits_b69
        simp (disch := omega) only [↓dR_64_12 hL, ↓dK_64 hL, ↓dG_64 hL, ↓dP_64 hL, ↓dR_64_2 hL, ↓dK_85 hL, ↓dG_85 hL, ↓dP_85 hL, ↓dZ_85 hL (x := nI 0) (Or.inl rfl), ↓dZ_85 hL (x := nI 1) (Or.inr rfl), ↓dZ_85 hL (Or.inl rfl), ↓dZ_85 hL (Or.inr rfl), ↓dZ_85 hL (nB_01 _), ↓dK_B hL hb, ↓dG_B hL hb, ↓dP_B hL hb, ↓reduceIte, ↓kq_bi, ↓kq_let, ↓kq_rz0, ↓kq_rz1, ↓kq_rzB, ↓Option.bind_some, kq_dvn, kt_lt, kf_lt, kt_eq, kf_eq, decide_true, decide_false, eq_self, Bool.false_eq_true, Bool.true_eq_false, not_true_eq_false, not_false_eq_true, jU_eq, jU_ne, jU_U, jV_eq, jV_ne, jV_V, kn_lit, kn_add, kn_mul, kn_sdm, kn_sub, kn_div, kn_nsdm, kn_lt, kn_eq, kn_pred, kn_m1, kn_m1', kn_a31, kn_shl, kn_shr, kn_bit, nB_0, nB_1, nB_t, nB_f, Nat.zero_add, Nat.add_zero, Nat.reduceAdd, Nat.reduceMul, Nat.reduceSub, Nat.reducePow]
        refine jW_bi (c_fitsOf hL hQ2 (jCB_Sc hL v22 hC) hB hg) (fun J3 hJ3 => ?_)
        simp (disch := omega) only [↓reduceIte, ↓kq_bi, ↓kq_let, ↓kq_rz0, ↓kq_rz1, ↓kq_rzB, ↓Option.bind_some, kq_dvn, kt_lt, kf_lt, kt_eq, kf_eq, decide_true, decide_false, eq_self, Bool.false_eq_true, Bool.true_eq_false, not_true_eq_false, not_false_eq_true, jU_eq, jU_ne, jU_U, jV_eq, jV_ne, jV_V, kn_lit, kn_add, kn_mul, kn_sdm, kn_sub, kn_div, kn_nsdm, kn_lt, kn_eq, kn_pred, kn_m1, kn_m1', kn_a31, kn_shl, kn_shr, kn_bit, nB_0, nB_1, nB_t, nB_f, Nat.zero_add, Nat.add_zero, Nat.reduceAdd, Nat.reduceMul, Nat.reduceSub, Nat.reducePow]
        refine ih J3 ⟨⟨hJ3.1, jSc_trans v22 hJ3.2⟩, fun hw1 => ?_⟩
        show (s_ffo τ r β g).or _ = none
        rw [v3 hw1, hw hw1]; rfl
      cases w
      · simp (disch := omega) only [↓reduceIte, ↓kq_bi, ↓kq_let, ↓kq_rz0, ↓kq_rz1, ↓kq_rzB, ↓Option.bind_some, kq_dvn, kt_lt, kf_lt, kt_eq, kf_eq, decide_true, decide_false, eq_self, Bool.false_eq_true, Bool.true_eq_false, not_true_eq_false, not_false_eq_true, jU_eq, jU_ne, jU_U, jV_eq, jV_ne, jV_V, kn_lit, kn_add, kn_mul, kn_sdm, kn_sub, kn_div, kn_nsdm, kn_lt, kn_eq, kn_pred, kn_m1, kn_m1', kn_a31, kn_shl, kn_shr, kn_bit, nB_0, nB_1, nB_t, nB_f, Nat.zero_add, Nat.add_zero, Nat.reduceAdd, Nat.reduceMul, Nat.reduceSub, Nat.reducePow]
        exact go (fun z => by cases z)
      · cases hf : s_ff τ r β g with
        | none =>
          simp only [Option.map_none, nO, Option.elim_none]
          simp (disch := omega) only [↓reduceIte, ↓kq_bi, ↓kq_let, ↓kq_rz0, ↓kq_rz1, ↓kq_rzB, ↓Option.bind_some, kq_dvn, kt_lt, kf_lt, kt_eq, kf_eq, decide_true, decide_false, eq_self, Bool.false_eq_true, Bool.true_eq_false, not_true_eq_false, not_false_eq_true, jU_eq, jU_ne, jU_U, jV_eq, jV_ne, jV_V, kn_lit, kn_add, kn_mul, kn_sdm, kn_sub, kn_div, kn_nsdm, kn_lt, kn_eq, kn_pred, kn_m1, kn_m1', kn_a31, kn_shl, kn_shr, kn_bit, nB_0, nB_1, nB_t, nB_f, Nat.zero_add, Nat.add_zero, Nat.reduceAdd, Nat.reduceMul, Nat.reduceSub, Nat.reducePow]
          exact go (fun _ => hf)
        | some j =>
          have hj := (s_fst_lt hf).1
          have e : s_ffo τ r β (τ 0 0) = some (64 * g + (1 + j)) := by
            have hg1 : s_ffo τ r β (g + 1) = some (64 * g + (1 + j)) := by
              show (s_ffo τ r β g).or _ = _
              rw [v3 rfl, hf]; rfl
            have key : ∀ n, g + 1 ≤ n → s_ffo τ r β n = some (64 * g + (1 + j)) := by
              intro n hn
              induction n with
              | zero => omega
              | succ n ihn =>
                by_cases he : g = n
                · subst he; exact hg1
                · show (s_ffo τ r β n).or _ = _
                  rw [ihn (by omega)]; rfl
            exact key _ hg
          have fin := hP J2 ⟨hJ2.1, v22⟩
          unfold s_fits at fin
          rw [if_pos (show true = true from rfl), e] at fin
          simp only [Option.map_some, nO, Option.elim_some] at fin ⊢
          simp (disch := omega) only [↓reduceIte, ↓kq_bi, ↓kq_let, ↓kq_rz0, ↓kq_rz1, ↓kq_rzB, ↓Option.bind_some, kq_dvn, kt_lt, kf_lt, kt_eq, kf_eq, decide_true, decide_false, eq_self, Bool.false_eq_true, Bool.true_eq_false, not_true_eq_false, not_false_eq_true, jU_eq, jU_ne, jU_U, jV_eq, jV_ne, jV_V, kn_lit, kn_add, kn_mul, kn_sdm, kn_sub, kn_div, kn_nsdm, kn_lt, kn_eq, kn_pred, kn_m1, kn_m1', kn_a31, kn_shl, kn_shr, kn_bit, nB_0, nB_1, nB_t, nB_f, Nat.zero_add, Nat.add_zero, Nat.reduceAdd, Nat.reduceMul, Nat.reduceSub, Nat.reducePow]
          exact jW_s fin
    · obtain ⟨⟨v1, v2⟩, v3⟩ := hV
      have hQ' := jQC_85 hL v2 v1 hQ
      have fin := hP J ⟨v1, v2⟩
      unfold s_fits at fin
      show jW (F_SG_fits_c22 (F_SG_fits_l22 n) 64 (nB w) (nI (s_sum (s_bt τ r β) (τ 0 0))) (nI (τ 0 0)) (jz_I h J)) P
      unfold F_SG_fits_c22
      generalize s_sum (s_bt τ r β) (τ 0 0) = y at fin ⊢
      cases w
      · rw [if_neg (show ¬ false = true by decide)] at fin
        simp (disch := omega) only [↓dR_85_1 hL, cT_f0 hQ'.1.1, F_SG_fits_b99, ↓dK_64 hL, ↓dG_64 hL, ↓dP_64 hL, ↓dR_64_2 hL, ↓dK_85 hL, ↓dG_85 hL, ↓dP_85 hL, ↓dZ_85 hL (x := nI 0) (Or.inl rfl), ↓dZ_85 hL (x := nI 1) (Or.inr rfl), ↓dZ_85 hL (Or.inl rfl), ↓dZ_85 hL (Or.inr rfl), ↓dZ_85 hL (nB_01 _), ↓dK_T hL ht, ↓dG_T hL ht, ↓dP_T hL ht, ↓reduceIte, ↓kq_bi, ↓kq_let, ↓kq_rz0, ↓kq_rz1, ↓kq_rzB, ↓Option.bind_some, kq_dvn, kt_lt, kf_lt, kt_eq, kf_eq, decide_true, decide_false, eq_self, Bool.false_eq_true, Bool.true_eq_false, not_true_eq_false, not_false_eq_true, jU_eq, jU_ne, jU_U, jV_eq, jV_ne, jV_V, kn_lit, kn_add, kn_mul, kn_sdm, kn_sub, kn_div, kn_nsdm, kn_lt, kn_eq, kn_pred, kn_m1, kn_m1', kn_a31, kn_shl, kn_shr, kn_bit, nB_0, nB_1, nB_t, nB_f, Nat.zero_add, Nat.add_zero, Nat.reduceAdd, Nat.reduceMul, Nat.reduceSub, Nat.reducePow]
        exact jW_s fin
      · rw [if_pos (show true = true from rfl), v3 rfl] at fin
        simp (disch := omega) only [↓dR_85_1 hL, cT_f0 hQ'.1.1, F_SG_fits_b99, ↓dK_64 hL, ↓dG_64 hL, ↓dP_64 hL, ↓dR_64_2 hL, ↓dK_85 hL, ↓dG_85 hL, ↓dP_85 hL, ↓dZ_85 hL (x := nI 0) (Or.inl rfl), ↓dZ_85 hL (x := nI 1) (Or.inr rfl), ↓dZ_85 hL (Or.inl rfl), ↓dZ_85 hL (Or.inr rfl), ↓dZ_85 hL (nB_01 _), ↓dK_T hL ht, ↓dG_T hL ht, ↓dP_T hL ht, ↓reduceIte, ↓kq_bi, ↓kq_let, ↓kq_rz0, ↓kq_rz1, ↓kq_rzB, ↓Option.bind_some, kq_dvn, kt_lt, kf_lt, kt_eq, kf_eq, decide_true, decide_false, eq_self, Bool.false_eq_true, Bool.true_eq_false, not_true_eq_false, not_false_eq_true, jU_eq, jU_ne, jU_U, jV_eq, jV_ne, jV_V, kn_lit, kn_add, kn_mul, kn_sdm, kn_sub, kn_div, kn_nsdm, kn_lt, kn_eq, kn_pred, kn_m1, kn_m1', kn_a31, kn_shl, kn_shr, kn_bit, nB_0, nB_1, nB_t, nB_f, Nat.zero_add, Nat.add_zero, Nat.reduceAdd, Nat.reduceMul, Nat.reduceSub, Nat.reducePow]
        exact jW_s fin
  unfold F_SG_fits
  cases w
  · simp (disch := omega) only [show nB false = nI 0 from rfl, F_SG_fits_b10, ↓reduceIte, ↓kq_bi, ↓kq_let, ↓kq_rz0, ↓kq_rz1, ↓kq_rzB, ↓Option.bind_some, kq_dvn, kt_lt, kf_lt, kt_eq, kf_eq, decide_true, decide_false, eq_self, Bool.false_eq_true, Bool.true_eq_false, not_true_eq_false, not_false_eq_true, jU_eq, jU_ne, jU_U, jV_eq, jV_ne, jV_V, kn_lit, kn_add, kn_mul, kn_sdm, kn_sub, kn_div, kn_nsdm, kn_lt, kn_eq, kn_pred, kn_m1, kn_m1', kn_a31, kn_shl, kn_shr, kn_bit, nB_0, nB_1, nB_t, nB_f, Nat.zero_add, Nat.add_zero, Nat.reduceAdd, Nat.reduceMul, Nat.reduceSub, Nat.reducePow]
    exact key
  · simp (disch := omega) only [show nB true = nI 1 from rfl, F_SG_fits_b10, ↓reduceIte, ↓kq_bi, ↓kq_let, ↓kq_rz0, ↓kq_rz1, ↓kq_rzB, ↓Option.bind_some, kq_dvn, kt_lt, kf_lt, kt_eq, kf_eq, decide_true, decide_false, eq_self, Bool.false_eq_true, Bool.true_eq_false, not_true_eq_false, not_false_eq_true, jU_eq, jU_ne, jU_U, jV_eq, jV_ne, jV_V, kn_lit, kn_add, kn_mul, kn_sdm, kn_sub, kn_div, kn_nsdm, kn_lt, kn_eq, kn_pred, kn_m1, kn_m1', kn_a31, kn_shl, kn_shr, kn_bit, nB_0, nB_1, nB_t, nB_f, Nat.zero_add, Nat.add_zero, Nat.reduceAdd, Nat.reduceMul, Nat.reduceSub, Nat.reducePow]
    exact key
theorem m_fits (hL : jLay t u l m b c h) (hQ : jQM I τ ω r) (hM : jMB I β) (hB : jBOK τ β) (w : Bool) : ∃ J, F_Mod_fits 205 (nB w) (jz_I h I) = some (s_fits τ r β w, jz_I h J) ∧ jN I J := by
  have N0 := jN_0 hQ
  have hQ0 := jN_QM N0 hQ
  have hM0 := jMB_N N0 hB hM
  have ho := hQ.1.2.1
  have o0 : τ 0 0 ≤ 9 := ho.1
  have o1 : τ 0 1 ≤ 6 := ho.2.1
  obtain ⟨p1, p2⟩ := s_2w ho
  refine ⟨_, ?_, N0⟩
  have key : F_Mod_fits_b20 205 (nB w) 205 (nI 0) (jz_I h (jU I 205 (jV (I 205) 0 (nI 0)))) = some (s_fits τ r β w, jz_I h (jU I 205 (jV (I 205) 0 (nI 0)))) := by
    unfold F_Mod_fits_b20
    simp (disch := omega) only [m_bad0 hL N0.2.2.2, ↓dK_205 hL, ↓dG_205 hL, ↓dP_205 hL, ↓dZ_205 hL (x := nI 0) (Or.inl rfl), ↓dZ_205 hL (x := nI 1) (Or.inr rfl), ↓dZ_205 hL (Or.inl rfl), ↓dZ_205 hL (Or.inr rfl), ↓dZ_205 hL (nB_01 _), ↓reduceIte, ↓kq_bi, ↓kq_let, ↓kq_rz0, ↓kq_rz1, ↓kq_rzB, ↓Option.bind_some, kq_dvn, kt_lt, kf_lt, kt_eq, kf_eq, decide_true, decide_false, eq_self, Bool.false_eq_true, Bool.true_eq_false, not_true_eq_false, not_false_eq_true, jU_eq, jU_ne, jU_U, jV_eq, jV_ne, jV_V, kn_lit, kn_add, kn_mul, kn_sdm, kn_sub, kn_div, kn_nsdm, kn_lt, kn_eq, kn_pred, kn_m1, kn_m1', kn_a31, kn_shl, kn_shr, kn_bit, nB_0, nB_1, nB_t, nB_f, Nat.zero_add, Nat.add_zero, Nat.reduceAdd, Nat.reduceMul, Nat.reduceSub, Nat.reducePow]
    generalize jU I 205 (jV (I 205) 0 (nI 0)) = I' at N0 hQ0 hM0
    refine jz_forI (fun fuel g (s : Nat × Option Nat) => F_Mod_fits_l37 fuel 205 (nB w) (nI s.1) (nO s.2) (nI g) (jz_I h I')) (τ 0 0) (fun g => (s_sum (s_bt τ r β) g, s_ffo τ r β g)) _ (s0 := (0, none)) rfl (fun n g hg => ?_) (fun n => ?_) jF (by show _ < 1000; omega)
    · have hs := s_bts_le (r := r) (β := β) ho (show g ≤ 9 by omega)
      simp (disch := omega) only [F_Mod_fits_l37, F_Mod_fits_c37, hQ0.1.1.1, ↓dK_205 hL, ↓dG_205 hL, ↓dP_205 hL, ↓dZ_205 hL (x := nI 0) (Or.inl rfl), ↓dZ_205 hL (x := nI 1) (Or.inr rfl), ↓dZ_205 hL (Or.inl rfl), ↓dZ_205 hL (Or.inr rfl), ↓dZ_205 hL (nB_01 _), ↓dR_205_12 hL, dI_209 hL, dS_209 hL, ↓reduceIte, ↓kq_bi, ↓kq_let, ↓kq_rz0, ↓kq_rz1, ↓kq_rzB, ↓Option.bind_some, kq_dvn, kt_lt, kf_lt, kt_eq, kf_eq, decide_true, decide_false, eq_self, Bool.false_eq_true, Bool.true_eq_false, not_true_eq_false, not_false_eq_true, jU_eq, jU_ne, jU_U, jV_eq, jV_ne, jV_V, kn_lit, kn_add, kn_mul, kn_sdm, kn_sub, kn_div, kn_nsdm, kn_lt, kn_eq, kn_pred, kn_m1, kn_m1', kn_a31, kn_shl, kn_shr, kn_bit, nB_0, nB_1, nB_t, nB_f, Nat.zero_add, Nat.add_zero, Nat.reduceAdd, Nat.reduceMul, Nat.reduceSub, Nat.reducePow]
      refine jz_forI (fun fuel j (s : Nat × Option Nat) => F_Mod_fits_l51 (F_Mod_fits_l37 n) fuel 205 (nB w) (nI s.1) (nO s.2) (nI g) (nI (1 + j)) (jz_I h I')) (2 ^ τ 0 1 - 1) (fun j => (s_sum (s_bt τ r β) g + s_cnt (s_ft τ r β g) j, (s_ffo τ r β g).or ((s_fst (s_ft τ r β g) j).map (fun j => 64 * g + (1 + j))))) _ (s0 := (s_sum (s_bt τ r β) g, s_ffo τ r β g)) (by show _ = (_, (s_ffo τ r β g).or none); cases s_ffo τ r β g <;> rfl) (fun n2 j hj => ?_) (fun n2 => ?_) jF (by show _ < 1000; omega)
      · have hcl := s_cnt_le (s_ft τ r β g) j
        have e0 : (s_sum (s_bt τ r β) g + s_cnt (s_ft τ r β g) j = 0) = ((s_ffo τ r β g).or ((s_fst (s_ft τ r β g) j).map (fun j => 64 * g + (1 + j))) = none) := by
          have a1 := s_ffo_none (τ := τ) (r := r) (β := β) g
          have a2 := s_cnt_fst (p := s_ft τ r β g) j
          refine propext ⟨fun z => ?_, fun z => ?_⟩
          · rw [a1.mp (by omega), a2.mp (by omega)]; rfl
          · cases h1 : s_ffo τ r β g with
            | none =>
              rw [h1] at z
              cases h2 : s_fst (s_ft τ r β g) j with
              | none => have := a1.mpr h1; have := a2.mpr h2; omega
              | some y => rw [h2] at z; cases z
            | some y => rw [h1] at z; cases z
        show F_Mod_fits_c51 (F_Mod_fits_l37 n) (F_Mod_fits_l51 (F_Mod_fits_l37 n) n2) 205 (nB w) (nI (s_sum (s_bt τ r β) g + s_cnt (s_ft τ r β g) j)) (nO ((s_ffo τ r β g).or ((s_fst (s_ft τ r β g) j).map (fun j => 64 * g + (1 + j))))) (nI g) (nI (1 + j)) (jz_I h I') = F_Mod_fits_l51 (F_Mod_fits_l37 n) n2 205 (nB w) (nI (s_sum (s_bt τ r β) g + (s_cnt (s_ft τ r β g) j + (if s_ft τ r β g j = true then 1 else 0)))) (nO ((s_ffo τ r β g).or (((s_fst (s_ft τ r β g) j).or (if s_ft τ r β g j = true then some j else none)).map (fun j => 64 * g + (1 + j))))) (nI g) (nI (1 + j + 1)) (jz_I h I')
        unfold F_Mod_fits_c51
        have ef : s_fit β (s_st τ r g) (s_scs τ (1 + j)) = s_ft τ r β g j := rfl
        cases hf : s_ft τ r β g j
        · rw [hf] at ef
          have eo : (s_fst (s_ft τ r β g) j).or (if false = true then some j else none) = s_fst (s_ft τ r β g) j := by cases s_fst (s_ft τ r β g) j <;> rfl
          rw [eo]
          simp (disch := omega) only [hQ0.1.1.1, Nat.one_mul, m_isFit hL hQ0.1.1 ho hQ0.2.1 hQ.2.2.1 hM0 hB hg (show 1 + j < 64 by omega), ef, F_Mod_fits_b98, ↓dK_205 hL, ↓dG_205 hL, ↓dP_205 hL, ↓dZ_205 hL (x := nI 0) (Or.inl rfl), ↓dZ_205 hL (x := nI 1) (Or.inr rfl), ↓dZ_205 hL (Or.inl rfl), ↓dZ_205 hL (Or.inr rfl), ↓dZ_205 hL (nB_01 _), ↓dR_205_12 hL, dI_209 hL, dS_209 hL, ↓reduceIte, ↓kq_bi, ↓kq_let, ↓kq_rz0, ↓kq_rz1, ↓kq_rzB, ↓Option.bind_some, kq_dvn, kt_lt, kf_lt, kt_eq, kf_eq, decide_true, decide_false, eq_self, Bool.false_eq_true, Bool.true_eq_false, not_true_eq_false, not_false_eq_true, jU_eq, jU_ne, jU_U, jV_eq, jV_ne, jV_V, kn_lit, kn_add, kn_mul, kn_sdm, kn_sub, kn_div, kn_nsdm, kn_lt, kn_eq, kn_pred, kn_m1, kn_m1', kn_a31, kn_shl, kn_shr, kn_bit, nB_0, nB_1, nB_t, nB_f, Nat.zero_add, Nat.add_zero, Nat.reduceAdd, Nat.reduceMul, Nat.reduceSub, Nat.reducePow]
        · rw [hf] at ef
          by_cases h0 : s_sum (s_bt τ r β) g + s_cnt (s_ft τ r β g) j = 0
          · have hz := e0.mp h0
            have h1 : s_ffo τ r β g = none := by cases hh : s_ffo τ r β g with | none => rfl | some y => rw [hh] at hz; cases hz
            have h2 : s_fst (s_ft τ r β g) j = none := by cases hh : s_fst (s_ft τ r β g) j with | none => rfl | some y => rw [h1, hh] at hz; cases hz
            have ea : s_sum (s_bt τ r β) g = 0 := by omega
            have eb : s_cnt (s_ft τ r β g) j = 0 := by omega
            rw [h1, h2, ea, eb]
            simp only [Option.map_none, Option.or_none, Option.none_or, nO, Option.elim_none, Option.map_some, Option.elim_some, if_true]
            simp (disch := omega) only [hQ0.1.1.1, Nat.one_mul, m_isFit hL hQ0.1.1 ho hQ0.2.1 hQ.2.2.1 hM0 hB hg (show 1 + j < 64 by omega), ef, F_Mod_fits_b98, F_Mod_fits_b94, ↓dK_205 hL, ↓dG_205 hL, ↓dP_205 hL, ↓dZ_205 hL (x := nI 0) (Or.inl rfl), ↓dZ_205 hL (x := nI 1) (Or.inr rfl), ↓dZ_205 hL (Or.inl rfl), ↓dZ_205 hL (Or.inr rfl), ↓dZ_205 hL (nB_01 _), ↓dR_205_12 hL, dI_209 hL, dS_209 hL, ↓reduceIte, ↓kq_bi, ↓kq_let, ↓kq_rz0, ↓kq_rz1, ↓kq_rzB, ↓Option.bind_some, kq_dvn, kt_lt, kf_lt, kt_eq, kf_eq, decide_true, decide_false, eq_self, Bool.false_eq_true, Bool.true_eq_false, not_true_eq_false, not_false_eq_true, jU_eq, jU_ne, jU_U, jV_eq, jV_ne, jV_V, kn_lit, kn_add, kn_mul, kn_sdm, kn_sub, kn_div, kn_nsdm, kn_lt, kn_eq, kn_pred, kn_m1, kn_m1', kn_a31, kn_shl, kn_shr, kn_bit, nB_0, nB_1, nB_t, nB_f, Nat.zero_add, Nat.add_zero, Nat.reduceAdd, Nat.reduceMul, Nat.reduceSub, Nat.reducePow]
          · have eo : (s_ffo τ r β g).or (((s_fst (s_ft τ r β g) j).or (if true = true then some j else none)).map (fun j => 64 * g + (1 + j))) = (s_ffo τ r β g).or ((s_fst (s_ft τ r β g) j).map (fun j => 64 * g + (1 + j))) := by
              cases h1 : s_ffo τ r β g with
              | some y => rfl
              | none =>
                cases h2 : s_fst (s_ft τ r β g) j with
                | some y => rfl
                | none => exact absurd (e0.mpr (by rw [h1, h2]; rfl)) h0
            rw [eo]
            simp (disch := omega) only [hQ0.1.1.1, Nat.one_mul, m_isFit hL hQ0.1.1 ho hQ0.2.1 hQ.2.2.1 hM0 hB hg (show 1 + j < 64 by omega), ef, F_Mod_fits_b98, F_Mod_fits_b94, Nat.add_assoc, ↓dK_205 hL, ↓dG_205 hL, ↓dP_205 hL, ↓dZ_205 hL (x := nI 0) (Or.inl rfl), ↓dZ_205 hL (x := nI 1) (Or.inr rfl), ↓dZ_205 hL (Or.inl rfl), ↓dZ_205 hL (Or.inr rfl), ↓dZ_205 hL (nB_01 _), ↓dR_205_12 hL, dI_209 hL, dS_209 hL, ↓reduceIte, ↓kq_bi, ↓kq_let, ↓kq_rz0, ↓kq_rz1, ↓kq_rzB, ↓Option.bind_some, kq_dvn, kt_lt, kf_lt, kt_eq, kf_eq, decide_true, decide_false, eq_self, Bool.false_eq_true, Bool.true_eq_false, not_true_eq_false, not_false_eq_true, jU_eq, jU_ne, jU_U, jV_eq, jV_ne, jV_V, kn_lit, kn_add, kn_mul, kn_sdm, kn_sub, kn_div, kn_nsdm, kn_lt, kn_eq, kn_pred, kn_m1, kn_m1', kn_a31, kn_shl, kn_shr, kn_bit, nB_0, nB_1, nB_t, nB_f, Nat.zero_add, Nat.add_zero, Nat.reduceAdd, Nat.reduceMul, Nat.reduceSub, Nat.reducePow]
      · show F_Mod_fits_c51 (F_Mod_fits_l37 n) (F_Mod_fits_l51 (F_Mod_fits_l37 n) n2) 205 (nB w) (nI (s_sum (s_bt τ r β) g + s_cnt (s_ft τ r β g) (2 ^ τ 0 1 - 1))) (nO ((s_ffo τ r β g).or ((s_fst (s_ft τ r β g) (2 ^ τ 0 1 - 1)).map (fun j => 64 * g + (1 + j))))) (nI g) (nI (1 + (2 ^ τ 0 1 - 1))) (jz_I h I') = F_Mod_fits_l37 n 205 (nB w) (nI (s_sum (s_bt τ r β) g + s_cnt (s_ft τ r β g) (2 ^ τ 0 1 - 1))) (nO ((s_ffo τ r β g).or ((s_fst (s_ft τ r β g) (2 ^ τ 0 1 - 1)).map (fun j => 64 * g + (1 + j))))) (nI (g + 1)) (jz_I h I')
        unfold F_Mod_fits_c51
        simp (disch := omega) only [hQ0.1.1.1, Nat.one_mul, ↓dK_205 hL, ↓dG_205 hL, ↓dP_205 hL, ↓dZ_205 hL (x := nI 0) (Or.inl rfl), ↓dZ_205 hL (x := nI 1) (Or.inr rfl), ↓dZ_205 hL (Or.inl rfl), ↓dZ_205 hL (Or.inr rfl), ↓dZ_205 hL (nB_01 _), ↓dR_205_12 hL, dI_209 hL, dS_209 hL, ↓reduceIte, ↓kq_bi, ↓kq_let, ↓kq_rz0, ↓kq_rz1, ↓kq_rzB, ↓Option.bind_some, kq_dvn, kt_lt, kf_lt, kt_eq, kf_eq, decide_true, decide_false, eq_self, Bool.false_eq_true, Bool.true_eq_false, not_true_eq_false, not_false_eq_true, jU_eq, jU_ne, jU_U, jV_eq, jV_ne, jV_V, kn_lit, kn_add, kn_mul, kn_sdm, kn_sub, kn_div, kn_nsdm, kn_lt, kn_eq, kn_pred, kn_m1, kn_m1', kn_a31, kn_shl, kn_shr, kn_bit, nB_0, nB_1, nB_t, nB_f, Nat.zero_add, Nat.add_zero, Nat.reduceAdd, Nat.reduceMul, Nat.reduceSub, Nat.reducePow]
    · show F_Mod_fits_c37 (F_Mod_fits_l37 n) 205 (nB w) (nI (s_sum (s_bt τ r β) (τ 0 0))) (nO (s_ffo τ r β (τ 0 0))) (nI (τ 0 0)) (jz_I h I') = _
      unfold F_Mod_fits_c37 s_fits
      generalize s_sum (s_bt τ r β) (τ 0 0) = y
      generalize s_ffo τ r β (τ 0 0) = z
      cases w
      · rw [if_neg (show ¬ false = true by decide)]
        simp (disch := omega) only [hQ0.1.1.1, F_Mod_fits_b119, ↓dK_205 hL, ↓dG_205 hL, ↓dP_205 hL, ↓dZ_205 hL (x := nI 0) (Or.inl rfl), ↓dZ_205 hL (x := nI 1) (Or.inr rfl), ↓dZ_205 hL (Or.inl rfl), ↓dZ_205 hL (Or.inr rfl), ↓dZ_205 hL (nB_01 _), ↓dR_205_12 hL, dI_209 hL, dS_209 hL, ↓reduceIte, ↓kq_bi, ↓kq_let, ↓kq_rz0, ↓kq_rz1, ↓kq_rzB, ↓Option.bind_some, kq_dvn, kt_lt, kf_lt, kt_eq, kf_eq, decide_true, decide_false, eq_self, Bool.false_eq_true, Bool.true_eq_false, not_true_eq_false, not_false_eq_true, jU_eq, jU_ne, jU_U, jV_eq, jV_ne, jV_V, kn_lit, kn_add, kn_mul, kn_sdm, kn_sub, kn_div, kn_nsdm, kn_lt, kn_eq, kn_pred, kn_m1, kn_m1', kn_a31, kn_shl, kn_shr, kn_bit, nB_0, nB_1, nB_t, nB_f, Nat.zero_add, Nat.add_zero, Nat.reduceAdd, Nat.reduceMul, Nat.reduceSub, Nat.reducePow]
      · rw [if_pos (show true = true from rfl)]
        simp (disch := omega) only [hQ0.1.1.1, F_Mod_fits_b119, ↓dK_205 hL, ↓dG_205 hL, ↓dP_205 hL, ↓dZ_205 hL (x := nI 0) (Or.inl rfl), ↓dZ_205 hL (x := nI 1) (Or.inr rfl), ↓dZ_205 hL (Or.inl rfl), ↓dZ_205 hL (Or.inr rfl), ↓dZ_205 hL (nB_01 _), ↓dR_205_12 hL, dI_209 hL, dS_209 hL, ↓reduceIte, ↓kq_bi, ↓kq_let, ↓kq_rz0, ↓kq_rz1, ↓kq_rzB, ↓Option.bind_some, kq_dvn, kt_lt, kf_lt, kt_eq, kf_eq, decide_true, decide_false, eq_self, Bool.false_eq_true, Bool.true_eq_false, not_true_eq_false, not_false_eq_true, jU_eq, jU_ne, jU_U, jV_eq, jV_ne, jV_V, kn_lit, kn_add, kn_mul, kn_sdm, kn_sub, kn_div, kn_nsdm, kn_lt, kn_eq, kn_pred, kn_m1, kn_m1', kn_a31, kn_shl, kn_shr, kn_bit, nB_0, nB_1, nB_t, nB_f, Nat.zero_add, Nat.add_zero, Nat.reduceAdd, Nat.reduceMul, Nat.reduceSub, Nat.reducePow]
  unfold F_Mod_fits
  cases w
  · simp (disch := omega) only [m_in1, show nB false = nI 0 from rfl, ↓dK_205 hL, ↓dG_205 hL, ↓dP_205 hL, ↓dZ_205 hL (x := nI 0) (Or.inl rfl), ↓dZ_205 hL (x := nI 1) (Or.inr rfl), ↓dZ_205 hL (Or.inl rfl), ↓dZ_205 hL (Or.inr rfl), ↓dZ_205 hL (nB_01 _), ↓reduceIte, ↓kq_bi, ↓kq_let, ↓kq_rz0, ↓kq_rz1, ↓kq_rzB, ↓Option.bind_some, kq_dvn, kt_lt, kf_lt, kt_eq, kf_eq, decide_true, decide_false, eq_self, Bool.false_eq_true, Bool.true_eq_false, not_true_eq_false, not_false_eq_true, jU_eq, jU_ne, jU_U, jV_eq, jV_ne, jV_V, kn_lit, kn_add, kn_mul, kn_sdm, kn_sub, kn_div, kn_nsdm, kn_lt, kn_eq, kn_pred, kn_m1, kn_m1', kn_a31, kn_shl, kn_shr, kn_bit, nB_0, nB_1, nB_t, nB_f, Nat.zero_add, Nat.add_zero, Nat.reduceAdd, Nat.reduceMul, Nat.reduceSub, Nat.reducePow]
    exact key
  · simp (disch := omega) only [m_in1, show nB true = nI 1 from rfl, ↓dK_205 hL, ↓dG_205 hL, ↓dP_205 hL, ↓dZ_205 hL (x := nI 0) (Or.inl rfl), ↓dZ_205 hL (x := nI 1) (Or.inr rfl), ↓dZ_205 hL (Or.inl rfl), ↓dZ_205 hL (Or.inr rfl), ↓dZ_205 hL (nB_01 _), ↓reduceIte, ↓kq_bi, ↓kq_let, ↓kq_rz0, ↓kq_rz1, ↓kq_rzB, ↓Option.bind_some, kq_dvn, kt_lt, kf_lt, kt_eq, kf_eq, decide_true, decide_false, eq_self, Bool.false_eq_true, Bool.true_eq_false, not_true_eq_false, not_false_eq_true, jU_eq, jU_ne, jU_U, jV_eq, jV_ne, jV_V, kn_lit, kn_add, kn_mul, kn_sdm, kn_sub, kn_div, kn_nsdm, kn_lt, kn_eq, kn_pred, kn_m1, kn_m1', kn_a31, kn_shl, kn_shr, kn_bit, nB_0, nB_1, nB_t, nB_f, Nat.zero_add, Nat.add_zero, Nat.reduceAdd, Nat.reduceMul, Nat.reduceSub, Nat.reducePow]
    exact key
end

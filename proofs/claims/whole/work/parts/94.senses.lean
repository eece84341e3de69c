/-! PLAIN LEAN, 60: laws; the senses -/
def s_sns (tp : Nat → Nat) (n : Nat) (y : JTs) : Option Nat := if s_isk tp n y 9 = true then some 0 else if s_isk tp n y 10 = true then some 1 else if s_isk tp n y 3 = true then some 2 else if s_isk tp n y 4 = true then some 3 else if s_isk tp n y 11 = true then some 4 else if s_isk tp n y 1 = true then some 5 else if s_isk tp n y 12 = true then some 6 else none
section
variable {t u l m b c : Nat} {h : LH} {I J K : Nat → Nat → Int32} {tp : Nat → Nat} {n o q j k : Nat} {y : JTs} {x : Int32} {s : JLs} {ω : JLw} {w v : Nat}
theorem s_sns_lt (e : s_sns tp n y = some j) : j < 7 ∧ ∃ k, 1 ≤ k ∧ k < 16 ∧ s_isk tp n y k = true := by
  unfold s_sns at e
  repeat' split at e
  all_goals first | (rename_i hh; cases e; exact ⟨by omega, _, by omega, by omega, hh⟩) | cases e
theorem s_sns_no (hk : ∀ k, 1 ≤ k → k < 16 → s_isk tp n y k = false) : s_sns tp n y = none := by
  unfold s_sns
  rw [hk 9 (by omega) (by omega), hk 10 (by omega) (by omega), hk 3 (by omega) (by omega), hk 4 (by omega) (by omega), hk 11 (by omega) (by omega), hk 1 (by omega) (by omega), hk 12 (by omega) (by omega)]
  rfl
def s_rs1 (tp : Nat → Nat) (n : Nat) (z : JTs) (ω : JLw) : JLs := (s_sns tp n z).elim (s_fa 1 (s_nx tp n z).1 (s_wd tp n z), ω) (fun j => (s_wd tp n z, s_nt 1 j ω))
theorem c_readSense (hL : jLay t u l m b c h) (hl : q = 82 ∨ q = 196) (hy : jTy n y) (hJ : jLC h J q tp n (s_wd tp n y, ω)) (h6 : J 65 6 = nI (s_nx tp n y).1) (hx : (s_sns tp n y).isSome = true → ω.1 < 150) : ∃ K, F_Law_readSense q 65 (jz_I h J) = some (jz_I h K) ∧ jLC h K q tp n (s_rs1 tp n y ω) ∧ jFC q J K := by
  have hS := hJ.1
  have hT := hJ.2.1
  have hw := s_nx_wd (tp := tp) hy
  have hwn : (s_nx tp n y).1 ≤ n := (s_nx_y hy).1
  have i9 := c_isWord hL hS hT (k := 9) (by omega) (by omega) h6 hw
  rw [s_isw_isk] at i9
  have i10 := c_isWord hL hS hT (k := 10) (by omega) (by omega) h6 hw
  rw [s_isw_isk] at i10
  have i3 := c_isWord hL hS hT (k := 3) (by omega) (by omega) h6 hw
  rw [s_isw_isk] at i3
  have i4 := c_isWord hL hS hT (k := 4) (by omega) (by omega) h6 hw
  rw [s_isw_isk] at i4
  have i11 := c_isWord hL hS hT (k := 11) (by omega) (by omega) h6 hw
  rw [s_isw_isk] at i11
  have i1 := c_isWord hL hS hT (k := 1) (by omega) (by omega) h6 hw
  rw [s_isw_isk] at i1
  have i12 := c_isWord hL hS hT (k := 12) (by omega) (by omega) h6 hw
  rw [s_isw_isk] at i12
  refine jE_n (fun P hP => ?_)
  unfold F_Law_readSense
  cases g9 : s_isk tp n y 9
  case true =>
    have ek : s_sns tp n y = some 0 := by unfold s_sns; rw [if_pos g9]
    have es : s_rs1 tp n y ω = (s_wd tp n y, s_nt 1 0 ω) := by unfold s_rs1; rw [ek]; rfl
    rw [es] at hP
    simp (disch := omega) only [i9, g9, F_Law_senseCode, ↓dR_64_0 hL, ↓dK_65 hL, ↓dG_65 hL, ↓dP_65 hL, ↓dK_L hL hl, ↓dG_L hL hl, ↓dP_L hL hl, ↓reduceIte, ↓kq_bi, ↓kq_let, ↓kq_rz0, ↓kq_rz1, ↓kq_rzB, ↓Option.bind_some, kq_dvn, kt_lt, kf_lt, kt_eq, kf_eq, decide_true, decide_false, eq_self, Bool.false_eq_true, Bool.true_eq_false, not_true_eq_false, not_false_eq_true, jU_eq, jU_ne, jU_U, jV_eq, jV_ne, jV_V, kn_lit, kn_add, kn_mul, kn_sdm, kn_sub, kn_div, kn_nsdm, kn_lt, kn_eq, kn_pred, kn_m1, kn_m1', kn_a31, kn_shl, kn_shr, kn_bit, nB_0, nB_1, nB_t, nB_f, Nat.zero_add, Nat.add_zero, Nat.reduceAdd, Nat.reduceMul, Nat.reduceSub, Nat.reducePow]
    refine jW_bn (c_putS hL hl hJ (w := 1) (v := 0) (fun z => ⟨rfl, hx (by rw [ek]; rfl)⟩)) (fun K hK => ?_)
    simp (disch := omega) only [F_Law_readSense_b153, ↓reduceIte, ↓kq_bi, ↓kq_let, ↓kq_rz0, ↓kq_rz1, ↓kq_rzB, ↓Option.bind_some, kq_dvn, kt_lt, kf_lt, kt_eq, kf_eq, decide_true, decide_false, eq_self, Bool.false_eq_true, Bool.true_eq_false, not_true_eq_false, not_false_eq_true, jU_eq, jU_ne, jU_U, jV_eq, jV_ne, jV_V, kn_lit, kn_add, kn_mul, kn_sdm, kn_sub, kn_div, kn_nsdm, kn_lt, kn_eq, kn_pred, kn_m1, kn_m1', kn_a31, kn_shl, kn_shr, kn_bit, nB_0, nB_1, nB_t, nB_f, Nat.zero_add, Nat.add_zero, Nat.reduceAdd, Nat.reduceMul, Nat.reduceSub, Nat.reducePow]
    exact jW_s (hP K hK)
  cases g10 : s_isk tp n y 10
  case true =>
    have ek : s_sns tp n y = some 1 := by unfold s_sns; rw [if_neg (show ¬ s_isk tp n y 9 = true by rw [g9]; decide), if_pos g10]
    have es : s_rs1 tp n y ω = (s_wd tp n y, s_nt 1 1 ω) := by unfold s_rs1; rw [ek]; rfl
    rw [es] at hP
    simp (disch := omega) only [i9, g9, i10, g10, F_Law_senseCode, ↓dR_64_0 hL, ↓dK_65 hL, ↓dG_65 hL, ↓dP_65 hL, ↓dK_L hL hl, ↓dG_L hL hl, ↓dP_L hL hl, ↓reduceIte, ↓kq_bi, ↓kq_let, ↓kq_rz0, ↓kq_rz1, ↓kq_rzB, ↓Option.bind_some, kq_dvn, kt_lt, kf_lt, kt_eq, kf_eq, decide_true, decide_false, eq_self, Bool.false_eq_true, Bool.true_eq_false, not_true_eq_false, not_false_eq_true, jU_eq, jU_ne, jU_U, jV_eq, jV_ne, jV_V, kn_lit, kn_add, kn_mul, kn_sdm, kn_sub, kn_div, kn_nsdm, kn_lt, kn_eq, kn_pred, kn_m1, kn_m1', kn_a31, kn_shl, kn_shr, kn_bit, nB_0, nB_1, nB_t, nB_f, Nat.zero_add, Nat.add_zero, Nat.reduceAdd, Nat.reduceMul, Nat.reduceSub, Nat.reducePow]
    refine jW_bn (c_putS hL hl hJ (w := 1) (v := 1) (fun z => ⟨rfl, hx (by rw [ek]; rfl)⟩)) (fun K hK => ?_)
    simp (disch := omega) only [F_Law_readSense_b153, ↓reduceIte, ↓kq_bi, ↓kq_let, ↓kq_rz0, ↓kq_rz1, ↓kq_rzB, ↓Option.bind_some, kq_dvn, kt_lt, kf_lt, kt_eq, kf_eq, decide_true, decide_false, eq_self, Bool.false_eq_true, Bool.true_eq_false, not_true_eq_false, not_false_eq_true, jU_eq, jU_ne, jU_U, jV_eq, jV_ne, jV_V, kn_lit, kn_add, kn_mul, kn_sdm, kn_sub, kn_div, kn_nsdm, kn_lt, kn_eq, kn_pred, kn_m1, kn_m1', kn_a31, kn_shl, kn_shr, kn_bit, nB_0, nB_1, nB_t, nB_f, Nat.zero_add, Nat.add_zero, Nat.reduceAdd, Nat.reduceMul, Nat.reduceSub, Nat.reducePow]
    exact jW_s (hP K hK)
  cases g3 : s_isk tp n y 3
  case true =>
    have ek : s_sns tp n y = some 2 := by unfold s_sns; rw [if_neg (show ¬ s_isk tp n y 9 = true by rw [g9]; decide), if_neg (show ¬ s_isk tp n y 10 = true by rw [g10]; decide), if_pos g3]
    have es : s_rs1 tp n y ω = (s_wd tp n y, s_nt 1 2 ω) := by unfold s_rs1; rw [ek]; rfl
    rw [es] at hP
    simp (disch := omega) only [i9, g9, i10, g10, i3, g3, F_Law_senseCode, ↓dR_64_0 hL, ↓dK_65 hL, ↓dG_65 hL, ↓dP_65 hL, ↓dK_L hL hl, ↓dG_L hL hl, ↓dP_L hL hl, ↓reduceIte, ↓kq_bi, ↓kq_let, ↓kq_rz0, ↓kq_rz1, ↓kq_rzB, ↓Option.bind_some, kq_dvn, kt_lt, kf_lt, kt_eq, kf_eq, decide_true, decide_false, eq_self, Bool.false_eq_true, Bool.true_eq_false, not_true_eq_false, not_false_eq_true, jU_eq, jU_ne, jU_U, jV_eq, jV_ne, jV_V, kn_lit, kn_add, kn_mul, kn_sdm, kn_sub, kn_div, kn_nsdm, kn_lt, kn_eq, kn_pred, kn_m1, kn_m1', kn_a31, kn_shl, kn_shr, kn_bit, nB_0, nB_1, nB_t, nB_f, Nat.zero_add, Nat.add_zero, Nat.reduceAdd, Nat.reduceMul, Nat.reduceSub, Nat.reducePow]
    refine jW_bn (c_putS hL hl hJ (w := 1) (v := 2) (fun z => ⟨rfl, hx (by rw [ek]; rfl)⟩)) (fun K hK => ?_)
    simp (disch := omega) only [F_Law_readSense_b153, ↓reduceIte, ↓kq_bi, ↓kq_let, ↓kq_rz0, ↓kq_rz1, ↓kq_rzB, ↓Option.bind_some, kq_dvn, kt_lt, kf_lt, kt_eq, kf_eq, decide_true, decide_false, eq_self, Bool.false_eq_true, Bool.true_eq_false, not_true_eq_false, not_false_eq_true, jU_eq, jU_ne, jU_U, jV_eq, jV_ne, jV_V, kn_lit, kn_add, kn_mul, kn_sdm, kn_sub, kn_div, kn_nsdm, kn_lt, kn_eq, kn_pred, kn_m1, kn_m1', kn_a31, kn_shl, kn_shr, kn_bit, nB_0, nB_1, nB_t, nB_f, Nat.zero_add, Nat.add_zero, Nat.reduceAdd, Nat.reduceMul, Nat.reduceSub, Nat.reducePow]
    exact jW_s (hP K hK)
  cases g4 : s_isk tp n y 4
  case true =>
    have ek : s_sns tp n y = some 3 := by unfold s_sns; rw [if_neg (show ¬ s_isk tp n y 9 = true by rw [g9]; decide), if_neg (show ¬ s_isk tp n y 10 = true by rw [g10]; decide), if_neg (show ¬ s_isk tp n y 3 = true by rw [g3]; decide), if_pos g4]
    have es : s_rs1 tp n y ω = (s_wd tp n y, s_nt 1 3 ω) := by unfold s_rs1; rw [ek]; rfl
    rw [es] at hP
    simp (disch := omega) only [i9, g9, i10, g10, i3, g3, i4, g4, F_Law_senseCode, ↓dR_64_0 hL, ↓dK_65 hL, ↓dG_65 hL, ↓dP_65 hL, ↓dK_L hL hl, ↓dG_L hL hl, ↓dP_L hL hl, ↓reduceIte, ↓kq_bi, ↓kq_let, ↓kq_rz0, ↓kq_rz1, ↓kq_rzB, ↓Option.bind_some, kq_dvn, kt_lt, kf_lt, kt_eq, kf_eq, decide_true, decide_false, eq_self, Bool.false_eq_true, Bool.true_eq_false, not_true_eq_false, not_false_eq_true, jU_eq, jU_ne, jU_U, jV_eq, jV_ne, jV_V, kn_lit, kn_add, kn_mul, kn_sdm, kn_sub, kn_div, kn_nsdm, kn_lt, kn_eq, kn_pred, kn_m1, kn_m1', kn_a31, kn_shl, kn_shr, kn_bit, nB_0, nB_1, nB_t, nB_f, Nat.zero_add, Nat.add_zero, Nat.reduceAdd, Nat.reduceMul, Nat.reduceSub, Nat.reducePow]
    refine jW_bn (c_putS hL hl hJ (w := 1) (v := 3) (fun z => ⟨rfl, hx (by rw [ek]; rfl)⟩)) (fun K hK => ?_)
    simp (disch := omega) only [F_Law_readSense_b153, ↓reduceIte, ↓kq_bi, ↓kq_let, ↓kq_rz0, ↓kq_rz1, ↓kq_rzB, ↓Option.bind_some, kq_dvn, kt_lt, kf_lt, kt_eq, kf_eq, decide_true, decide_false, eq_self, Bool.false_eq_true, Bool.true_eq_false, not_true_eq_false, not_false_eq_true, jU_eq, jU_ne, jU_U, jV_eq, jV_ne, jV_V, kn_lit, kn_add, kn_mul, kn_sdm, kn_sub, kn_div, kn_nsdm, kn_lt, kn_eq, kn_pred, kn_m1, kn_m1', kn_a31, kn_shl, kn_shr, kn_bit, nB_0, nB_1, nB_t, nB_f, Nat.zero_add, Nat.add_zero, Nat.reduceAdd, Nat.reduceMul, Nat.reduceSub, Nat.reducePow]
    exact jW_s (hP K hK)
  cases g11 : s_isk tp n y 11
  case true =>
    have ek : s_sns tp n y = some 4 := by unfold s_sns; rw [if_neg (show ¬ s_isk tp n y 9 = true by rw [g9]; decide), if_neg (show ¬ s_isk tp n y 10 = true by rw [g10]; decide), if_neg (show ¬ s_isk tp n y 3 = true by rw [g3]; decide), if_neg (show ¬ s_isk tp n y 4 = true by rw [g4]; decide), if_pos g11]
    have es : s_rs1 tp n y ω = (s_wd tp n y, s_nt 1 4 ω) := by unfold s_rs1; rw [ek]; rfl
    rw [es] at hP
    simp (disch := omega) only [i9, g9, i10, g10, i3, g3, i4, g4, i11, g11, F_Law_senseCode, ↓dR_64_0 hL, ↓dK_65 hL, ↓dG_65 hL, ↓dP_65 hL, ↓dK_L hL hl, ↓dG_L hL hl, ↓dP_L hL hl, ↓reduceIte, ↓kq_bi, ↓kq_let, ↓kq_rz0, ↓kq_rz1, ↓kq_rzB, ↓Option.bind_some, kq_dvn, kt_lt, kf_lt, kt_eq, kf_eq, decide_true, decide_false, eq_self, Bool.false_eq_true, Bool.true_eq_false, not_true_eq_false, not_false_eq_true, jU_eq, jU_ne, jU_U, jV_eq, jV_ne, jV_V, kn_lit, kn_add, kn_mul, kn_sdm, kn_sub, kn_div, kn_nsdm, kn_lt, kn_eq, kn_pred, kn_m1, kn_m1', kn_a31, kn_shl, kn_shr, kn_bit, nB_0, nB_1, nB_t, nB_f, Nat.zero_add, Nat.add_zero, Nat.reduceAdd, Nat.reduceMul, Nat.reduceSub, Nat.reducePow]
    refine jW_bn (c_putS hL hl hJ (w := 1) (v := 4) (fun z => ⟨rfl, hx (by rw [ek]; rfl)⟩)) (fun K hK => ?_)
    simp (disch := omega) only [F_Law_readSense_b153, ↓reduceIte, ↓kq_bi, ↓kq_let, ↓kq_rz0, ↓kq_rz1, ↓kq_rzB, ↓Option.bind_some, kq_dvn, kt_lt, kf_lt, kt_eq, kf_eq, decide_true, decide_false, eq_self, Bool.false_eq_true, Bool.true_eq_false, not_true_eq_false, not_false_eq_true, jU_eq, jU_ne, jU_U, jV_eq, jV_ne, jV_V, kn_lit, kn_add, kn_mul, kn_sdm, kn_sub, kn_div, kn_nsdm, kn_lt, kn_eq, kn_pred, kn_m1, kn_m1', kn_a31, kn_shl, kn_shr, kn_bit, nB_0, nB_1, nB_t, nB_f, Nat.zero_add, Nat.add_zero, Nat.reduceAdd, Nat.reduceMul, Nat.reduceSub, Nat.reducePow]
    exact jW_s (hP K hK)
  cases g1 : s_isk tp n y 1
  case true =>
    have ek : s_sns tp n y = some 5 := by unfold s_sns; rw [if_neg (show ¬ s_isk tp n y 9 = true by rw [g9]; decide), if_neg (show ¬ s_isk tp n y 10 = true by rw [g10]; decide), if_neg (show ¬ s_isk tp n y 3 = true by rw [g3]; decide), if_neg (show ¬ s_isk tp n y 4 = true by rw [g4]; decide), if_neg (show ¬ s_isk tp n y 11 = true by rw [g11]; decide), if_pos g1]
    have es : s_rs1 tp n y ω = (s_wd tp n y, s_nt 1 5 ω) := by unfold s_rs1; rw [ek]; rfl
    rw [es] at hP
    simp (disch := omega) only [i9, g9, i10, g10, i3, g3, i4, g4, i11, g11, i1, g1, F_Law_senseCode, ↓dR_64_0 hL, ↓dK_65 hL, ↓dG_65 hL, ↓dP_65 hL, ↓dK_L hL hl, ↓dG_L hL hl, ↓dP_L hL hl, ↓reduceIte, ↓kq_bi, ↓kq_let, ↓kq_rz0, ↓kq_rz1, ↓kq_rzB, ↓Option.bind_some, kq_dvn, kt_lt, kf_lt, kt_eq, kf_eq, decide_true, decide_false, eq_self, Bool.false_eq_true, Bool.true_eq_false, not_true_eq_false, not_false_eq_true, jU_eq, jU_ne, jU_U, jV_eq, jV_ne, jV_V, kn_lit, kn_add, kn_mul, kn_sdm, kn_sub, kn_div, kn_nsdm, kn_lt, kn_eq, kn_pred, kn_m1, kn_m1', kn_a31, kn_shl, kn_shr, kn_bit, nB_0, nB_1, nB_t, nB_f, Nat.zero_add, Nat.add_zero, Nat.reduceAdd, Nat.reduceMul, Nat.reduceSub, Nat.reducePow]
    refine jW_bn (c_putS hL hl hJ (w := 1) (v := 5) (fun z => ⟨rfl, hx (by rw [ek]; rfl)⟩)) (fun K hK => ?_)
    simp (disch := omega) only [F_Law_readSense_b153, ↓reduceIte, ↓kq_bi, ↓kq_let, ↓kq_rz0, ↓kq_rz1, ↓kq_rzB, ↓Option.bind_some, kq_dvn, kt_lt, kf_lt, kt_eq, kf_eq, decide_true, decide_false, eq_self, Bool.false_eq_true, Bool.true_eq_false, not_true_eq_false, not_false_eq_true, jU_eq, jU_ne, jU_U, jV_eq, jV_ne, jV_V, kn_lit, kn_add, kn_mul, kn_sdm, kn_sub, kn_div, kn_nsdm, kn_lt, kn_eq, kn_pred, kn_m1, kn_m1', kn_a31, kn_shl, kn_shr, kn_bit, nB_0, nB_1, nB_t, nB_f, Nat.zero_add, Nat.add_zero, Nat.reduceAdd, Nat.reduceMul, Nat.reduceSub, Nat.reducePow]
    exact jW_s (hP K hK)
  cases g12 : s_isk tp n y 12
  case true =>
    have ek : s_sns tp n y = some 6 := by unfold s_sns; rw [if_neg (show ¬ s_isk tp n y 9 = true by rw [g9]; decide), if_neg (show ¬ s_isk tp n y 10 = true by rw [g10]; decide), if_neg (show ¬ s_isk tp n y 3 = true by rw [g3]; decide), if_neg (show ¬ s_isk tp n y 4 = true by rw [g4]; decide), if_neg (show ¬ s_isk tp n y 11 = true by rw [g11]; decide), if_neg (show ¬ s_isk tp n y 1 = true by rw [g1]; decide), if_pos g12]
    have es : s_rs1 tp n y ω = (s_wd tp n y, s_nt 1 6 ω) := by unfold s_rs1; rw [ek]; rfl
    rw [es] at hP
    simp (disch := omega) only [i9, g9, i10, g10, i3, g3, i4, g4, i11, g11, i1, g1, i12, g12, F_Law_senseCode, ↓dR_64_0 hL, ↓dK_65 hL, ↓dG_65 hL, ↓dP_65 hL, ↓dK_L hL hl, ↓dG_L hL hl, ↓dP_L hL hl, ↓reduceIte, ↓kq_bi, ↓kq_let, ↓kq_rz0, ↓kq_rz1, ↓kq_rzB, ↓Option.bind_some, kq_dvn, kt_lt, kf_lt, kt_eq, kf_eq, decide_true, decide_false, eq_self, Bool.false_eq_true, Bool.true_eq_false, not_true_eq_false, not_false_eq_true, jU_eq, jU_ne, jU_U, jV_eq, jV_ne, jV_V, kn_lit, kn_add, kn_mul, kn_sdm, kn_sub, kn_div, kn_nsdm, kn_lt, kn_eq, kn_pred, kn_m1, kn_m1', kn_a31, kn_shl, kn_shr, kn_bit, nB_0, nB_1, nB_t, nB_f, Nat.zero_add, Nat.add_zero, Nat.reduceAdd, Nat.reduceMul, Nat.reduceSub, Nat.reducePow]
    refine jW_bn (c_putS hL hl hJ (w := 1) (v := 6) (fun z => ⟨rfl, hx (by rw [ek]; rfl)⟩)) (fun K hK => ?_)
    simp (disch := omega) only [F_Law_readSense_b153, ↓reduceIte, ↓kq_bi, ↓kq_let, ↓kq_rz0, ↓kq_rz1, ↓kq_rzB, ↓Option.bind_some, kq_dvn, kt_lt, kf_lt, kt_eq, kf_eq, decide_true, decide_false, eq_self, Bool.false_eq_true, Bool.true_eq_false, not_true_eq_false, not_false_eq_true, jU_eq, jU_ne, jU_U, jV_eq, jV_ne, jV_V, kn_lit, kn_add, kn_mul, kn_sdm, kn_sub, kn_div, kn_nsdm, kn_lt, kn_eq, kn_pred, kn_m1, kn_m1', kn_a31, kn_shl, kn_shr, kn_bit, nB_0, nB_1, nB_t, nB_f, Nat.zero_add, Nat.add_zero, Nat.reduceAdd, Nat.reduceMul, Nat.reduceSub, Nat.reducePow]
    exact jW_s (hP K hK)
  have es : s_rs1 tp n y ω = (s_fa 1 (s_nx tp n y).1 (s_wd tp n y), ω) := by unfold s_rs1 s_sns; rw [if_neg (show ¬ s_isk tp n y 9 = true by rw [g9]; decide), if_neg (show ¬ s_isk tp n y 10 = true by rw [g10]; decide), if_neg (show ¬ s_isk tp n y 3 = true by rw [g3]; decide), if_neg (show ¬ s_isk tp n y 4 = true by rw [g4]; decide), if_neg (show ¬ s_isk tp n y 11 = true by rw [g11]; decide), if_neg (show ¬ s_isk tp n y 1 = true by rw [g1]; decide), if_neg (show ¬ s_isk tp n y 12 = true by rw [g12]; decide)]; rfl
  rw [es] at hP
  simp (disch := omega) only [i9, g9, i10, g10, i3, g3, i4, g4, i11, g11, i1, g1, i12, g12, ↓dR_64_0 hL, ↓dK_65 hL, ↓dG_65 hL, ↓dP_65 hL, ↓dK_L hL hl, ↓dG_L hL hl, ↓dP_L hL hl, ↓reduceIte, ↓kq_bi, ↓kq_let, ↓kq_rz0, ↓kq_rz1, ↓kq_rzB, ↓Option.bind_some, kq_dvn, kt_lt, kf_lt, kt_eq, kf_eq, decide_true, decide_false, eq_self, Bool.false_eq_true, Bool.true_eq_false, not_true_eq_false, not_false_eq_true, jU_eq, jU_ne, jU_U, jV_eq, jV_ne, jV_V, kn_lit, kn_add, kn_mul, kn_sdm, kn_sub, kn_div, kn_nsdm, kn_lt, kn_eq, kn_pred, kn_m1, kn_m1', kn_a31, kn_shl, kn_shr, kn_bit, nB_0, nB_1, nB_t, nB_f, Nat.zero_add, Nat.add_zero, Nat.reduceAdd, Nat.reduceMul, Nat.reduceSub, Nat.reducePow]
  refine jW_bn (c_fail hL hT (show 1 ≤ 1 by omega) (by omega) hwn h6) (fun K hK => ?_)
  simp (disch := omega) only [F_Law_readSense_b153, ↓reduceIte, ↓kq_bi, ↓kq_let, ↓kq_rz0, ↓kq_rz1, ↓kq_rzB, ↓Option.bind_some, kq_dvn, kt_lt, kf_lt, kt_eq, kf_eq, decide_true, decide_false, eq_self, Bool.false_eq_true, Bool.true_eq_false, not_true_eq_false, not_false_eq_true, jU_eq, jU_ne, jU_U, jV_eq, jV_ne, jV_V, kn_lit, kn_add, kn_mul, kn_sdm, kn_sub, kn_div, kn_nsdm, kn_lt, kn_eq, kn_pred, kn_m1, kn_m1', kn_a31, kn_shl, kn_shr, kn_bit, nB_0, nB_1, nB_t, nB_f, Nat.zero_add, Nat.add_zero, Nat.reduceAdd, Nat.reduceMul, Nat.reduceSub, Nat.reducePow]
  exact jW_s (hP K ⟨jLC_T1 hl hJ hK.1 hK.2.2 (fun z => absurd z (s_fa_0 (by omega))), jFC_T1 hK.2.2⟩)
theorem m_knownHere (hL : jLay t u l m b c h) (hT : jTM J tp n y) : ∃ K, F_Mod_knownHere 205 (jz_I h J) = some (nO (s_sns tp n y), jz_I h K) ∧ jTM K tp n (if (s_sns tp n y).isSome = true then s_wd tp n y else y) ∧ jM1 J K := by
  refine jE_i (fun P hP => ?_)
  unfold F_Mod_knownHere
  have M0 : jM1 J J := jM1_r
  have T0 := hT
  simp (disch := omega) only [↓dK_205 hL, ↓dG_205 hL, ↓dP_205 hL, ↓dZ_205 hL (x := nI 0) (Or.inl rfl), ↓dZ_205 hL (x := nI 1) (Or.inr rfl), ↓dZ_205 hL (Or.inl rfl), ↓dZ_205 hL (Or.inr rfl), ↓dZ_205 hL (nB_01 _), ↓reduceIte, ↓kq_bi, ↓kq_let, ↓kq_rz0, ↓kq_rz1, ↓kq_rzB, ↓Option.bind_some, kq_dvn, kt_lt, kf_lt, kt_eq, kf_eq, decide_true, decide_false, eq_self, Bool.false_eq_true, Bool.true_eq_false, not_true_eq_false, not_false_eq_true, jU_eq, jU_ne, jU_U, jV_eq, jV_ne, jV_V, kn_lit, kn_add, kn_mul, kn_sdm, kn_sub, kn_div, kn_nsdm, kn_lt, kn_eq, kn_pred, kn_m1, kn_m1', kn_a31, kn_shl, kn_shr, kn_bit, nB_0, nB_1, nB_t, nB_f, Nat.zero_add, Nat.add_zero, Nat.reduceAdd, Nat.reduceMul, Nat.reduceSub, Nat.reducePow]
  refine jW_bi (m_takes hL T0 (k := 9) (by omega) six_9) (fun K1 hK => ?_)
  obtain ⟨T1, Q1⟩ := hK
  have M1 := jM1_trans M0 Q1
  cases g9 : s_isk tp n y 9
  case true =>
    have ek : s_sns tp n y = some 0 := by unfold s_sns; rw [if_pos g9]
    rw [ek, nO_some, if_pos (show (some 0).isSome = true from rfl)] at hP
    rw [if_pos g9] at T1
    simp (disch := omega) only [F_Mod_knownHere_b132, ↓dK_205 hL, ↓dG_205 hL, ↓dP_205 hL, ↓dZ_205 hL (x := nI 0) (Or.inl rfl), ↓dZ_205 hL (x := nI 1) (Or.inr rfl), ↓dZ_205 hL (Or.inl rfl), ↓dZ_205 hL (Or.inr rfl), ↓dZ_205 hL (nB_01 _), ↓reduceIte, ↓kq_bi, ↓kq_let, ↓kq_rz0, ↓kq_rz1, ↓kq_rzB, ↓Option.bind_some, kq_dvn, kt_lt, kf_lt, kt_eq, kf_eq, decide_true, decide_false, eq_self, Bool.false_eq_true, Bool.true_eq_false, not_true_eq_false, not_false_eq_true, jU_eq, jU_ne, jU_U, jV_eq, jV_ne, jV_V, kn_lit, kn_add, kn_mul, kn_sdm, kn_sub, kn_div, kn_nsdm, kn_lt, kn_eq, kn_pred, kn_m1, kn_m1', kn_a31, kn_shl, kn_shr, kn_bit, nB_0, nB_1, nB_t, nB_f, Nat.zero_add, Nat.add_zero, Nat.reduceAdd, Nat.reduceMul, Nat.reduceSub, Nat.reducePow]
    exact jW_s (hP K1 ⟨T1, M1⟩)
  rw [if_neg (show ¬ s_isk tp n y 9 = true by rw [g9]; decide)] at T1
  simp (disch := omega) only [F_Mod_knownHere_b132, ↓dK_205 hL, ↓dG_205 hL, ↓dP_205 hL, ↓dZ_205 hL (x := nI 0) (Or.inl rfl), ↓dZ_205 hL (x := nI 1) (Or.inr rfl), ↓dZ_205 hL (Or.inl rfl), ↓dZ_205 hL (Or.inr rfl), ↓dZ_205 hL (nB_01 _), ↓reduceIte, ↓kq_bi, ↓kq_let, ↓kq_rz0, ↓kq_rz1, ↓kq_rzB, ↓Option.bind_some, kq_dvn, kt_lt, kf_lt, kt_eq, kf_eq, decide_true, decide_false, eq_self, Bool.false_eq_true, Bool.true_eq_false, not_true_eq_false, not_false_eq_true, jU_eq, jU_ne, jU_U, jV_eq, jV_ne, jV_V, kn_lit, kn_add, kn_mul, kn_sdm, kn_sub, kn_div, kn_nsdm, kn_lt, kn_eq, kn_pred, kn_m1, kn_m1', kn_a31, kn_shl, kn_shr, kn_bit, nB_0, nB_1, nB_t, nB_f, Nat.zero_add, Nat.add_zero, Nat.reduceAdd, Nat.reduceMul, Nat.reduceSub, Nat.reducePow]
  refine jW_bi (m_takes hL T1 (k := 10) (by omega) six_10) (fun K2 hK => ?_)
  obtain ⟨T2, Q2⟩ := hK
  have M2 := jM1_trans M1 Q2
  cases g10 : s_isk tp n y 10
  case true =>
    have ek : s_sns tp n y = some 1 := by unfold s_sns; rw [if_neg (show ¬ s_isk tp n y 9 = true by rw [g9]; decide), if_pos g10]
    rw [ek, nO_some, if_pos (show (some 1).isSome = true from rfl)] at hP
    rw [if_pos g10] at T2
    simp (disch := omega) only [F_Mod_knownHere_b132, ↓dK_205 hL, ↓dG_205 hL, ↓dP_205 hL, ↓dZ_205 hL (x := nI 0) (Or.inl rfl), ↓dZ_205 hL (x := nI 1) (Or.inr rfl), ↓dZ_205 hL (Or.inl rfl), ↓dZ_205 hL (Or.inr rfl), ↓dZ_205 hL (nB_01 _), ↓reduceIte, ↓kq_bi, ↓kq_let, ↓kq_rz0, ↓kq_rz1, ↓kq_rzB, ↓Option.bind_some, kq_dvn, kt_lt, kf_lt, kt_eq, kf_eq, decide_true, decide_false, eq_self, Bool.false_eq_true, Bool.true_eq_false, not_true_eq_false, not_false_eq_true, jU_eq, jU_ne, jU_U, jV_eq, jV_ne, jV_V, kn_lit, kn_add, kn_mul, kn_sdm, kn_sub, kn_div, kn_nsdm, kn_lt, kn_eq, kn_pred, kn_m1, kn_m1', kn_a31, kn_shl, kn_shr, kn_bit, nB_0, nB_1, nB_t, nB_f, Nat.zero_add, Nat.add_zero, Nat.reduceAdd, Nat.reduceMul, Nat.reduceSub, Nat.reducePow]
    exact jW_s (hP K2 ⟨T2, M2⟩)
  rw [if_neg (show ¬ s_isk tp n y 10 = true by rw [g10]; decide)] at T2
  simp (disch := omega) only [F_Mod_knownHere_b132, ↓dK_205 hL, ↓dG_205 hL, ↓dP_205 hL, ↓dZ_205 hL (x := nI 0) (Or.inl rfl), ↓dZ_205 hL (x := nI 1) (Or.inr rfl), ↓dZ_205 hL (Or.inl rfl), ↓dZ_205 hL (Or.inr rfl), ↓dZ_205 hL (nB_01 _), ↓reduceIte, ↓kq_bi, ↓kq_let, ↓kq_rz0, ↓kq_rz1, ↓kq_rzB, ↓Option.bind_some, kq_dvn, kt_lt, kf_lt, kt_eq, kf_eq, decide_true, decide_false, eq_self, Bool.false_eq_true, Bool.true_eq_false, not_true_eq_false, not_false_eq_true, jU_eq, jU_ne, jU_U, jV_eq, jV_ne, jV_V, kn_lit, kn_add, kn_mul, kn_sdm, kn_sub, kn_div, kn_nsdm, kn_lt, kn_eq, kn_pred, kn_m1, kn_m1', kn_a31, kn_shl, kn_shr, kn_bit, nB_0, nB_1, nB_t, nB_f, Nat.zero_add, Nat.add_zero, Nat.reduceAdd, Nat.reduceMul, Nat.reduceSub, Nat.reducePow]
  refine jW_bi (m_takes hL T2 (k := 3) (by omega) six_3) (fun K3 hK => ?_)
  obtain ⟨T3, Q3⟩ := hK
  have M3 := jM1_trans M2 Q3
  cases g3 : s_isk tp n y 3
  case true =>
    have ek : s_sns tp n y = some 2 := by unfold s_sns; rw [if_neg (show ¬ s_isk tp n y 9 = true by rw [g9]; decide), if_neg (show ¬ s_isk tp n y 10 = true by rw [g10]; decide), if_pos g3]
    rw [ek, nO_some, if_pos (show (some 2).isSome = true from rfl)] at hP
    rw [if_pos g3] at T3
    simp (disch := omega) only [F_Mod_knownHere_b132, ↓dK_205 hL, ↓dG_205 hL, ↓dP_205 hL, ↓dZ_205 hL (x := nI 0) (Or.inl rfl), ↓dZ_205 hL (x := nI 1) (Or.inr rfl), ↓dZ_205 hL (Or.inl rfl), ↓dZ_205 hL (Or.inr rfl), ↓dZ_205 hL (nB_01 _), ↓reduceIte, ↓kq_bi, ↓kq_let, ↓kq_rz0, ↓kq_rz1, ↓kq_rzB, ↓Option.bind_some, kq_dvn, kt_lt, kf_lt, kt_eq, kf_eq, decide_true, decide_false, eq_self, Bool.false_eq_true, Bool.true_eq_false, not_true_eq_false, not_false_eq_true, jU_eq, jU_ne, jU_U, jV_eq, jV_ne, jV_V, kn_lit, kn_add, kn_mul, kn_sdm, kn_sub, kn_div, kn_nsdm, kn_lt, kn_eq, kn_pred, kn_m1, kn_m1', kn_a31, kn_shl, kn_shr, kn_bit, nB_0, nB_1, nB_t, nB_f, Nat.zero_add, Nat.add_zero, Nat.reduceAdd, Nat.reduceMul, Nat.reduceSub, Nat.reducePow]
    exact jW_s (hP K3 ⟨T3, M3⟩)
  rw [if_neg (show ¬ s_isk tp n y 3 = true by rw [g3]; decide)] at T3
  simp (disch := omega) only [F_Mod_knownHere_b132, ↓dK_205 hL, ↓dG_205 hL, ↓dP_205 hL, ↓dZ_205 hL (x := nI 0) (Or.inl rfl), ↓dZ_205 hL (x := nI 1) (Or.inr rfl), ↓dZ_205 hL (Or.inl rfl), ↓dZ_205 hL (Or.inr rfl), ↓dZ_205 hL (nB_01 _), ↓reduceIte, ↓kq_bi, ↓kq_let, ↓kq_rz0, ↓kq_rz1, ↓kq_rzB, ↓Option.bind_some, kq_dvn, kt_lt, kf_lt, kt_eq, kf_eq, decide_true, decide_false, eq_self, Bool.false_eq_true, Bool.true_eq_false, not_true_eq_false, not_false_eq_true, jU_eq, jU_ne, jU_U, jV_eq, jV_ne, jV_V, kn_lit, kn_add, kn_mul, kn_sdm, kn_sub, kn_div, kn_nsdm, kn_lt, kn_eq, kn_pred, kn_m1, kn_m1', kn_a31, kn_shl, kn_shr, kn_bit, nB_0, nB_1, nB_t, nB_f, Nat.zero_add, Nat.add_zero, Nat.reduceAdd, Nat.reduceMul, Nat.reduceSub, Nat.reducePow]
  refine jW_bi (m_takes hL T3 (k := 4) (by omega) six_4) (fun K4 hK => ?_)
  obtain ⟨T4, Q4⟩ := hK
  have M4 := jM1_trans M3 Q4
  cases g4 : s_isk tp n y 4
  case true =>
    have ek : s_sns tp n y = some 3 := by unfold s_sns; rw [if_neg (show ¬ s_isk tp n y 9 = true by rw [g9]; decide), if_neg (show ¬ s_isk tp n y 10 = true by rw [g10]; decide), if_neg (show ¬ s_isk tp n y 3 = true by rw [g3]; decide), if_pos g4]
    rw [ek, nO_some, if_pos (show (some 3).isSome = true from rfl)] at hP
    rw [if_pos g4] at T4
    simp (disch := omega) only [F_Mod_knownHere_b132, ↓dK_205 hL, ↓dG_205 hL, ↓dP_205 hL, ↓dZ_205 hL (x := nI 0) (Or.inl rfl), ↓dZ_205 hL (x := nI 1) (Or.inr rfl), ↓dZ_205 hL (Or.inl rfl), ↓dZ_205 hL (Or.inr rfl), ↓dZ_205 hL (nB_01 _), ↓reduceIte, ↓kq_bi, ↓kq_let, ↓kq_rz0, ↓kq_rz1, ↓kq_rzB, ↓Option.bind_some, kq_dvn, kt_lt, kf_lt, kt_eq, kf_eq, decide_true, decide_false, eq_self, Bool.false_eq_true, Bool.true_eq_false, not_true_eq_false, not_false_eq_true, jU_eq, jU_ne, jU_U, jV_eq, jV_ne, jV_V, kn_lit, kn_add, kn_mul, kn_sdm, kn_sub, kn_div, kn_nsdm, kn_lt, kn_eq, kn_pred, kn_m1, kn_m1', kn_a31, kn_shl, kn_shr, kn_bit, nB_0, nB_1, nB_t, nB_f, Nat.zero_add, Nat.add_zero, Nat.reduceAdd, Nat.reduceMul, Nat.reduceSub, Nat.reducePow]
    exact jW_s (hP K4 ⟨T4, M4⟩)
  rw [if_neg (show ¬ s_isk tp n y 4 = true by rw [g4]; decide)] at T4
  simp (disch := omega) only [F_Mod_knownHere_b132, ↓dK_205 hL, ↓dG_205 hL, ↓dP_205 hL, ↓dZ_205 hL (x := nI 0) (Or.inl rfl), ↓dZ_205 hL (x := nI 1) (Or.inr rfl), ↓dZ_205 hL (Or.inl rfl), ↓dZ_205 hL (Or.inr rfl), ↓dZ_205 hL (nB_01 _), ↓reduceIte, ↓kq_bi, ↓kq_let, ↓kq_rz0, ↓kq_rz1, ↓kq_rzB, ↓Option.bind_some, kq_dvn, kt_lt, kf_lt, kt_eq, kf_eq, decide_true, decide_false, eq_self, Bool.false_eq_true, Bool.true_eq_false, not_true_eq_false, not_false_eq_true, jU_eq, jU_ne, jU_U, jV_eq, jV_ne, jV_V, kn_lit, kn_add, kn_mul, kn_sdm, kn_sub, kn_div, kn_nsdm, kn_lt, kn_eq, kn_pred, kn_m1, kn_m1', kn_a31, kn_shl, kn_shr, kn_bit, nB_0, nB_1, nB_t, nB_f, Nat.zero_add, Nat.add_zero, Nat.reduceAdd, Nat.reduceMul, Nat.reduceSub, Nat.reducePow]
  refine jW_bi (m_takes hL T4 (k := 11) (by omega) six_11) (fun K5 hK => ?_)
  obtain ⟨T5, Q5⟩ := hK
  have M5 := jM1_trans M4 Q5
  cases g11 : s_isk tp n y 11
  case true =>
    have ek : s_sns tp n y = some 4 := by unfold s_sns; rw [if_neg (show ¬ s_isk tp n y 9 = true by rw [g9]; decide), if_neg (show ¬ s_isk tp n y 10 = true by rw [g10]; decide), if_neg (show ¬ s_isk tp n y 3 = true by rw [g3]; decide), if_neg (show ¬ s_isk tp n y 4 = true by rw [g4]; decide), if_pos g11]
    rw [ek, nO_some, if_pos (show (some 4).isSome = true from rfl)] at hP
    rw [if_pos g11] at T5
    simp (disch := omega) only [F_Mod_knownHere_b132, ↓dK_205 hL, ↓dG_205 hL, ↓dP_205 hL, ↓dZ_205 hL (x := nI 0) (Or.inl rfl), ↓dZ_205 hL (x := nI 1) (Or.inr rfl), ↓dZ_205 hL (Or.inl rfl), ↓dZ_205 hL (Or.inr rfl), ↓dZ_205 hL (nB_01 _), ↓reduceIte, ↓kq_bi, ↓kq_let, ↓kq_rz0, ↓kq_rz1, ↓kq_rzB, ↓Option.bind_some, kq_dvn, kt_lt, kf_lt, kt_eq, kf_eq, decide_true, decide_false, eq_self, Bool.false_eq_true, Bool.true_eq_false, not_true_eq_false, not_false_eq_true, jU_eq, jU_ne, jU_U, jV_eq, jV_ne, jV_V, kn_lit, kn_add, kn_mul, kn_sdm, kn_sub, kn_div, kn_nsdm, kn_lt, kn_eq, kn_pred, kn_m1, kn_m1', kn_a31, kn_shl, kn_shr, kn_bit, nB_0, nB_1, nB_t, nB_f, Nat.zero_add, Nat.add_zero, Nat.reduceAdd, Nat.reduceMul, Nat.reduceSub, Nat.reducePow]
    exact jW_s (hP K5 ⟨T5, M5⟩)
  rw [if_neg (show ¬ s_isk tp n y 11 = true by rw [g11]; decide)] at T5
  simp (disch := omega) only [F_Mod_knownHere_b132, ↓dK_205 hL, ↓dG_205 hL, ↓dP_205 hL, ↓dZ_205 hL (x := nI 0) (Or.inl rfl), ↓dZ_205 hL (x := nI 1) (Or.inr rfl), ↓dZ_205 hL (Or.inl rfl), ↓dZ_205 hL (Or.inr rfl), ↓dZ_205 hL (nB_01 _), ↓reduceIte, ↓kq_bi, ↓kq_let, ↓kq_rz0, ↓kq_rz1, ↓kq_rzB, ↓Option.bind_some, kq_dvn, kt_lt, kf_lt, kt_eq, kf_eq, decide_true, decide_false, eq_self, Bool.false_eq_true, Bool.true_eq_false, not_true_eq_false, not_false_eq_true, jU_eq, jU_ne, jU_U, jV_eq, jV_ne, jV_V, kn_lit, kn_add, kn_mul, kn_sdm, kn_sub, kn_div, kn_nsdm, kn_lt, kn_eq, kn_pred, kn_m1, kn_m1', kn_a31, kn_shl, kn_shr, kn_bit, nB_0, nB_1, nB_t, nB_f, Nat.zero_add, Nat.add_zero, Nat.reduceAdd, Nat.reduceMul, Nat.reduceSub, Nat.reducePow]
  refine jW_bi (m_takes hL T5 (k := 1) (by omega) six_1) (fun K6 hK => ?_)
  obtain ⟨T6, Q6⟩ := hK
  have M6 := jM1_trans M5 Q6
  cases g1 : s_isk tp n y 1
  case true =>
    have ek : s_sns tp n y = some 5 := by unfold s_sns; rw [if_neg (show ¬ s_isk tp n y 9 = true by rw [g9]; decide), if_neg (show ¬ s_isk tp n y 10 = true by rw [g10]; decide), if_neg (show ¬ s_isk tp n y 3 = true by rw [g3]; decide), if_neg (show ¬ s_isk tp n y 4 = true by rw [g4]; decide), if_neg (show ¬ s_isk tp n y 11 = true by rw [g11]; decide), if_pos g1]
    rw [ek, nO_some, if_pos (show (some 5).isSome = true from rfl)] at hP
    rw [if_pos g1] at T6
    simp (disch := omega) only [F_Mod_knownHere_b132, ↓dK_205 hL, ↓dG_205 hL, ↓dP_205 hL, ↓dZ_205 hL (x := nI 0) (Or.inl rfl), ↓dZ_205 hL (x := nI 1) (Or.inr rfl), ↓dZ_205 hL (Or.inl rfl), ↓dZ_205 hL (Or.inr rfl), ↓dZ_205 hL (nB_01 _), ↓reduceIte, ↓kq_bi, ↓kq_let, ↓kq_rz0, ↓kq_rz1, ↓kq_rzB, ↓Option.bind_some, kq_dvn, kt_lt, kf_lt, kt_eq, kf_eq, decide_true, decide_false, eq_self, Bool.false_eq_true, Bool.true_eq_false, not_true_eq_false, not_false_eq_true, jU_eq, jU_ne, jU_U, jV_eq, jV_ne, jV_V, kn_lit, kn_add, kn_mul, kn_sdm, kn_sub, kn_div, kn_nsdm, kn_lt, kn_eq, kn_pred, kn_m1, kn_m1', kn_a31, kn_shl, kn_shr, kn_bit, nB_0, nB_1, nB_t, nB_f, Nat.zero_add, Nat.add_zero, Nat.reduceAdd, Nat.reduceMul, Nat.reduceSub, Nat.reducePow]
    exact jW_s (hP K6 ⟨T6, M6⟩)
  rw [if_neg (show ¬ s_isk tp n y 1 = true by rw [g1]; decide)] at T6
  simp (disch := omega) only [F_Mod_knownHere_b132, ↓dK_205 hL, ↓dG_205 hL, ↓dP_205 hL, ↓dZ_205 hL (x := nI 0) (Or.inl rfl), ↓dZ_205 hL (x := nI 1) (Or.inr rfl), ↓dZ_205 hL (Or.inl rfl), ↓dZ_205 hL (Or.inr rfl), ↓dZ_205 hL (nB_01 _), ↓reduceIte, ↓kq_bi, ↓kq_let, ↓kq_rz0, ↓kq_rz1, ↓kq_rzB, ↓Option.bind_some, kq_dvn, kt_lt, kf_lt, kt_eq, kf_eq, decide_true, decide_false, eq_self, Bool.false_eq_true, Bool.true_eq_false, not_true_eq_false, not_false_eq_true, jU_eq, jU_ne, jU_U, jV_eq, jV_ne, jV_V, kn_lit, kn_add, kn_mul, kn_sdm, kn_sub, kn_div, kn_nsdm, kn_lt, kn_eq, kn_pred, kn_m1, kn_m1', kn_a31, kn_shl, kn_shr, kn_bit, nB_0, nB_1, nB_t, nB_f, Nat.zero_add, Nat.add_zero, Nat.reduceAdd, Nat.reduceMul, Nat.reduceSub, Nat.reducePow]
  refine jW_bi (m_takes hL T6 (k := 12) (by omega) six_12) (fun K7 hK => ?_)
  obtain ⟨T7, Q7⟩ := hK
  have M7 := jM1_trans M6 Q7
  cases g12 : s_isk tp n y 12
  case true =>
    have ek : s_sns tp n y = some 6 := by unfold s_sns; rw [if_neg (show ¬ s_isk tp n y 9 = true by rw [g9]; decide), if_neg (show ¬ s_isk tp n y 10 = true by rw [g10]; decide), if_neg (show ¬ s_isk tp n y 3 = true by rw [g3]; decide), if_neg (show ¬ s_isk tp n y 4 = true by rw [g4]; decide), if_neg (show ¬ s_isk tp n y 11 = true by rw [g11]; decide), if_neg (show ¬ s_isk tp n y 1 = true by rw [g1]; decide), if_pos g12]
    rw [ek, nO_some, if_pos (show (some 6).isSome = true from rfl)] at hP
    rw [if_pos g12] at T7
    simp (disch := omega) only [F_Mod_knownHere_b132, ↓dK_205 hL, ↓dG_205 hL, ↓dP_205 hL, ↓dZ_205 hL (x := nI 0) (Or.inl rfl), ↓dZ_205 hL (x := nI 1) (Or.inr rfl), ↓dZ_205 hL (Or.inl rfl), ↓dZ_205 hL (Or.inr rfl), ↓dZ_205 hL (nB_01 _), ↓reduceIte, ↓kq_bi, ↓kq_let, ↓kq_rz0, ↓kq_rz1, ↓kq_rzB, ↓Option.bind_some, kq_dvn, kt_lt, kf_lt, kt_eq, kf_eq, decide_true, decide_false, eq_self, Bool.false_eq_true, Bool.true_eq_false, not_true_eq_false, not_false_eq_true, jU_eq, jU_ne, jU_U, jV_eq, jV_ne, jV_V, kn_lit, kn_add, kn_mul, kn_sdm, kn_sub, kn_div, kn_nsdm, kn_lt, kn_eq, kn_pred, kn_m1, kn_m1', kn_a31, kn_shl, kn_shr, kn_bit, nB_0, nB_1, nB_t, nB_f, Nat.zero_add, Nat.add_zero, Nat.reduceAdd, Nat.reduceMul, Nat.reduceSub, Nat.reducePow]
    exact jW_s (hP K7 ⟨T7, M7⟩)
  rw [if_neg (show ¬ s_isk tp n y 12 = true by rw [g12]; decide)] at T7
  simp (disch := omega) only [F_Mod_knownHere_b132, ↓dK_205 hL, ↓dG_205 hL, ↓dP_205 hL, ↓dZ_205 hL (x := nI 0) (Or.inl rfl), ↓dZ_205 hL (x := nI 1) (Or.inr rfl), ↓dZ_205 hL (Or.inl rfl), ↓dZ_205 hL (Or.inr rfl), ↓dZ_205 hL (nB_01 _), ↓reduceIte, ↓kq_bi, ↓kq_let, ↓kq_rz0, ↓kq_rz1, ↓kq_rzB, ↓Option.bind_some, kq_dvn, kt_lt, kf_lt, kt_eq, kf_eq, decide_true, decide_false, eq_self, Bool.false_eq_true, Bool.true_eq_false, not_true_eq_false, not_false_eq_true, jU_eq, jU_ne, jU_U, jV_eq, jV_ne, jV_V, kn_lit, kn_add, kn_mul, kn_sdm, kn_sub, kn_div, kn_nsdm, kn_lt, kn_eq, kn_pred, kn_m1, kn_m1', kn_a31, kn_shl, kn_shr, kn_bit, nB_0, nB_1, nB_t, nB_f, Nat.zero_add, Nat.add_zero, Nat.reduceAdd, Nat.reduceMul, Nat.reduceSub, Nat.reducePow]
  have ek : s_sns tp n y = none := by unfold s_sns; rw [if_neg (show ¬ s_isk tp n y 9 = true by rw [g9]; decide), if_neg (show ¬ s_isk tp n y 10 = true by rw [g10]; decide), if_neg (show ¬ s_isk tp n y 3 = true by rw [g3]; decide), if_neg (show ¬ s_isk tp n y 4 = true by rw [g4]; decide), if_neg (show ¬ s_isk tp n y 11 = true by rw [g11]; decide), if_neg (show ¬ s_isk tp n y 1 = true by rw [g1]; decide), if_neg (show ¬ s_isk tp n y 12 = true by rw [g12]; decide)]
  rw [ek, nO_none, if_neg (show ¬ (none : Option Nat).isSome = true by decide)] at hP
  exact jW_s (hP K7 ⟨T7, M7⟩)
end

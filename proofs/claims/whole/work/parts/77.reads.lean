/-! PLAIN LEAN, 43: towns; the class reads a town -/
def s_cap (j : Nat) : Nat := if j = 0 then 9 else if j = 1 then 6 else if j = 2 then 10 else if j = 3 then 8 else if j = 4 then 24 else 6
def s_knd (tp : Nat → Nat) (n : Nat) (y : JTs) : Option Nat := if s_isk tp n y 1 = true then some 0 else if s_isk tp n y 2 = true then some 1 else if s_isk tp n y 3 = true then some 4 else if s_isk tp n y 4 = true then some 5 else if s_isk tp n y 5 = true then some 2 else if s_isk tp n y 6 = true then some 3 else none
/-- a clause but its end -/
def s_cl (tp : Nat → Nat) (n : Nat) (d : Bool) (δ : JTn) (y : JTs) : JTn × JTs := match s_knd tp n y with
  | none => (δ, s_fa 1 (s_nx tp n y).1 (s_wd tp n y))
  | some j => if d = true ∨ s_cap j ≤ δ 0 j then (δ, s_fa 3 (s_nx tp n y).1 (s_wd tp n y)) else (s_add δ j (s_rdk tp n δ j (s_wd tp n y)).1, (s_rdk tp n δ j (s_wd tp n y)).2)
/-- clauses -/
def s_tw (tp : Nat → Nat) (n : Nat) : Nat → Nat → JTn × JTs → JTn × JTs
  | 0, _, z => z
  | f + 1, k, z => if s_nc tp n z.2 = none then (z.1, s_nx tp n z.2) else s_tw tp n f (k + 1) ((s_cl tp n (decide (60 ≤ k)) z.1 (s_nx tp n z.2)).1, s_nd tp n 59 (s_cl tp n (decide (60 ≤ k)) z.1 (s_nx tp n z.2)).2)
def s_town (tp : Nat → Nat) (n : Nat) : JTn × JTs := s_tw tp n 61 0 (fun _ _ => 0, (0, 0, 0))
def jTD (δ : JTn) : Prop := ∀ j, j < 6 → δ 0 j ≤ s_cap j
section
variable {t u l m b c : Nat} {h : LH} {I J K : Nat → Nat → Int32} {δ : JTn} {tp : Nat → Nat} {n j : Nat} {y : JTs} {x : Int32} {v : Nat → Nat} {d : Bool}
theorem s_cl_n (e : s_knd tp n y = none) : s_cl tp n d δ y = (δ, s_fa 1 (s_nx tp n y).1 (s_wd tp n y)) := by unfold s_cl; rw [e]
theorem s_cl_f (e : s_knd tp n y = some j) (hf : d = true ∨ s_cap j ≤ δ 0 j) : s_cl tp n d δ y = (δ, s_fa 3 (s_nx tp n y).1 (s_wd tp n y)) := by unfold s_cl; rw [e]; exact if_pos hf
theorem s_cl_r (e : s_knd tp n y = some j) (hf : ¬ (d = true ∨ s_cap j ≤ δ 0 j)) : s_cl tp n d δ y = (s_add δ j (s_rdk tp n δ j (s_wd tp n y)).1, (s_rdk tp n δ j (s_wd tp n y)).2) := by unfold s_cl; rw [e]; exact if_neg hf
theorem s_knd_lt (e : s_knd tp n y = some j) : j < 6 := by
  unfold s_knd at e
  repeat' split at e
  all_goals first | (cases e; decide) | cases e
theorem jTD_add (hD : jTD δ) (hj : δ 0 j < s_cap j) : jTD (s_add δ j v) := fun i hi => by
  have ea : s_add δ j v 0 i = if i = j then δ 0 j + 1 else δ 0 i := if_pos rfl
  rw [ea]
  split
  · rename_i e; rw [e]; omega
  · exact hD i hi
theorem s_cl_D (hD : jTD δ) : jTD (s_cl tp n d δ y).1 := by
  cases e : s_knd tp n y with
  | none => rw [s_cl_n e]; exact hD
  | some j =>
    by_cases z : d = true ∨ s_cap j ≤ δ 0 j
    · rw [s_cl_f e z]; exact hD
    · rw [s_cl_r e z]; exact jTD_add hD (by omega)
theorem s_nx_wd (hy : jTy n y) : (s_nx tp n y).1 ≤ (s_wd tp n y).1 := by
  obtain ⟨g1, g2⟩ := s_skp_ge (c := c_bl) (tp := tp) hy.1
  obtain ⟨g3, g4⟩ := s_skp_ge (c := c_sm) (tp := tp) g2
  unfold s_nx s_wd s_p1
  split
  · exact g3
  · exact Nat.le_refl _
theorem c_readClause (hL : jLay t u l m b c h) (ht : u = 69 ∨ u = 183) (hS : jStr h J) (hT : jTX J tp n y) (hC : jCD J u δ) (hD : jTD δ) : ∃ K, F_Town_readClause u 65 (nB d) (jz_I h J) = some (jz_I h K) ∧ jTX K tp n (s_cl tp n d δ y).2 ∧ jCD K u (s_cl tp n d δ y).1 ∧ jTu u J K := by
  have hu : 66 < u := by omega
  refine jE_n (fun P hP => ?_)
  unfold F_Town_readClause
  simp (disch := omega) only [↓dR_64_0 hL, ↓dK_65 hL, ↓dG_65 hL, ↓dP_65 hL, ↓reduceIte, ↓kq_bi, ↓kq_let, ↓kq_rz0, ↓kq_rz1, ↓kq_rzB, ↓Option.bind_some, kq_dvn, kt_lt, kf_lt, kt_eq, kf_eq, decide_true, decide_false, eq_self, Bool.false_eq_true, Bool.true_eq_false, not_true_eq_false, not_false_eq_true, jU_eq, jU_ne, jU_U, jV_eq, jV_ne, jV_V, kn_lit, kn_add, kn_mul, kn_sdm, kn_sub, kn_div, kn_nsdm, kn_lt, kn_eq, kn_pred, kn_m1, kn_m1', kn_a31, kn_shl, kn_shr, kn_bit, nB_0, nB_1, nB_t, nB_f, Nat.zero_add, Nat.add_zero, Nat.reduceAdd, Nat.reduceMul, Nat.reduceSub, Nat.reducePow]
  refine jW_bn (c_word hL hT) (fun K hK => ?_)
  obtain ⟨k1, k6, kM⟩ := hK
  have kC := jCD_T1 hC (by omega) kM
  have kS := jStr_T1 hS kM
  have hw := s_nx_wd (tp := tp) hT.2.1
  have hwn : (s_nx tp n y).1 ≤ n := (s_nx_y hT.2.1).1
  have h9 : δ 0 0 ≤ 9 := hD 0 (by omega)
  have i1 := c_isWord hL kS k1 (k := 1) (by omega) (by omega) k6 hw
  rw [s_isw_isk] at i1
  have i2 := c_isWord hL kS k1 (k := 2) (by omega) (by omega) k6 hw
  rw [s_isw_isk] at i2
  have i3 := c_isWord hL kS k1 (k := 3) (by omega) (by omega) k6 hw
  rw [s_isw_isk] at i3
  have i4 := c_isWord hL kS k1 (k := 4) (by omega) (by omega) k6 hw
  rw [s_isw_isk] at i4
  have i5 := c_isWord hL kS k1 (k := 5) (by omega) (by omega) k6 hw
  rw [s_isw_isk] at i5
  have i6 := c_isWord hL kS k1 (k := 6) (by omega) (by omega) k6 hw
  rw [s_isw_isk] at i6
  cases g1 : s_isk tp n y 1
  case true =>
    have ek : s_knd tp n y = some 0 := by unfold s_knd; rw [if_pos g1]
    have cj : K u 0 = nI (δ 0 0) := kC.1 0 (by omega)
    have cD : δ 0 0 ≤ 9 := hD 0 (by omega)
    rw [g1] at i1
    cases d
    · by_cases z : δ 0 0 < 9
      · rw [s_cl_r ek (fun a => by rcases a with a | a; cases a; have a : 9 ≤ δ 0 0 := a; omega)] at hP
        simp (disch := omega) only [i1, cj, F_Town_readClause_b33, ↓dR_64_0 hL, ↓dK_65 hL, ↓dG_65 hL, ↓dP_65 hL, ↓dK_T hL ht, ↓dG_T hL ht, ↓dP_T hL ht, ↓reduceIte, ↓kq_bi, ↓kq_let, ↓kq_rz0, ↓kq_rz1, ↓kq_rzB, ↓Option.bind_some, kq_dvn, kt_lt, kf_lt, kt_eq, kf_eq, decide_true, decide_false, eq_self, Bool.false_eq_true, Bool.true_eq_false, not_true_eq_false, not_false_eq_true, jU_eq, jU_ne, jU_U, jV_eq, jV_ne, jV_V, kn_lit, kn_add, kn_mul, kn_sdm, kn_sub, kn_div, kn_nsdm, kn_lt, kn_eq, kn_pred, kn_m1, kn_m1', kn_a31, kn_shl, kn_shr, kn_bit, nB_0, nB_1, nB_t, nB_f, Nat.zero_add, Nat.add_zero, Nat.reduceAdd, Nat.reduceMul, Nat.reduceSub, Nat.reducePow]
        refine jW_bn (c_readGate hL ht k1 kC z) (fun L hL' => ?_)
        exact jW_s (hP L ⟨hL'.1, hL'.2.1, jTu_trans (jTu_T1 kM) hL'.2.2⟩)
      · rw [s_cl_f ek (Or.inr (show 9 ≤ δ 0 0 by omega))] at hP
        simp (disch := omega) only [i1, cj, F_Town_readClause_b28, F_Town_readClause_b33, ↓dR_64_0 hL, ↓dK_65 hL, ↓dG_65 hL, ↓dP_65 hL, ↓dK_T hL ht, ↓dG_T hL ht, ↓dP_T hL ht, ↓reduceIte, ↓kq_bi, ↓kq_let, ↓kq_rz0, ↓kq_rz1, ↓kq_rzB, ↓Option.bind_some, kq_dvn, kt_lt, kf_lt, kt_eq, kf_eq, decide_true, decide_false, eq_self, Bool.false_eq_true, Bool.true_eq_false, not_true_eq_false, not_false_eq_true, jU_eq, jU_ne, jU_U, jV_eq, jV_ne, jV_V, kn_lit, kn_add, kn_mul, kn_sdm, kn_sub, kn_div, kn_nsdm, kn_lt, kn_eq, kn_pred, kn_m1, kn_m1', kn_a31, kn_shl, kn_shr, kn_bit, nB_0, nB_1, nB_t, nB_f, Nat.zero_add, Nat.add_zero, Nat.reduceAdd, Nat.reduceMul, Nat.reduceSub, Nat.reducePow]
        refine jW_bn (c_readGateF hL k1 hwn k6) (fun L hL' => ?_)
        exact jW_s (hP L ⟨hL'.1, jCD_T1 kC (by omega) hL'.2, jTu_T1 (jT1_trans kM hL'.2)⟩)
    · rw [s_cl_f ek (Or.inl rfl)] at hP
      simp (disch := omega) only [i1, F_Town_readClause_b28, F_Town_readClause_b33, ↓dR_64_0 hL, ↓dK_65 hL, ↓dG_65 hL, ↓dP_65 hL, ↓dK_T hL ht, ↓dG_T hL ht, ↓dP_T hL ht, ↓reduceIte, ↓kq_bi, ↓kq_let, ↓kq_rz0, ↓kq_rz1, ↓kq_rzB, ↓Option.bind_some, kq_dvn, kt_lt, kf_lt, kt_eq, kf_eq, decide_true, decide_false, eq_self, Bool.false_eq_true, Bool.true_eq_false, not_true_eq_false, not_false_eq_true, jU_eq, jU_ne, jU_U, jV_eq, jV_ne, jV_V, kn_lit, kn_add, kn_mul, kn_sdm, kn_sub, kn_div, kn_nsdm, kn_lt, kn_eq, kn_pred, kn_m1, kn_m1', kn_a31, kn_shl, kn_shr, kn_bit, nB_0, nB_1, nB_t, nB_f, Nat.zero_add, Nat.add_zero, Nat.reduceAdd, Nat.reduceMul, Nat.reduceSub, Nat.reducePow]
      refine jW_bn (c_readGateF hL k1 hwn k6) (fun L hL' => ?_)
      exact jW_s (hP L ⟨hL'.1, jCD_T1 kC (by omega) hL'.2, jTu_T1 (jT1_trans kM hL'.2)⟩)
  rw [g1] at i1
  cases g2 : s_isk tp n y 2
  case true =>
    have ek : s_knd tp n y = some 1 := by unfold s_knd; rw [if_neg (show ¬ s_isk tp n y 1 = true by rw [g1]; decide), if_pos g2]
    have cj : K u 1 = nI (δ 0 1) := kC.1 1 (by omega)
    have cD : δ 0 1 ≤ 6 := hD 1 (by omega)
    rw [g2] at i2
    cases d
    · by_cases z : δ 0 1 < 6
      · rw [s_cl_r ek (fun a => by rcases a with a | a; cases a; have a : 6 ≤ δ 0 1 := a; omega)] at hP
        simp (disch := omega) only [i1, i2, cj, F_Town_readClause_b68, ↓dR_64_0 hL, ↓dK_65 hL, ↓dG_65 hL, ↓dP_65 hL, ↓dK_T hL ht, ↓dG_T hL ht, ↓dP_T hL ht, ↓reduceIte, ↓kq_bi, ↓kq_let, ↓kq_rz0, ↓kq_rz1, ↓kq_rzB, ↓Option.bind_some, kq_dvn, kt_lt, kf_lt, kt_eq, kf_eq, decide_true, decide_false, eq_self, Bool.false_eq_true, Bool.true_eq_false, not_true_eq_false, not_false_eq_true, jU_eq, jU_ne, jU_U, jV_eq, jV_ne, jV_V, kn_lit, kn_add, kn_mul, kn_sdm, kn_sub, kn_div, kn_nsdm, kn_lt, kn_eq, kn_pred, kn_m1, kn_m1', kn_a31, kn_shl, kn_shr, kn_bit, nB_0, nB_1, nB_t, nB_f, Nat.zero_add, Nat.add_zero, Nat.reduceAdd, Nat.reduceMul, Nat.reduceSub, Nat.reducePow]
        refine jW_bn (c_readWood hL ht k1 kC z) (fun L hL' => ?_)
        exact jW_s (hP L ⟨hL'.1, hL'.2.1, jTu_trans (jTu_T1 kM) hL'.2.2⟩)
      · rw [s_cl_f ek (Or.inr (show 6 ≤ δ 0 1 by omega))] at hP
        simp (disch := omega) only [i1, i2, cj, F_Town_readClause_b63, F_Town_readClause_b68, ↓dR_64_0 hL, ↓dK_65 hL, ↓dG_65 hL, ↓dP_65 hL, ↓dK_T hL ht, ↓dG_T hL ht, ↓dP_T hL ht, ↓reduceIte, ↓kq_bi, ↓kq_let, ↓kq_rz0, ↓kq_rz1, ↓kq_rzB, ↓Option.bind_some, kq_dvn, kt_lt, kf_lt, kt_eq, kf_eq, decide_true, decide_false, eq_self, Bool.false_eq_true, Bool.true_eq_false, not_true_eq_false, not_false_eq_true, jU_eq, jU_ne, jU_U, jV_eq, jV_ne, jV_V, kn_lit, kn_add, kn_mul, kn_sdm, kn_sub, kn_div, kn_nsdm, kn_lt, kn_eq, kn_pred, kn_m1, kn_m1', kn_a31, kn_shl, kn_shr, kn_bit, nB_0, nB_1, nB_t, nB_f, Nat.zero_add, Nat.add_zero, Nat.reduceAdd, Nat.reduceMul, Nat.reduceSub, Nat.reducePow]
        refine jW_bn (c_readWoodF hL k1 hwn k6) (fun L hL' => ?_)
        exact jW_s (hP L ⟨hL'.1, jCD_T1 kC (by omega) hL'.2, jTu_T1 (jT1_trans kM hL'.2)⟩)
    · rw [s_cl_f ek (Or.inl rfl)] at hP
      simp (disch := omega) only [i1, i2, F_Town_readClause_b63, F_Town_readClause_b68, ↓dR_64_0 hL, ↓dK_65 hL, ↓dG_65 hL, ↓dP_65 hL, ↓dK_T hL ht, ↓dG_T hL ht, ↓dP_T hL ht, ↓reduceIte, ↓kq_bi, ↓kq_let, ↓kq_rz0, ↓kq_rz1, ↓kq_rzB, ↓Option.bind_some, kq_dvn, kt_lt, kf_lt, kt_eq, kf_eq, decide_true, decide_false, eq_self, Bool.false_eq_true, Bool.true_eq_false, not_true_eq_false, not_false_eq_true, jU_eq, jU_ne, jU_U, jV_eq, jV_ne, jV_V, kn_lit, kn_add, kn_mul, kn_sdm, kn_sub, kn_div, kn_nsdm, kn_lt, kn_eq, kn_pred, kn_m1, kn_m1', kn_a31, kn_shl, kn_shr, kn_bit, nB_0, nB_1, nB_t, nB_f, Nat.zero_add, Nat.add_zero, Nat.reduceAdd, Nat.reduceMul, Nat.reduceSub, Nat.reducePow]
      refine jW_bn (c_readWoodF hL k1 hwn k6) (fun L hL' => ?_)
      exact jW_s (hP L ⟨hL'.1, jCD_T1 kC (by omega) hL'.2, jTu_T1 (jT1_trans kM hL'.2)⟩)
  rw [g2] at i2
  cases g3 : s_isk tp n y 3
  case true =>
    have ek : s_knd tp n y = some 4 := by unfold s_knd; rw [if_neg (show ¬ s_isk tp n y 1 = true by rw [g1]; decide), if_neg (show ¬ s_isk tp n y 2 = true by rw [g2]; decide), if_pos g3]
    have cj : K u 2 = nI (δ 0 4) := kC.1 4 (by omega)
    have cD : δ 0 4 ≤ 24 := hD 4 (by omega)
    rw [g3] at i3
    cases d
    · by_cases z : δ 0 4 < 24
      · rw [s_cl_r ek (fun a => by rcases a with a | a; cases a; have a : 24 ≤ δ 0 4 := a; omega)] at hP
        simp (disch := omega) only [i1, i2, i3, cj, F_Town_readClause_b103, ↓dR_64_0 hL, ↓dK_65 hL, ↓dG_65 hL, ↓dP_65 hL, ↓dK_T hL ht, ↓dG_T hL ht, ↓dP_T hL ht, ↓reduceIte, ↓kq_bi, ↓kq_let, ↓kq_rz0, ↓kq_rz1, ↓kq_rzB, ↓Option.bind_some, kq_dvn, kt_lt, kf_lt, kt_eq, kf_eq, decide_true, decide_false, eq_self, Bool.false_eq_true, Bool.true_eq_false, not_true_eq_false, not_false_eq_true, jU_eq, jU_ne, jU_U, jV_eq, jV_ne, jV_V, kn_lit, kn_add, kn_mul, kn_sdm, kn_sub, kn_div, kn_nsdm, kn_lt, kn_eq, kn_pred, kn_m1, kn_m1', kn_a31, kn_shl, kn_shr, kn_bit, nB_0, nB_1, nB_t, nB_f, Nat.zero_add, Nat.add_zero, Nat.reduceAdd, Nat.reduceMul, Nat.reduceSub, Nat.reducePow]
        refine jW_bn (c_readWind hL ht k1 kC z) (fun L hL' => ?_)
        exact jW_s (hP L ⟨hL'.1, hL'.2.1, jTu_trans (jTu_T1 kM) hL'.2.2⟩)
      · rw [s_cl_f ek (Or.inr (show 24 ≤ δ 0 4 by omega))] at hP
        simp (disch := omega) only [i1, i2, i3, cj, F_Town_readClause_b98, F_Town_readClause_b103, ↓dR_64_0 hL, ↓dK_65 hL, ↓dG_65 hL, ↓dP_65 hL, ↓dK_T hL ht, ↓dG_T hL ht, ↓dP_T hL ht, ↓reduceIte, ↓kq_bi, ↓kq_let, ↓kq_rz0, ↓kq_rz1, ↓kq_rzB, ↓Option.bind_some, kq_dvn, kt_lt, kf_lt, kt_eq, kf_eq, decide_true, decide_false, eq_self, Bool.false_eq_true, Bool.true_eq_false, not_true_eq_false, not_false_eq_true, jU_eq, jU_ne, jU_U, jV_eq, jV_ne, jV_V, kn_lit, kn_add, kn_mul, kn_sdm, kn_sub, kn_div, kn_nsdm, kn_lt, kn_eq, kn_pred, kn_m1, kn_m1', kn_a31, kn_shl, kn_shr, kn_bit, nB_0, nB_1, nB_t, nB_f, Nat.zero_add, Nat.add_zero, Nat.reduceAdd, Nat.reduceMul, Nat.reduceSub, Nat.reducePow]
        refine jW_bn (c_readWindF hL k1 hwn k6) (fun L hL' => ?_)
        exact jW_s (hP L ⟨hL'.1, jCD_T1 kC (by omega) hL'.2, jTu_T1 (jT1_trans kM hL'.2)⟩)
    · rw [s_cl_f ek (Or.inl rfl)] at hP
      simp (disch := omega) only [i1, i2, i3, F_Town_readClause_b98, F_Town_readClause_b103, ↓dR_64_0 hL, ↓dK_65 hL, ↓dG_65 hL, ↓dP_65 hL, ↓dK_T hL ht, ↓dG_T hL ht, ↓dP_T hL ht, ↓reduceIte, ↓kq_bi, ↓kq_let, ↓kq_rz0, ↓kq_rz1, ↓kq_rzB, ↓Option.bind_some, kq_dvn, kt_lt, kf_lt, kt_eq, kf_eq, decide_true, decide_false, eq_self, Bool.false_eq_true, Bool.true_eq_false, not_true_eq_false, not_false_eq_true, jU_eq, jU_ne, jU_U, jV_eq, jV_ne, jV_V, kn_lit, kn_add, kn_mul, kn_sdm, kn_sub, kn_div, kn_nsdm, kn_lt, kn_eq, kn_pred, kn_m1, kn_m1', kn_a31, kn_shl, kn_shr, kn_bit, nB_0, nB_1, nB_t, nB_f, Nat.zero_add, Nat.add_zero, Nat.reduceAdd, Nat.reduceMul, Nat.reduceSub, Nat.reducePow]
      refine jW_bn (c_readWindF hL k1 hwn k6) (fun L hL' => ?_)
      exact jW_s (hP L ⟨hL'.1, jCD_T1 kC (by omega) hL'.2, jTu_T1 (jT1_trans kM hL'.2)⟩)
  rw [g3] at i3
  cases g4 : s_isk tp n y 4
  case true =>
    have ek : s_knd tp n y = some 5 := by unfold s_knd; rw [if_neg (show ¬ s_isk tp n y 1 = true by rw [g1]; decide), if_neg (show ¬ s_isk tp n y 2 = true by rw [g2]; decide), if_neg (show ¬ s_isk tp n y 3 = true by rw [g3]; decide), if_pos g4]
    have cj : K u 3 = nI (δ 0 5) := kC.1 5 (by omega)
    have cD : δ 0 5 ≤ 6 := hD 5 (by omega)
    rw [g4] at i4
    cases d
    · by_cases z : δ 0 5 < 6
      · rw [s_cl_r ek (fun a => by rcases a with a | a; cases a; have a : 6 ≤ δ 0 5 := a; omega)] at hP
        simp (disch := omega) only [i1, i2, i3, i4, cj, F_Town_readClause_b138, ↓dR_64_0 hL, ↓dK_65 hL, ↓dG_65 hL, ↓dP_65 hL, ↓dK_T hL ht, ↓dG_T hL ht, ↓dP_T hL ht, ↓reduceIte, ↓kq_bi, ↓kq_let, ↓kq_rz0, ↓kq_rz1, ↓kq_rzB, ↓Option.bind_some, kq_dvn, kt_lt, kf_lt, kt_eq, kf_eq, decide_true, decide_false, eq_self, Bool.false_eq_true, Bool.true_eq_false, not_true_eq_false, not_false_eq_true, jU_eq, jU_ne, jU_U, jV_eq, jV_ne, jV_V, kn_lit, kn_add, kn_mul, kn_sdm, kn_sub, kn_div, kn_nsdm, kn_lt, kn_eq, kn_pred, kn_m1, kn_m1', kn_a31, kn_shl, kn_shr, kn_bit, nB_0, nB_1, nB_t, nB_f, Nat.zero_add, Nat.add_zero, Nat.reduceAdd, Nat.reduceMul, Nat.reduceSub, Nat.reducePow]
        refine jW_bn (c_readRain hL ht k1 kC z) (fun L hL' => ?_)
        exact jW_s (hP L ⟨hL'.1, hL'.2.1, jTu_trans (jTu_T1 kM) hL'.2.2⟩)
      · rw [s_cl_f ek (Or.inr (show 6 ≤ δ 0 5 by omega))] at hP
        simp (disch := omega) only [i1, i2, i3, i4, cj, F_Town_readClause_b133, F_Town_readClause_b138, ↓dR_64_0 hL, ↓dK_65 hL, ↓dG_65 hL, ↓dP_65 hL, ↓dK_T hL ht, ↓dG_T hL ht, ↓dP_T hL ht, ↓reduceIte, ↓kq_bi, ↓kq_let, ↓kq_rz0, ↓kq_rz1, ↓kq_rzB, ↓Option.bind_some, kq_dvn, kt_lt, kf_lt, kt_eq, kf_eq, decide_true, decide_false, eq_self, Bool.false_eq_true, Bool.true_eq_false, not_true_eq_false, not_false_eq_true, jU_eq, jU_ne, jU_U, jV_eq, jV_ne, jV_V, kn_lit, kn_add, kn_mul, kn_sdm, kn_sub, kn_div, kn_nsdm, kn_lt, kn_eq, kn_pred, kn_m1, kn_m1', kn_a31, kn_shl, kn_shr, kn_bit, nB_0, nB_1, nB_t, nB_f, Nat.zero_add, Nat.add_zero, Nat.reduceAdd, Nat.reduceMul, Nat.reduceSub, Nat.reducePow]
        refine jW_bn (c_readRainF hL k1 hwn k6) (fun L hL' => ?_)
        exact jW_s (hP L ⟨hL'.1, jCD_T1 kC (by omega) hL'.2, jTu_T1 (jT1_trans kM hL'.2)⟩)
    · rw [s_cl_f ek (Or.inl rfl)] at hP
      simp (disch := omega) only [i1, i2, i3, i4, F_Town_readClause_b133, F_Town_readClause_b138, ↓dR_64_0 hL, ↓dK_65 hL, ↓dG_65 hL, ↓dP_65 hL, ↓dK_T hL ht, ↓dG_T hL ht, ↓dP_T hL ht, ↓reduceIte, ↓kq_bi, ↓kq_let, ↓kq_rz0, ↓kq_rz1, ↓kq_rzB, ↓Option.bind_some, kq_dvn, kt_lt, kf_lt, kt_eq, kf_eq, decide_true, decide_false, eq_self, Bool.false_eq_true, Bool.true_eq_false, not_true_eq_false, not_false_eq_true, jU_eq, jU_ne, jU_U, jV_eq, jV_ne, jV_V, kn_lit, kn_add, kn_mul, kn_sdm, kn_sub, kn_div, kn_nsdm, kn_lt, kn_eq, kn_pred, kn_m1, kn_m1', kn_a31, kn_shl, kn_shr, kn_bit, nB_0, nB_1, nB_t, nB_f, Nat.zero_add, Nat.add_zero, Nat.reduceAdd, Nat.reduceMul, Nat.reduceSub, Nat.reducePow]
      refine jW_bn (c_readRainF hL k1 hwn k6) (fun L hL' => ?_)
      exact jW_s (hP L ⟨hL'.1, jCD_T1 kC (by omega) hL'.2, jTu_T1 (jT1_trans kM hL'.2)⟩)
  rw [g4] at i4
  cases g5 : s_isk tp n y 5
  case true =>
    have ek : s_knd tp n y = some 2 := by unfold s_knd; rw [if_neg (show ¬ s_isk tp n y 1 = true by rw [g1]; decide), if_neg (show ¬ s_isk tp n y 2 = true by rw [g2]; decide), if_neg (show ¬ s_isk tp n y 3 = true by rw [g3]; decide), if_neg (show ¬ s_isk tp n y 4 = true by rw [g4]; decide), if_pos g5]
    have cj : K u 4 = nI (δ 0 2) := kC.1 2 (by omega)
    have cD : δ 0 2 ≤ 10 := hD 2 (by omega)
    rw [g5] at i5
    cases d
    · by_cases z : δ 0 2 < 10
      · rw [s_cl_r ek (fun a => by rcases a with a | a; cases a; have a : 10 ≤ δ 0 2 := a; omega)] at hP
        simp (disch := omega) only [i1, i2, i3, i4, i5, cj, F_Town_readClause_b173, ↓dR_64_0 hL, ↓dK_65 hL, ↓dG_65 hL, ↓dP_65 hL, ↓dK_T hL ht, ↓dG_T hL ht, ↓dP_T hL ht, ↓reduceIte, ↓kq_bi, ↓kq_let, ↓kq_rz0, ↓kq_rz1, ↓kq_rzB, ↓Option.bind_some, kq_dvn, kt_lt, kf_lt, kt_eq, kf_eq, decide_true, decide_false, eq_self, Bool.false_eq_true, Bool.true_eq_false, not_true_eq_false, not_false_eq_true, jU_eq, jU_ne, jU_U, jV_eq, jV_ne, jV_V, kn_lit, kn_add, kn_mul, kn_sdm, kn_sub, kn_div, kn_nsdm, kn_lt, kn_eq, kn_pred, kn_m1, kn_m1', kn_a31, kn_shl, kn_shr, kn_bit, nB_0, nB_1, nB_t, nB_f, Nat.zero_add, Nat.add_zero, Nat.reduceAdd, Nat.reduceMul, Nat.reduceSub, Nat.reducePow]
        refine jW_bn (c_readComer hL ht k1 kC z h9) (fun L hL' => ?_)
        exact jW_s (hP L ⟨hL'.1, hL'.2.1, jTu_trans (jTu_T1 kM) hL'.2.2⟩)
      · rw [s_cl_f ek (Or.inr (show 10 ≤ δ 0 2 by omega))] at hP
        simp (disch := omega) only [i1, i2, i3, i4, i5, cj, F_Town_readClause_b168, F_Town_readClause_b173, ↓dR_64_0 hL, ↓dK_65 hL, ↓dG_65 hL, ↓dP_65 hL, ↓dK_T hL ht, ↓dG_T hL ht, ↓dP_T hL ht, ↓reduceIte, ↓kq_bi, ↓kq_let, ↓kq_rz0, ↓kq_rz1, ↓kq_rzB, ↓Option.bind_some, kq_dvn, kt_lt, kf_lt, kt_eq, kf_eq, decide_true, decide_false, eq_self, Bool.false_eq_true, Bool.true_eq_false, not_true_eq_false, not_false_eq_true, jU_eq, jU_ne, jU_U, jV_eq, jV_ne, jV_V, kn_lit, kn_add, kn_mul, kn_sdm, kn_sub, kn_div, kn_nsdm, kn_lt, kn_eq, kn_pred, kn_m1, kn_m1', kn_a31, kn_shl, kn_shr, kn_bit, nB_0, nB_1, nB_t, nB_f, Nat.zero_add, Nat.add_zero, Nat.reduceAdd, Nat.reduceMul, Nat.reduceSub, Nat.reducePow]
        refine jW_bn (c_readComerF hL k1 hwn k6) (fun L hL' => ?_)
        exact jW_s (hP L ⟨hL'.1, jCD_T1 kC (by omega) hL'.2, jTu_T1 (jT1_trans kM hL'.2)⟩)
    · rw [s_cl_f ek (Or.inl rfl)] at hP
      simp (disch := omega) only [i1, i2, i3, i4, i5, F_Town_readClause_b168, F_Town_readClause_b173, ↓dR_64_0 hL, ↓dK_65 hL, ↓dG_65 hL, ↓dP_65 hL, ↓dK_T hL ht, ↓dG_T hL ht, ↓dP_T hL ht, ↓reduceIte, ↓kq_bi, ↓kq_let, ↓kq_rz0, ↓kq_rz1, ↓kq_rzB, ↓Option.bind_some, kq_dvn, kt_lt, kf_lt, kt_eq, kf_eq, decide_true, decide_false, eq_self, Bool.false_eq_true, Bool.true_eq_false, not_true_eq_false, not_false_eq_true, jU_eq, jU_ne, jU_U, jV_eq, jV_ne, jV_V, kn_lit, kn_add, kn_mul, kn_sdm, kn_sub, kn_div, kn_nsdm, kn_lt, kn_eq, kn_pred, kn_m1, kn_m1', kn_a31, kn_shl, kn_shr, kn_bit, nB_0, nB_1, nB_t, nB_f, Nat.zero_add, Nat.add_zero, Nat.reduceAdd, Nat.reduceMul, Nat.reduceSub, Nat.reducePow]
      refine jW_bn (c_readComerF hL k1 hwn k6) (fun L hL' => ?_)
      exact jW_s (hP L ⟨hL'.1, jCD_T1 kC (by omega) hL'.2, jTu_T1 (jT1_trans kM hL'.2)⟩)
  rw [g5] at i5
  cases g6 : s_isk tp n y 6
  case true =>
    have ek : s_knd tp n y = some 3 := by unfold s_knd; rw [if_neg (show ¬ s_isk tp n y 1 = true by rw [g1]; decide), if_neg (show ¬ s_isk tp n y 2 = true by rw [g2]; decide), if_neg (show ¬ s_isk tp n y 3 = true by rw [g3]; decide), if_neg (show ¬ s_isk tp n y 4 = true by rw [g4]; decide), if_neg (show ¬ s_isk tp n y 5 = true by rw [g5]; decide), if_pos g6]
    have cj : K u 5 = nI (δ 0 3) := kC.1 3 (by omega)
    have cD : δ 0 3 ≤ 8 := hD 3 (by omega)
    rw [g6] at i6
    cases d
    · by_cases z : δ 0 3 < 8
      · rw [s_cl_r ek (fun a => by rcases a with a | a; cases a; have a : 8 ≤ δ 0 3 := a; omega)] at hP
        simp (disch := omega) only [i1, i2, i3, i4, i5, i6, cj, F_Town_readClause_b208, ↓dR_64_0 hL, ↓dK_65 hL, ↓dG_65 hL, ↓dP_65 hL, ↓dK_T hL ht, ↓dG_T hL ht, ↓dP_T hL ht, ↓reduceIte, ↓kq_bi, ↓kq_let, ↓kq_rz0, ↓kq_rz1, ↓kq_rzB, ↓Option.bind_some, kq_dvn, kt_lt, kf_lt, kt_eq, kf_eq, decide_true, decide_false, eq_self, Bool.false_eq_true, Bool.true_eq_false, not_true_eq_false, not_false_eq_true, jU_eq, jU_ne, jU_U, jV_eq, jV_ne, jV_V, kn_lit, kn_add, kn_mul, kn_sdm, kn_sub, kn_div, kn_nsdm, kn_lt, kn_eq, kn_pred, kn_m1, kn_m1', kn_a31, kn_shl, kn_shr, kn_bit, nB_0, nB_1, nB_t, nB_f, Nat.zero_add, Nat.add_zero, Nat.reduceAdd, Nat.reduceMul, Nat.reduceSub, Nat.reducePow]
        refine jW_bn (c_readSignal hL ht k1 kC z) (fun L hL' => ?_)
        exact jW_s (hP L ⟨hL'.1, hL'.2.1, jTu_trans (jTu_T1 kM) hL'.2.2⟩)
      · rw [s_cl_f ek (Or.inr (show 8 ≤ δ 0 3 by omega))] at hP
        simp (disch := omega) only [i1, i2, i3, i4, i5, i6, cj, F_Town_readClause_b203, F_Town_readClause_b208, ↓dR_64_0 hL, ↓dK_65 hL, ↓dG_65 hL, ↓dP_65 hL, ↓dK_T hL ht, ↓dG_T hL ht, ↓dP_T hL ht, ↓reduceIte, ↓kq_bi, ↓kq_let, ↓kq_rz0, ↓kq_rz1, ↓kq_rzB, ↓Option.bind_some, kq_dvn, kt_lt, kf_lt, kt_eq, kf_eq, decide_true, decide_false, eq_self, Bool.false_eq_true, Bool.true_eq_false, not_true_eq_false, not_false_eq_true, jU_eq, jU_ne, jU_U, jV_eq, jV_ne, jV_V, kn_lit, kn_add, kn_mul, kn_sdm, kn_sub, kn_div, kn_nsdm, kn_lt, kn_eq, kn_pred, kn_m1, kn_m1', kn_a31, kn_shl, kn_shr, kn_bit, nB_0, nB_1, nB_t, nB_f, Nat.zero_add, Nat.add_zero, Nat.reduceAdd, Nat.reduceMul, Nat.reduceSub, Nat.reducePow]
        refine jW_bn (c_readSignalF hL k1 hwn k6) (fun L hL' => ?_)
        exact jW_s (hP L ⟨hL'.1, jCD_T1 kC (by omega) hL'.2, jTu_T1 (jT1_trans kM hL'.2)⟩)
    · rw [s_cl_f ek (Or.inl rfl)] at hP
      simp (disch := omega) only [i1, i2, i3, i4, i5, i6, F_Town_readClause_b203, F_Town_readClause_b208, ↓dR_64_0 hL, ↓dK_65 hL, ↓dG_65 hL, ↓dP_65 hL, ↓dK_T hL ht, ↓dG_T hL ht, ↓dP_T hL ht, ↓reduceIte, ↓kq_bi, ↓kq_let, ↓kq_rz0, ↓kq_rz1, ↓kq_rzB, ↓Option.bind_some, kq_dvn, kt_lt, kf_lt, kt_eq, kf_eq, decide_true, decide_false, eq_self, Bool.false_eq_true, Bool.true_eq_false, not_true_eq_false, not_false_eq_true, jU_eq, jU_ne, jU_U, jV_eq, jV_ne, jV_V, kn_lit, kn_add, kn_mul, kn_sdm, kn_sub, kn_div, kn_nsdm, kn_lt, kn_eq, kn_pred, kn_m1, kn_m1', kn_a31, kn_shl, kn_shr, kn_bit, nB_0, nB_1, nB_t, nB_f, Nat.zero_add, Nat.add_zero, Nat.reduceAdd, Nat.reduceMul, Nat.reduceSub, Nat.reducePow]
      refine jW_bn (c_readSignalF hL k1 hwn k6) (fun L hL' => ?_)
      exact jW_s (hP L ⟨hL'.1, jCD_T1 kC (by omega) hL'.2, jTu_T1 (jT1_trans kM hL'.2)⟩)
  rw [g6] at i6
  have ek : s_knd tp n y = none := by unfold s_knd; rw [if_neg (show ¬ s_isk tp n y 1 = true by rw [g1]; decide), if_neg (show ¬ s_isk tp n y 2 = true by rw [g2]; decide), if_neg (show ¬ s_isk tp n y 3 = true by rw [g3]; decide), if_neg (show ¬ s_isk tp n y 4 = true by rw [g4]; decide), if_neg (show ¬ s_isk tp n y 5 = true by rw [g5]; decide), if_neg (show ¬ s_isk tp n y 6 = true by rw [g6]; decide)]
  rw [s_cl_n ek] at hP
  simp (disch := omega) only [i1, i2, i3, i4, i5, i6, ↓dR_64_0 hL, ↓dK_65 hL, ↓dG_65 hL, ↓dP_65 hL, ↓dK_T hL ht, ↓dG_T hL ht, ↓dP_T hL ht, ↓reduceIte, ↓kq_bi, ↓kq_let, ↓kq_rz0, ↓kq_rz1, ↓kq_rzB, ↓Option.bind_some, kq_dvn, kt_lt, kf_lt, kt_eq, kf_eq, decide_true, decide_false, eq_self, Bool.false_eq_true, Bool.true_eq_false, not_true_eq_false, not_false_eq_true, jU_eq, jU_ne, jU_U, jV_eq, jV_ne, jV_V, kn_lit, kn_add, kn_mul, kn_sdm, kn_sub, kn_div, kn_nsdm, kn_lt, kn_eq, kn_pred, kn_m1, kn_m1', kn_a31, kn_shl, kn_shr, kn_bit, nB_0, nB_1, nB_t, nB_f, Nat.zero_add, Nat.add_zero, Nat.reduceAdd, Nat.reduceMul, Nat.reduceSub, Nat.reducePow]
  refine jW_bn (c_fail hL k1 (show 1 ≤ 1 by omega) (by omega) hwn k6) (fun L hL' => ?_)
  exact jW_s (hP L ⟨hL'.1, jCD_T1 kC (by omega) hL'.2.2, jTu_T1 (jT1_trans kM hL'.2.2)⟩)
theorem jCD_Tu (hS : jStr h J) (hu : 66 < u) (h1 : jTu u J K) : jStr h K := jStr_eq hS (fun a ha => h1.2 a (by omega) (by omega))
theorem c_readFrom (hL : jLay t u l m b c h) (ht : u = 69 ∨ u = 183) (hS : jStr h J) (hT : jTX J tp n (0, 0, 0)) : ∃ K, F_Town_readFrom u 65 (jz_I h J) = some (jz_I h K) ∧ jTX K tp n (s_town tp n).2 ∧ jCD K u (s_town tp n).1 ∧ jTD (s_town tp n).1 ∧ jTu u J K := by
  have hu : 66 < u := by omega
  refine jE_n (fun P hP => ?_)
  unfold F_Town_readFrom
  simp (disch := omega) only [↓dR_64_0 hL, ↓dK_65 hL, ↓dG_65 hL, ↓dP_65 hL, ↓dK_T hL ht, ↓dG_T hL ht, ↓dP_T hL ht, ↓reduceIte, ↓kq_bi, ↓kq_let, ↓kq_rz0, ↓kq_rz1, ↓kq_rzB, ↓Option.bind_some, kq_dvn, kt_lt, kf_lt, kt_eq, kf_eq, decide_true, decide_false, eq_self, Bool.false_eq_true, Bool.true_eq_false, not_true_eq_false, not_false_eq_true, jU_eq, jU_ne, jU_U, jV_eq, jV_ne, jV_V, kn_lit, kn_add, kn_mul, kn_sdm, kn_sub, kn_div, kn_nsdm, kn_lt, kn_eq, kn_pred, kn_m1, kn_m1', kn_a31, kn_shl, kn_shr, kn_bit, nB_0, nB_1, nB_t, nB_f, Nat.zero_add, Nat.add_zero, Nat.reduceAdd, Nat.reduceMul, Nat.reduceSub, Nat.reducePow]
  have hU := jTu_U (J := J) (u := u) (a := u) (by omega) (by omega) (by omega) (f := jV (jV (jV (jV (jV (jV (J u) 0 (nI 0)) 1 (nI 0)) 2 (nI 0)) 3 (nI 0)) 4 (nI 0)) 5 (nI 0))
  have hX := jTX_U hT (u := u) (by omega) (f := jV (jV (jV (jV (jV (jV (J u) 0 (nI 0)) 1 (nI 0)) 2 (nI 0)) 3 (nI 0)) 4 (nI 0)) 5 (nI 0))
  have hC : jCD (jU J u (jV (jV (jV (jV (jV (jV (J u) 0 (nI 0)) 1 (nI 0)) 2 (nI 0)) 3 (nI 0)) 4 (nI 0)) 5 (nI 0))) u (fun _ _ => 0) := by
    refine ⟨fun i hi => ?_, fun c k _ _ a => absurd a (Nat.not_lt_zero k)⟩
    rw [jU_eq]
    rcases (show i = 0 ∨ i = 1 ∨ i = 2 ∨ i = 3 ∨ i = 4 ∨ i = 5 by omega) with rfl | rfl | rfl | rfl | rfl | rfl <;> rfl
  generalize jU J u (jV (jV (jV (jV (jV (jV (J u) 0 (nI 0)) 1 (nI 0)) 2 (nI 0)) 3 (nI 0)) 4 (nI 0)) 5 (nI 0)) = J1 at hU hX hC
  refine jW_for0 (A := (Nat → Nat → Int32) × JTn × JTs) (f := fun fuel k s => F_Town_readFrom_l32 fuel u 65 (nI k) (jz_I h s.1)) 61 (fun k s => jTX s.1 tp n s.2.2 ∧ jCD s.1 u s.2.1 ∧ jTD s.2.1 ∧ jTu u J s.1 ∧ s_tw tp n (61 - k) k s.2 = s_town tp n) (J1, fun _ _ => 0, (0, 0, 0)) ⟨hX, hC, fun _ _ => Nat.zero_le _, hU, rfl⟩ (by omega) (fun F k s hk hV ih => ?_) (fun F s hV => ?_)
  · obtain ⟨v1, v2, v3, v4, v5⟩ := hV
    obtain ⟨J2, δ, y⟩ := s
    show jW (F_Town_readFrom_c32 (F_Town_readFrom_l32 F) u 65 (nI k) (jz_I h J2)) P
    have v1 : jTX J2 tp n y := v1
    have v2 : jCD J2 u δ := v2
    have v3 : jTD δ := v3
    have v4 : jTu u J J2 := v4
    rw [show 61 - k = (60 - k) + 1 by omega] at v5
    have v5 : (if s_nc tp n y = none then (δ, s_nx tp n y) else s_tw tp n (60 - k) (k + 1) ((s_cl tp n (decide (60 ≤ k)) δ (s_nx tp n y)).1, s_nd tp n 59 (s_cl tp n (decide (60 ≤ k)) δ (s_nx tp n y)).2)) = s_town tp n := v5
    have h256 := v1.2.2.2
    unfold F_Town_readFrom_c32
    simp (disch := omega) only [↓dR_64_0 hL, ↓dK_65 hL, ↓dG_65 hL, ↓dP_65 hL, ↓reduceIte, ↓kq_bi, ↓kq_let, ↓kq_rz0, ↓kq_rz1, ↓kq_rzB, ↓Option.bind_some, kq_dvn, kt_lt, kf_lt, kt_eq, kf_eq, decide_true, decide_false, eq_self, Bool.false_eq_true, Bool.true_eq_false, not_true_eq_false, not_false_eq_true, jU_eq, jU_ne, jU_U, jV_eq, jV_ne, jV_V, kn_lit, kn_add, kn_mul, kn_sdm, kn_sub, kn_div, kn_nsdm, kn_lt, kn_eq, kn_pred, kn_m1, kn_m1', kn_a31, kn_shl, kn_shr, kn_bit, nB_0, nB_1, nB_t, nB_f, Nat.zero_add, Nat.add_zero, Nat.reduceAdd, Nat.reduceMul, Nat.reduceSub, Nat.reducePow]
    refine jW_bi (c_next hL v1) (fun K hK => ?_)
    obtain ⟨k1, -, kM⟩ := hK
    have kC := jCD_T1 v2 (by omega) kM
    cases hc : s_nc tp n y with
    | none =>
      rw [if_pos hc] at v5
      rw [← v5] at hP
      simp (disch := omega) only [nO_none, F_Town_readFrom_b74, ↓reduceIte, ↓kq_bi, ↓kq_let, ↓kq_rz0, ↓kq_rz1, ↓kq_rzB, ↓Option.bind_some, kq_dvn, kt_lt, kf_lt, kt_eq, kf_eq, decide_true, decide_false, eq_self, Bool.false_eq_true, Bool.true_eq_false, not_true_eq_false, not_false_eq_true, jU_eq, jU_ne, jU_U, jV_eq, jV_ne, jV_V, kn_lit, kn_add, kn_mul, kn_sdm, kn_sub, kn_div, kn_nsdm, kn_lt, kn_eq, kn_pred, kn_m1, kn_m1', kn_a31, kn_shl, kn_shr, kn_bit, nB_0, nB_1, nB_t, nB_f, Nat.zero_add, Nat.add_zero, Nat.reduceAdd, Nat.reduceMul, Nat.reduceSub, Nat.reducePow]
      exact jW_s (hP K ⟨k1, kC, v3, jTu_trans v4 (jTu_T1 kM)⟩)
    | some w =>
      have hw := s_nc_lt h256 hc
      rw [if_neg (show ¬ s_nc tp n y = none by rw [hc]; intro a; cases a)] at v5
      have kS := jCD_Tu hS hu (jTu_trans v4 (jTu_T1 kM))
      have fin : ∀ L, jTX L tp n (s_cl tp n (decide (60 ≤ k)) δ (s_nx tp n y)).2 ∧ jCD L u (s_cl tp n (decide (60 ≤ k)) δ (s_nx tp n y)).1 ∧ jTu u K L → jW ((F_Text_need 65 (nI 59) (jz_I h L)).bind fun h2 => F_Town_readFrom_l32 F u 65 (nI (k + 1)) h2) P := fun L hL' => by
        refine jW_bn (c_need hL hL'.1 (by omega)) (fun L2 hL2 => ?_)
        exact ih (L2, (s_cl tp n (decide (60 ≤ k)) δ (s_nx tp n y)).1, s_nd tp n 59 (s_cl tp n (decide (60 ≤ k)) δ (s_nx tp n y)).2) ⟨hL2.1, jCD_T1 hL'.2.1 (by omega) hL2.2, s_cl_D v3, jTu_trans v4 (jTu_trans (jTu_T1 kM) (jTu_trans hL'.2.2 (jTu_T1 hL2.2))), by rw [show 61 - (k + 1) = 60 - k by omega]; exact v5⟩
      by_cases z : k < 60
      · have hcl := c_readClause (d := false) hL ht kS k1 kC v3
        rw [show decide (60 ≤ k) = false from decide_eq_false (by omega)] at fin
        rw [nB_f] at hcl
        simp (disch := omega) only [nO_some, F_Town_readFrom_b59, ↓dR_64_0 hL, ↓dK_65 hL, ↓dG_65 hL, ↓dP_65 hL, ↓dK_T hL ht, ↓dG_T hL ht, ↓dP_T hL ht, ↓reduceIte, ↓kq_bi, ↓kq_let, ↓kq_rz0, ↓kq_rz1, ↓kq_rzB, ↓Option.bind_some, kq_dvn, kt_lt, kf_lt, kt_eq, kf_eq, decide_true, decide_false, eq_self, Bool.false_eq_true, Bool.true_eq_false, not_true_eq_false, not_false_eq_true, jU_eq, jU_ne, jU_U, jV_eq, jV_ne, jV_V, kn_lit, kn_add, kn_mul, kn_sdm, kn_sub, kn_div, kn_nsdm, kn_lt, kn_eq, kn_pred, kn_m1, kn_m1', kn_a31, kn_shl, kn_shr, kn_bit, nB_0, nB_1, nB_t, nB_f, Nat.zero_add, Nat.add_zero, Nat.reduceAdd, Nat.reduceMul, Nat.reduceSub, Nat.reducePow]
        refine jW_bn hcl (fun L hL' => ?_)
        simp (disch := omega) only [↓dR_64_0 hL, ↓dK_65 hL, ↓dG_65 hL, ↓dP_65 hL, ↓reduceIte, ↓kq_bi, ↓kq_let, ↓kq_rz0, ↓kq_rz1, ↓kq_rzB, ↓Option.bind_some, kq_dvn, kt_lt, kf_lt, kt_eq, kf_eq, decide_true, decide_false, eq_self, Bool.false_eq_true, Bool.true_eq_false, not_true_eq_false, not_false_eq_true, jU_eq, jU_ne, jU_U, jV_eq, jV_ne, jV_V, kn_lit, kn_add, kn_mul, kn_sdm, kn_sub, kn_div, kn_nsdm, kn_lt, kn_eq, kn_pred, kn_m1, kn_m1', kn_a31, kn_shl, kn_shr, kn_bit, nB_0, nB_1, nB_t, nB_f, Nat.zero_add, Nat.add_zero, Nat.reduceAdd, Nat.reduceMul, Nat.reduceSub, Nat.reducePow]
        exact fin L hL'
      · have hcl := c_readClause (d := true) hL ht kS k1 kC v3
        rw [show decide (60 ≤ k) = true from decide_eq_true (by omega)] at fin
        rw [nB_t] at hcl
        simp (disch := omega) only [nO_some, F_Town_readFrom_b59, ↓dR_64_0 hL, ↓dK_65 hL, ↓dG_65 hL, ↓dP_65 hL, ↓dK_T hL ht, ↓dG_T hL ht, ↓dP_T hL ht, ↓reduceIte, ↓kq_bi, ↓kq_let, ↓kq_rz0, ↓kq_rz1, ↓kq_rzB, ↓Option.bind_some, kq_dvn, kt_lt, kf_lt, kt_eq, kf_eq, decide_true, decide_false, eq_self, Bool.false_eq_true, Bool.true_eq_false, not_true_eq_false, not_false_eq_true, jU_eq, jU_ne, jU_U, jV_eq, jV_ne, jV_V, kn_lit, kn_add, kn_mul, kn_sdm, kn_sub, kn_div, kn_nsdm, kn_lt, kn_eq, kn_pred, kn_m1, kn_m1', kn_a31, kn_shl, kn_shr, kn_bit, nB_0, nB_1, nB_t, nB_f, Nat.zero_add, Nat.add_zero, Nat.reduceAdd, Nat.reduceMul, Nat.reduceSub, Nat.reducePow]
        refine jW_bn hcl (fun L hL' => ?_)
        simp (disch := omega) only [↓dR_64_0 hL, ↓dK_65 hL, ↓dG_65 hL, ↓dP_65 hL, ↓reduceIte, ↓kq_bi, ↓kq_let, ↓kq_rz0, ↓kq_rz1, ↓kq_rzB, ↓Option.bind_some, kq_dvn, kt_lt, kf_lt, kt_eq, kf_eq, decide_true, decide_false, eq_self, Bool.false_eq_true, Bool.true_eq_false, not_true_eq_false, not_false_eq_true, jU_eq, jU_ne, jU_U, jV_eq, jV_ne, jV_V, kn_lit, kn_add, kn_mul, kn_sdm, kn_sub, kn_div, kn_nsdm, kn_lt, kn_eq, kn_pred, kn_m1, kn_m1', kn_a31, kn_shl, kn_shr, kn_bit, nB_0, nB_1, nB_t, nB_f, Nat.zero_add, Nat.add_zero, Nat.reduceAdd, Nat.reduceMul, Nat.reduceSub, Nat.reducePow]
        exact fin L hL'
  · obtain ⟨v1, v2, v3, v4, v5⟩ := hV
    have v5 : s.2 = s_town tp n := v5
    rw [← v5] at hP
    show jW (F_Town_readFrom_c32 (F_Town_readFrom_l32 F) u 65 (nI 61) (jz_I h s.1)) P
    unfold F_Town_readFrom_c32
    simp (disch := omega) only [F_Town_readFrom_b74, ↓dR_64_0 hL, ↓dK_65 hL, ↓dG_65 hL, ↓dP_65 hL, ↓reduceIte, ↓kq_bi, ↓kq_let, ↓kq_rz0, ↓kq_rz1, ↓kq_rzB, ↓Option.bind_some, kq_dvn, kt_lt, kf_lt, kt_eq, kf_eq, decide_true, decide_false, eq_self, Bool.false_eq_true, Bool.true_eq_false, not_true_eq_false, not_false_eq_true, jU_eq, jU_ne, jU_U, jV_eq, jV_ne, jV_V, kn_lit, kn_add, kn_mul, kn_sdm, kn_sub, kn_div, kn_nsdm, kn_lt, kn_eq, kn_pred, kn_m1, kn_m1', kn_a31, kn_shl, kn_shr, kn_bit, nB_0, nB_1, nB_t, nB_f, Nat.zero_add, Nat.add_zero, Nat.reduceAdd, Nat.reduceMul, Nat.reduceSub, Nat.reducePow]
    exact jW_s (hP s.1 ⟨v1, v2, v3, v4⟩)
end

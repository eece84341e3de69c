/-! PLAIN LEAN: the book, both sides -/
/-- the gates that are in the book, as bits -/
def s_bb (β : JBk) : Nat := s_bits (fun g => (s_sm β.2 g β.1).isSome) 9
theorem s_bb_nt {w v : Nat} {β : JBk} (hw : w < 9) : s_bb (s_nt w v β) = s_bb β ||| 2 ^ w := by
  apply Nat.eq_of_testBit_eq
  intro i
  unfold s_bb
  rw [Nat.testBit_or, s_bits_test, s_bits_test, Nat.testBit_two_pow, show (s_nt w v β).1 = β.1 + 1 from rfl]
  have e : s_sm (s_nt w v β).2 i (β.1 + 1) = if w = i then some v else s_sm β.2 i β.1 := s_sm_nt
  rw [e]
  by_cases z : w = i
  · rw [if_pos z, decide_eq_true z, ← z, decide_eq_true hw, Bool.or_true]; rfl
  · rw [if_neg z, decide_eq_false z, Bool.or_false]
def jBkM (J : Nat → Nat → Int32) (tp : Nat → Nat) (n : Nat) (s : JTs × JBk) : Prop := jTM J tp n s.1 ∧ (s.1.2.1 = 0 → ∀ i j, i < s.2.1 → j < 2 → J (599 + i) j = nI (s.2.2 i j))
def jBF (J K : Nat → Nat → Int32) : Prop := (∀ f, ¬ f = 4 → ¬ f = 5 → ¬ f = 6 → K 205 f = J 205 f) ∧ ∀ a, ¬ a = 205 → ¬ (599 ≤ a ∧ a < 608) → K a = J a
section
variable {t u l m b c : Nat} {h : LH} {I J K : Nat → Nat → Int32} {tp : Nat → Nat} {n q G : Nat} {y z : JTs} {x : Int32} {β : JBk} {τ : JTn}
theorem jBF_trans {L : Nat → Nat → Int32} (h1 : jBF J K) (h2 : jBF K L) : jBF J L := ⟨fun f x1 x2 x3 => (h2.1 f x1 x2 x3).trans (h1.1 f x1 x2 x3), fun a x1 x2 => (h2.2 a x1 x2).trans (h1.2 a x1 x2)⟩
theorem jBF_M1 (h1 : jM1 J K) : jBF J K := ⟨h1.1, fun a x1 _ => h1.2 a x1⟩
theorem jBF_r : jBF J J := ⟨fun _ _ _ _ => rfl, fun _ _ _ => rfl⟩
theorem jBkM_M1 (hJ : jBkM J tp n (y, β)) (hX : jTM K tp n z) (h1 : jM1 J K) (h0 : z.2.1 = 0 → y.2.1 = 0) : jBkM K tp n (z, β) := ⟨hX, fun e i j hi hj => by rw [h1.2 (599 + i) (by omega)]; exact hJ.2 (h0 e) i j hi hj⟩
theorem c_bookR (hL : jLay t u l m b c h) (hq : q = 199 ∨ q = 202) (hT : jCT J t τ) (ho : jTOK τ) (hX : jTX J tp n (0, 0, 0)) : ∃ K, F_Book_readFrom q 65 t (jz_I h J) = some (jz_I h K) ∧ jTX K tp n (s_book tp n (τ 0 0)).1 ∧ ((s_book tp n (τ 0 0)).1.2.1 = 0 → jCB K q (s_book tp n (τ 0 0)).2) ∧ jFC q J K := by
  have ht := jLay_t hL
  refine jE_n (fun P hP => ?_)
  unfold F_Book_readFrom
  rw [dK_B hL hq]
  refine jW_bn (c_clear hL hq (f := fun _ _ => 0)) (fun A hA => ?_)
  obtain ⟨a1, a2⟩ := hA
  have aX : jTX A tp n (0, 0, 0) := by
    obtain ⟨⟨h2, h3, h4, h5⟩, hy, htp, h256⟩ := hX
    exact ⟨⟨by rw [a2 65 (by omega) (by omega)]; exact h2, by rw [a2 65 (by omega) (by omega)]; exact h3, by rw [a2 65 (by omega) (by omega)]; exact h4, by rw [a2 65 (by omega) (by omega)]; exact h5⟩, hy, fun k hk => by rw [a2 66 (by omega) (by omega)]; exact htp k hk, h256⟩
  have aF : jFC q J A := ⟨by rw [a2 65 (by omega) (by omega)], fun a _ x2 x3 => a2 a x2 x3⟩
  refine jW_for0 (A := (Nat → Nat → Int32) × JTs × JBk) (f := fun fuel k s => F_Book_readFrom_l6 fuel q 65 t (nI k) (jz_I h s.1)) 10 (fun k s => jBkC s.1 q tp n s.2 ∧ (s.2.1.2.1 = 0 → jBOK τ s.2.2) ∧ jFC q J s.1 ∧ s_bk tp n (τ 0 0) (10 - k) s.2 = s_book tp n (τ 0 0)) (A, (0, 0, 0), (0, fun _ _ => 0)) ⟨⟨aX, 0, by omega, a1.1, fun _ => ⟨rfl, a1.2⟩⟩, fun _ => ⟨Nat.zero_le _, fun k hk => absurd hk (Nat.not_lt_zero k)⟩, aF, rfl⟩ (by omega) (fun F k s hk hV ih => ?_) (fun F s hV => ?_)
  · obtain ⟨v1, v2, v3, v4⟩ := hV
    obtain ⟨J2, y, β⟩ := s
    show jW (F_Book_readFrom_c6 (F_Book_readFrom_l6 F) q 65 t (nI k) (jz_I h J2)) P
    have v1 : jBkC J2 q tp n (y, β) := v1
    have v2 : y.2.1 = 0 → jBOK τ β := v2
    have v3 : jFC q J J2 := v3
    rw [show 10 - k = (9 - k) + 1 by omega] at v4
    have v4 : (if s_nc tp n y = none then (s_nx tp n y, β) else s_bk tp n (τ 0 0) (9 - k) (s_ln tp n (τ 0 0) β (s_nx tp n y))) = s_book tp n (τ 0 0) := v4
    have h256 := v1.1.2.2.2
    have hy : jTy n y := v1.1.2.1
    unfold F_Book_readFrom_c6
    simp (disch := omega) only [↓dR_64_0 hL, ↓dK_65 hL, ↓dG_65 hL, ↓dP_65 hL, ↓reduceIte, ↓kq_bi, ↓kq_let, ↓kq_rz0, ↓kq_rz1, ↓kq_rzB, ↓Option.bind_some, kq_dvn, kt_lt, kf_lt, kt_eq, kf_eq, decide_true, decide_false, eq_self, Bool.false_eq_true, Bool.true_eq_false, not_true_eq_false, not_false_eq_true, jU_eq, jU_ne, jU_U, jV_eq, jV_ne, jV_V, kn_lit, kn_add, kn_mul, kn_sdm, kn_sub, kn_div, kn_nsdm, kn_lt, kn_eq, kn_pred, kn_m1, kn_m1', kn_a31, kn_shl, kn_shr, kn_bit, nB_0, nB_1, nB_t, nB_f, Nat.zero_add, Nat.add_zero, Nat.reduceAdd, Nat.reduceMul, Nat.reduceSub, Nat.reducePow]
    refine jW_bi (c_next hL v1.1) (fun L hL' => ?_)
    obtain ⟨l1, -, lT⟩ := hL'
    have L1 := jBkC_T1 hq v1 l1 lT (fun e => by rw [s_nx_2] at e; exact e)
    have lF := jFC_trans v3 (jFC_T1 lT)
    cases hc : s_nc tp n y with
    | none =>
      rw [if_pos hc] at v4
      rw [← v4] at hP
      simp (disch := omega) only [nO_none, F_Book_readFrom_b38, ↓reduceIte, ↓kq_bi, ↓kq_let, ↓kq_rz0, ↓kq_rz1, ↓kq_rzB, ↓Option.bind_some, kq_dvn, kt_lt, kf_lt, kt_eq, kf_eq, decide_true, decide_false, eq_self, Bool.false_eq_true, Bool.true_eq_false, not_true_eq_false, not_false_eq_true, jU_eq, jU_ne, jU_U, jV_eq, jV_ne, jV_V, kn_lit, kn_add, kn_mul, kn_sdm, kn_sub, kn_div, kn_nsdm, kn_lt, kn_eq, kn_pred, kn_m1, kn_m1', kn_a31, kn_shl, kn_shr, kn_bit, nB_0, nB_1, nB_t, nB_f, Nat.zero_add, Nat.add_zero, Nat.reduceAdd, Nat.reduceMul, Nat.reduceSub, Nat.reducePow]
      refine jW_s (hP L ⟨l1, fun e => ?_, lF⟩)
      obtain ⟨-, kk, k1, k2, k3⟩ := L1
      obtain ⟨k3, k4⟩ := k3 e
      exact ⟨by rw [k2, k3], k4⟩
    | some w =>
      have hw := s_nc_lt h256 hc
      rw [if_neg (show ¬ s_nc tp n y = none by rw [hc]; intro a; cases a)] at v4
      have lCT : jCT L t τ := jCT_congr (fun i hi => lF.2 _ (by omega) (by omega) (by omega)) hT
      simp (disch := omega) only [nO_some, ↓dK_B hL hq, ↓dR_64_0 hL, ↓dK_65 hL, ↓dG_65 hL, ↓dP_65 hL, ↓reduceIte, ↓kq_bi, ↓kq_let, ↓kq_rz0, ↓kq_rz1, ↓kq_rzB, ↓Option.bind_some, kq_dvn, kt_lt, kf_lt, kt_eq, kf_eq, decide_true, decide_false, eq_self, Bool.false_eq_true, Bool.true_eq_false, not_true_eq_false, not_false_eq_true, jU_eq, jU_ne, jU_U, jV_eq, jV_ne, jV_V, kn_lit, kn_add, kn_mul, kn_sdm, kn_sub, kn_div, kn_nsdm, kn_lt, kn_eq, kn_pred, kn_m1, kn_m1', kn_a31, kn_shl, kn_shr, kn_bit, nB_0, nB_1, nB_t, nB_f, Nat.zero_add, Nat.add_zero, Nat.reduceAdd, Nat.reduceMul, Nat.reduceSub, Nat.reducePow]
      refine jW_bn (c_line hL hq lCT ho (s_nx_id hy) (fun e => v2 (by rw [s_nx_2] at e; exact e)) L1) (fun M hM => ?_)
      obtain ⟨m1, mF⟩ := hM
      simp (disch := omega) only [↓dR_64_0 hL, ↓dK_65 hL, ↓dG_65 hL, ↓dP_65 hL, ↓reduceIte, ↓kq_bi, ↓kq_let, ↓kq_rz0, ↓kq_rz1, ↓kq_rzB, ↓Option.bind_some, kq_dvn, kt_lt, kf_lt, kt_eq, kf_eq, decide_true, decide_false, eq_self, Bool.false_eq_true, Bool.true_eq_false, not_true_eq_false, not_false_eq_true, jU_eq, jU_ne, jU_U, jV_eq, jV_ne, jV_V, kn_lit, kn_add, kn_mul, kn_sdm, kn_sub, kn_div, kn_nsdm, kn_lt, kn_eq, kn_pred, kn_m1, kn_m1', kn_a31, kn_shl, kn_shr, kn_bit, nB_0, nB_1, nB_t, nB_f, Nat.zero_add, Nat.add_zero, Nat.reduceAdd, Nat.reduceMul, Nat.reduceSub, Nat.reducePow]
      refine jW_bn (c_need hL m1.1 (ch := 59) (by omega)) (fun M2 hM2 => ?_)
      have M3 := jBkC_T1 hq m1 hM2.1 hM2.2 (fun e => s_nd_0 e)
      refine ih (M2, s_ln tp n (τ 0 0) β (s_nx tp n y)) ⟨M3, fun e => ?_, jFC_trans lF (jFC_trans mF (jFC_T1 hM2.2)), by rw [show 10 - (k + 1) = 9 - k by omega]; exact v4⟩
      have e4 : (s_ln4 tp n (τ 0 0) β (s_nx tp n y)).1.2.1 = 0 := s_nd_0 e
      have z3 := s_num_ok e4
      obtain ⟨a1, a2, -⟩ := s_ln3_0 z3.1
      obtain ⟨b1, b2, -⟩ := s_ln2_0 a2
      have z1 := s_num_ok b1
      rw [s_nx_2] at z1
      exact s_ln_ok (v2 z1.1) e4
  · obtain ⟨v1, v2, v3, v4⟩ := hV
    have v4 : s.2 = s_book tp n (τ 0 0) := v4
    rw [← v4] at hP
    show jW (F_Book_readFrom_c6 (F_Book_readFrom_l6 F) q 65 t (nI 10) (jz_I h s.1)) P
    unfold F_Book_readFrom_c6
    simp (disch := omega) only [F_Book_readFrom_b38, ↓dR_64_0 hL, ↓dK_65 hL, ↓dG_65 hL, ↓dP_65 hL, ↓reduceIte, ↓kq_bi, ↓kq_let, ↓kq_rz0, ↓kq_rz1, ↓kq_rzB, ↓Option.bind_some, kq_dvn, kt_lt, kf_lt, kt_eq, kf_eq, decide_true, decide_false, eq_self, Bool.false_eq_true, Bool.true_eq_false, not_true_eq_false, not_false_eq_true, jU_eq, jU_ne, jU_U, jV_eq, jV_ne, jV_V, kn_lit, kn_add, kn_mul, kn_sdm, kn_sub, kn_div, kn_nsdm, kn_lt, kn_eq, kn_pred, kn_m1, kn_m1', kn_a31, kn_shl, kn_shr, kn_bit, nB_0, nB_1, nB_t, nB_f, Nat.zero_add, Nat.add_zero, Nat.reduceAdd, Nat.reduceMul, Nat.reduceSub, Nat.reducePow]
    refine jW_s (hP s.1 ⟨v1.1, fun e => ?_, v3⟩)
    obtain ⟨-, kk, k1, k2, k3⟩ := v1
    obtain ⟨k3, k4⟩ := k3 e
    exact ⟨by rw [k2, k3], k4⟩
theorem m_line (hL : jLay t u l m b c h) (hT : jMT J τ) (ho : jTOK τ) (hid : s_nx tp n z = z) (h0 : z.2.1 = 0) (hlt : z.1 < n) (h4 : J 205 4 = nI z.1) (hB : jBOK τ β) (hJ : jBkM J tp n (z, β)) {k48 : Nat → Int32 → Int32 → LH → Option (Int32 × LH)} {P : Int32 × LH → Prop} (hP : ∀ K x1 x2, jBkM K tp n (s_ln tp n (τ 0 0) β z) → ((s_ln tp n (τ 0 0) β z).1.2.1 = 0 → K 205 4 = nI (s_skp c_bl tp n (s_ln tp n (τ 0 0) β z).1.1) ∧ x1 = nI (β.1 + 1) ∧ x2 = nI (s_bb (s_ln tp n (τ 0 0) β z).2)) → jBF J K → jW (k48 205 x1 x2 (jz_I h K)) P) : jW (F_Mod_book_c48 k48 205 (nI β.1) (nI (s_bb β)) (jz_I h J)) P := by
  have o0 : τ 0 0 ≤ 9 := ho.1
  have hz : jTy n z := hJ.1.2.1
  have hzn := hz.2.2.2
  have h5 : J 205 5 = nI z.2.1 := hJ.1.2.2.1.1
  have hs : J 205 2 = nI n := hJ.1.1.1
  have hβ := hB.1
  have hbb : s_bb β < 512 := s_bits_lt _ 9
  rw [h0] at h5
  have b182 : ∀ L x1 x2, jBkM L tp n (s_ln tp n (τ 0 0) β z) → ((s_ln tp n (τ 0 0) β z).1.2.1 = 0 → x1 = nI (β.1 + 1) ∧ x2 = nI (s_bb (s_ln tp n (τ 0 0) β z).2)) → jBF J L → jW (F_Mod_book_b182 k48 205 x1 x2 (jz_I h L)) P := fun L x1 x2 a1 a2 a3 => by
    unfold F_Mod_book_b182
    simp (disch := omega) only [↓dK_205 hL, ↓dG_205 hL, ↓dP_205 hL, ↓dZ_205 hL (x := nI 0) (Or.inl rfl), ↓dZ_205 hL (x := nI 1) (Or.inr rfl), ↓dZ_205 hL (Or.inl rfl), ↓dZ_205 hL (Or.inr rfl), ↓dZ_205 hL (nB_01 _), ↓reduceIte, ↓kq_bi, ↓kq_let, ↓kq_rz0, ↓kq_rz1, ↓kq_rzB, ↓Option.bind_some, kq_dvn, kt_lt, kf_lt, kt_eq, kf_eq, decide_true, decide_false, eq_self, Bool.false_eq_true, Bool.true_eq_false, not_true_eq_false, not_false_eq_true, jU_eq, jU_ne, jU_U, jV_eq, jV_ne, jV_V, kn_lit, kn_add, kn_mul, kn_sdm, kn_sub, kn_div, kn_nsdm, kn_lt, kn_eq, kn_pred, kn_m1, kn_m1', kn_a31, kn_shl, kn_shr, kn_bit, nB_0, nB_1, nB_t, nB_f, Nat.zero_add, Nat.add_zero, Nat.reduceAdd, Nat.reduceMul, Nat.reduceSub, Nat.reducePow]
    refine jW_bn (m_bl2 hL a1.1) (fun M hM => ?_)
    obtain ⟨m1, m4, mM⟩ := hM
    exact hP M x1 x2 (jBkM_M1 a1 m1 mM (fun e => e)) (fun e => ⟨m4 e, a2 e⟩) (jBF_trans a3 (jBF_M1 mM))
  have b130 : ∀ L (g : Nat), jBkM L tp n (s_ln3 tp n (τ 0 0) β z, β) → ((s_ln3 tp n (τ 0 0) β z).2.1 = 0 → g = s_nuv tp n z) → jBF J L → jW (F_Mod_book_b130 k48 205 (nI β.1) (nI (s_bb β)) (nI g) (jz_I h L)) P := fun L g a1 a2 a3 => by
    unfold F_Mod_book_b130
    simp (disch := omega) only [↓dK_205 hL, ↓dG_205 hL, ↓dP_205 hL, ↓dZ_205 hL (x := nI 0) (Or.inl rfl), ↓dZ_205 hL (x := nI 1) (Or.inr rfl), ↓dZ_205 hL (Or.inl rfl), ↓dZ_205 hL (Or.inr rfl), ↓dZ_205 hL (nB_01 _), ↓reduceIte, ↓kq_bi, ↓kq_let, ↓kq_rz0, ↓kq_rz1, ↓kq_rzB, ↓Option.bind_some, kq_dvn, kt_lt, kf_lt, kt_eq, kf_eq, decide_true, decide_false, eq_self, Bool.false_eq_true, Bool.true_eq_false, not_true_eq_false, not_false_eq_true, jU_eq, jU_ne, jU_U, jV_eq, jV_ne, jV_V, kn_lit, kn_add, kn_mul, kn_sdm, kn_sub, kn_div, kn_nsdm, kn_lt, kn_eq, kn_pred, kn_m1, kn_m1', kn_a31, kn_shl, kn_shr, kn_bit, nB_0, nB_1, nB_t, nB_f, Nat.zero_add, Nat.add_zero, Nat.reduceAdd, Nat.reduceMul, Nat.reduceSub, Nat.reducePow]
    refine jW_bi (m_number hL a1.1 (lo := 0) (hi := 32) (by omega) (hH_lit (a := 31) (by omega))) (fun M hM => ?_)
    have M1 := jBkM_M1 a1 hM.1 hM.2 (fun e => (s_num_ok e).1)
    simp (disch := omega) only [↓dK_205 hL, ↓dG_205 hL, ↓dP_205 hL, ↓dZ_205 hL (x := nI 0) (Or.inl rfl), ↓dZ_205 hL (x := nI 1) (Or.inr rfl), ↓dZ_205 hL (Or.inl rfl), ↓dZ_205 hL (Or.inr rfl), ↓dZ_205 hL (nB_01 _), ↓reduceIte, ↓kq_bi, ↓kq_let, ↓kq_rz0, ↓kq_rz1, ↓kq_rzB, ↓Option.bind_some, kq_dvn, kt_lt, kf_lt, kt_eq, kf_eq, decide_true, decide_false, eq_self, Bool.false_eq_true, Bool.true_eq_false, not_true_eq_false, not_false_eq_true, jU_eq, jU_ne, jU_U, jV_eq, jV_ne, jV_V, kn_lit, kn_add, kn_mul, kn_sdm, kn_sub, kn_div, kn_nsdm, kn_lt, kn_eq, kn_pred, kn_m1, kn_m1', kn_a31, kn_shl, kn_shr, kn_bit, nB_0, nB_1, nB_t, nB_f, Nat.zero_add, Nat.add_zero, Nat.reduceAdd, Nat.reduceMul, Nat.reduceSub, Nat.reducePow]
    refine jW_bn (m_sign hL hM.1 (ch := 59) (by omega)) (fun M2 hM2 => ?_)
    have M3 := jBkM_M1 M1 hM2.1 hM2.2 (fun e => s_nd_0 e)
    have m5 : M2 205 5 = nI (s_ln tp n (τ 0 0) β z).1.2.1 := hM2.1.2.2.1.1
    have my : (s_ln tp n (τ 0 0) β z).1.2.1 ≤ 3 := hM2.1.2.1.2.1
    have mF := jBF_trans a3 (jBF_trans (jBF_M1 hM.2) (jBF_M1 hM2.2))
    by_cases e0 : (s_ln tp n (τ 0 0) β z).1.2.1 = 0
    · have e4 : (s_num tp n 0 32 (s_ln3 tp n (τ 0 0) β z)).2.1 = 0 := s_nd_0 e0
      have z3 := s_num_ok e4
      obtain ⟨q1, q2, -⟩ := s_ln3_0 z3.1
      obtain ⟨p1, p2, -⟩ := s_ln2_0 q2
      have z1 := s_num_ok p1
      have eg := a2 z3.1
      have hr := M3.2 e0
      have er : s_nur tp n 0 32 (s_ln3 tp n (τ 0 0) β z) = s_nuv tp n (s_ln3 tp n (τ 0 0) β z) := if_pos e4
      have ebb : s_bb (s_ln tp n (τ 0 0) β z).2 = s_bb β ||| 2 ^ g := by
        show s_bb (s_nt (s_nuv tp n z) (s_nuv tp n (s_ln3 tp n (τ 0 0) β z)) β) = _
        rw [s_bb_nt (by omega), eg]
      have hpw := kn_pow (k := g) (by omega)
      rw [e0] at m5
      rw [er]
      simp (disch := omega) only [m5, kn_or, Nat.one_mul, ↓dK_205 hL, ↓dG_205 hL, ↓dP_205 hL, ↓dZ_205 hL (x := nI 0) (Or.inl rfl), ↓dZ_205 hL (x := nI 1) (Or.inr rfl), ↓dZ_205 hL (Or.inl rfl), ↓dZ_205 hL (Or.inr rfl), ↓dZ_205 hL (nB_01 _), ↓dR_205_30 hL, dA_598 hL, dI_599 hL, dS_599 hL, ↓reduceIte, ↓kq_bi, ↓kq_let, ↓kq_rz0, ↓kq_rz1, ↓kq_rzB, ↓Option.bind_some, kq_dvn, kt_lt, kf_lt, kt_eq, kf_eq, decide_true, decide_false, eq_self, Bool.false_eq_true, Bool.true_eq_false, not_true_eq_false, not_false_eq_true, jU_eq, jU_ne, jU_U, jV_eq, jV_ne, jV_V, kn_lit, kn_add, kn_mul, kn_sdm, kn_sub, kn_div, kn_nsdm, kn_lt, kn_eq, kn_pred, kn_m1, kn_m1', kn_a31, kn_shl, kn_shr, kn_bit, nB_0, nB_1, nB_t, nB_f, Nat.zero_add, Nat.add_zero, Nat.reduceAdd, Nat.reduceMul, Nat.reduceSub, Nat.reducePow]
      refine b182 _ _ _ ⟨jTM_eq hM2.1 (fun f hf => ?_) ?_, fun _ i j hi hj => ?_⟩ (fun _ => ⟨rfl, by rw [ebb]⟩) ⟨fun f f1 f2 f3 => ?_, fun a x1 x2 => ?_⟩
      · simp (disch := omega) only [jU_ne]
      · simp (disch := omega) only [jU_ne]
      · have hi : i < β.1 + 1 := hi
        show _ = nI ((s_nt (s_nuv tp n z) (s_nuv tp n (s_ln3 tp n (τ 0 0) β z)) β).2 i j)
        by_cases e : i = β.1
        · rw [e]
          rcases (show j = 0 ∨ j = 1 by omega) with rfl | rfl
          · rw [s_nt_0]; simp (disch := omega) only [jU_eq, jV_ne, jV_eq]; rw [eg]
          · rw [s_nt_1]; simp (disch := omega) only [jU_eq, jV_eq]
        · rw [s_nt_lo e]; simp (disch := omega) only [jU_ne]; exact hr i j (by show i < β.1; omega) hj
      · simp (disch := omega) only [jU_ne]; exact mF.1 f f1 f2 f3
      · simp (disch := omega) only [jU_ne]; exact mF.2 a x1 x2
    · simp (disch := omega) only [m5, ↓dK_205 hL, ↓dG_205 hL, ↓dP_205 hL, ↓dZ_205 hL (x := nI 0) (Or.inl rfl), ↓dZ_205 hL (x := nI 1) (Or.inr rfl), ↓dZ_205 hL (Or.inl rfl), ↓dZ_205 hL (Or.inr rfl), ↓dZ_205 hL (nB_01 _), ↓reduceIte, ↓kq_bi, ↓kq_let, ↓kq_rz0, ↓kq_rz1, ↓kq_rzB, ↓Option.bind_some, kq_dvn, kt_lt, kf_lt, kt_eq, kf_eq, decide_true, decide_false, eq_self, Bool.false_eq_true, Bool.true_eq_false, not_true_eq_false, not_false_eq_true, jU_eq, jU_ne, jU_U, jV_eq, jV_ne, jV_V, kn_lit, kn_add, kn_mul, kn_sdm, kn_sub, kn_div, kn_nsdm, kn_lt, kn_eq, kn_pred, kn_m1, kn_m1', kn_a31, kn_shl, kn_shr, kn_bit, nB_0, nB_1, nB_t, nB_f, Nat.zero_add, Nat.add_zero, Nat.reduceAdd, Nat.reduceMul, Nat.reduceSub, Nat.reducePow]
      exact b182 M2 _ _ ⟨hM2.1, fun e => absurd e e0⟩ (fun e => absurd e e0) mF
  have b110 : ∀ L (g : Nat), jBkM L tp n (s_ln2 tp n (τ 0 0) β z, β) → ((s_ln2 tp n (τ 0 0) β z).2.1 = 0 → g = s_nuv tp n z) → jBF J L → jW (F_Mod_book_b110 k48 205 (nI β.1) (nI (s_bb β)) (nI z.1) (nI g) (jz_I h L)) P := fun L g a1 a2 a3 => by
    have l5 : L 205 5 = nI (s_ln2 tp n (τ 0 0) β z).2.1 := a1.1.2.2.1.1
    have ly : (s_ln2 tp n (τ 0 0) β z).2.1 ≤ 3 := a1.1.2.1.2.1
    unfold F_Mod_book_b110
    by_cases e0 : (s_ln2 tp n (τ 0 0) β z).2.1 = 0
    · rw [e0] at l5
      by_cases e9 : β.1 = 9
      · have ee : s_ln3 tp n (τ 0 0) β z = s_fa 3 z.1 (s_ln2 tp n (τ 0 0) β z) := if_pos (by omega)
        have e9' : (nI β.1 = nI 9) = True := by rw [e9]; exact eq_true rfl
        simp (disch := omega) only [↓dK_205 hL, ↓dG_205 hL, ↓dP_205 hL, ↓dZ_205 hL (x := nI 0) (Or.inl rfl), ↓dZ_205 hL (x := nI 1) (Or.inr rfl), ↓dZ_205 hL (Or.inl rfl), ↓dZ_205 hL (Or.inr rfl), ↓dZ_205 hL (nB_01 _), kn_lit, l5, e9', ↓reduceIte]
        refine jW_bn (m_wrong hL a1.1 (show 1 ≤ 3 by omega) (by omega) hz.1) (fun M hM => ?_)
        refine b130 M g ?_ (fun e => absurd (by rw [ee] at e; exact e) (s_fa_0 (by omega))) (jBF_trans a3 (jBF_M1 hM.2.2))
        rw [ee]
        exact jBkM_M1 a1 hM.1 hM.2.2 (fun e => absurd e (s_fa_0 (by omega)))
      · have ee : s_ln3 tp n (τ 0 0) β z = s_ln2 tp n (τ 0 0) β z := if_neg (by omega)
        simp (disch := omega) only [l5, ↓dK_205 hL, ↓dG_205 hL, ↓dP_205 hL, ↓dZ_205 hL (x := nI 0) (Or.inl rfl), ↓dZ_205 hL (x := nI 1) (Or.inr rfl), ↓dZ_205 hL (Or.inl rfl), ↓dZ_205 hL (Or.inr rfl), ↓dZ_205 hL (nB_01 _), ↓reduceIte, ↓kq_bi, ↓kq_let, ↓kq_rz0, ↓kq_rz1, ↓kq_rzB, ↓Option.bind_some, kq_dvn, kt_lt, kf_lt, kt_eq, kf_eq, decide_true, decide_false, eq_self, Bool.false_eq_true, Bool.true_eq_false, not_true_eq_false, not_false_eq_true, jU_eq, jU_ne, jU_U, jV_eq, jV_ne, jV_V, kn_lit, kn_add, kn_mul, kn_sdm, kn_sub, kn_div, kn_nsdm, kn_lt, kn_eq, kn_pred, kn_m1, kn_m1', kn_a31, kn_shl, kn_shr, kn_bit, nB_0, nB_1, nB_t, nB_f, Nat.zero_add, Nat.add_zero, Nat.reduceAdd, Nat.reduceMul, Nat.reduceSub, Nat.reducePow]
        exact b130 L g (by rw [ee]; exact a1) (fun e => a2 (by rw [ee] at e; exact e)) a3
    · have ee : s_ln3 tp n (τ 0 0) β z = s_ln2 tp n (τ 0 0) β z := by
        unfold s_ln3
        split
        · exact if_neg e0
        · rfl
      simp (disch := omega) only [l5, ↓dK_205 hL, ↓dG_205 hL, ↓dP_205 hL, ↓dZ_205 hL (x := nI 0) (Or.inl rfl), ↓dZ_205 hL (x := nI 1) (Or.inr rfl), ↓dZ_205 hL (Or.inl rfl), ↓dZ_205 hL (Or.inr rfl), ↓dZ_205 hL (nB_01 _), ↓reduceIte, ↓kq_bi, ↓kq_let, ↓kq_rz0, ↓kq_rz1, ↓kq_rzB, ↓Option.bind_some, kq_dvn, kt_lt, kf_lt, kt_eq, kf_eq, decide_true, decide_false, eq_self, Bool.false_eq_true, Bool.true_eq_false, not_true_eq_false, not_false_eq_true, jU_eq, jU_ne, jU_U, jV_eq, jV_ne, jV_V, kn_lit, kn_add, kn_mul, kn_sdm, kn_sub, kn_div, kn_nsdm, kn_lt, kn_eq, kn_pred, kn_m1, kn_m1', kn_a31, kn_shl, kn_shr, kn_bit, nB_0, nB_1, nB_t, nB_f, Nat.zero_add, Nat.add_zero, Nat.reduceAdd, Nat.reduceMul, Nat.reduceSub, Nat.reducePow]
      exact b130 L g (by rw [ee]; exact a1) (fun e => a2 (by rw [ee] at e; exact e)) a3
  unfold F_Mod_book_c48
  have t0 : J 209 0 = nI (τ 0 0) := hT.1 0 (by omega)
  simp (disch := omega) only [↓dK_205 hL, ↓dG_205 hL, ↓dP_205 hL, ↓dZ_205 hL (x := nI 0) (Or.inl rfl), ↓dZ_205 hL (x := nI 1) (Or.inr rfl), ↓dZ_205 hL (Or.inl rfl), ↓dZ_205 hL (Or.inr rfl), ↓dZ_205 hL (nB_01 _), ↓dR_205_12 hL, dI_209 hL, dS_209 hL, kn_lit, h5, h4, hs, t0, kn_lt, kt_lt, ↓reduceIte]
  refine jW_bi (m_number hL hJ.1 (lo := 0) (hi := τ 0 0) (by omega) (hH_pred (by omega))) (fun M hM => ?_)
  have M1 := jBkM_M1 hJ hM.1 hM.2 (fun e => (s_num_ok e).1)
  have m5 : M 205 5 = nI (s_num tp n 0 (τ 0 0) z).2.1 := hM.1.2.2.1.1
  have my : (s_num tp n 0 (τ 0 0) z).2.1 ≤ 3 := hM.1.2.1.2.1
  by_cases e0 : (s_num tp n 0 (τ 0 0) z).2.1 = 0
  · have z1 := s_num_ok e0
    have er : s_nur tp n 0 (τ 0 0) z = s_nuv tp n z := if_pos e0
    have hh := m_has (v := s_bb β) (k := s_nuv tp n z) (by omega) (by omega) (jz_I h M)
    have hbit : s_bb β / 2 ^ s_nuv tp n z % 2 = if (s_sm β.2 (s_nuv tp n z) β.1).isSome = true then 1 else 0 := s_bits_has _ (by omega)
    rw [e0] at m5
    rw [er]
    cases es : (s_sm β.2 (s_nuv tp n z) β.1).isSome
    · have ee : s_ln2 tp n (τ 0 0) β z = s_num tp n 0 (τ 0 0) z := if_neg (by rw [es]; decide)
      rw [es, if_neg (show ¬ false = true by decide)] at hbit
      rw [hbit] at hh
      have hh : F_Mod_has (nI (s_bb β)) (nI (s_nuv tp n z)) (jz_I h M) = some (nB false, jz_I h M) := hh
      simp (disch := omega) only [m5, hh, ↓dK_205 hL, ↓dG_205 hL, ↓dP_205 hL, ↓dZ_205 hL (x := nI 0) (Or.inl rfl), ↓dZ_205 hL (x := nI 1) (Or.inr rfl), ↓dZ_205 hL (Or.inl rfl), ↓dZ_205 hL (Or.inr rfl), ↓dZ_205 hL (nB_01 _), ↓reduceIte, ↓kq_bi, ↓kq_let, ↓kq_rz0, ↓kq_rz1, ↓kq_rzB, ↓Option.bind_some, kq_dvn, kt_lt, kf_lt, kt_eq, kf_eq, decide_true, decide_false, eq_self, Bool.false_eq_true, Bool.true_eq_false, not_true_eq_false, not_false_eq_true, jU_eq, jU_ne, jU_U, jV_eq, jV_ne, jV_V, kn_lit, kn_add, kn_mul, kn_sdm, kn_sub, kn_div, kn_nsdm, kn_lt, kn_eq, kn_pred, kn_m1, kn_m1', kn_a31, kn_shl, kn_shr, kn_bit, nB_0, nB_1, nB_t, nB_f, Nat.zero_add, Nat.add_zero, Nat.reduceAdd, Nat.reduceMul, Nat.reduceSub, Nat.reducePow]
      exact b110 M _ (by rw [ee]; exact M1) (fun _ => rfl) (jBF_M1 hM.2)
    · have ee : s_ln2 tp n (τ 0 0) β z = s_fa 2 z.1 (s_num tp n 0 (τ 0 0) z) := if_pos es
      rw [es, if_pos (show true = true from rfl)] at hbit
      rw [hbit] at hh
      have hh : F_Mod_has (nI (s_bb β)) (nI (s_nuv tp n z)) (jz_I h M) = some (nB true, jz_I h M) := hh
      simp (disch := omega) only [m5, hh, ↓dK_205 hL, ↓dG_205 hL, ↓dP_205 hL, ↓dZ_205 hL (x := nI 0) (Or.inl rfl), ↓dZ_205 hL (x := nI 1) (Or.inr rfl), ↓dZ_205 hL (Or.inl rfl), ↓dZ_205 hL (Or.inr rfl), ↓dZ_205 hL (nB_01 _), ↓reduceIte, ↓kq_bi, ↓kq_let, ↓kq_rz0, ↓kq_rz1, ↓kq_rzB, ↓Option.bind_some, kq_dvn, kt_lt, kf_lt, kt_eq, kf_eq, decide_true, decide_false, eq_self, Bool.false_eq_true, Bool.true_eq_false, not_true_eq_false, not_false_eq_true, jU_eq, jU_ne, jU_U, jV_eq, jV_ne, jV_V, kn_lit, kn_add, kn_mul, kn_sdm, kn_sub, kn_div, kn_nsdm, kn_lt, kn_eq, kn_pred, kn_m1, kn_m1', kn_a31, kn_shl, kn_shr, kn_bit, nB_0, nB_1, nB_t, nB_f, Nat.zero_add, Nat.add_zero, Nat.reduceAdd, Nat.reduceMul, Nat.reduceSub, Nat.reducePow]
      refine jW_bn (m_wrong hL hM.1 (show 1 ≤ 2 by omega) (by omega) hz.1) (fun M2 hM2 => ?_)
      refine b110 M2 _ ?_ (fun _ => rfl) (jBF_trans (jBF_M1 hM.2) (jBF_M1 hM2.2.2))
      rw [ee]
      exact jBkM_M1 M1 hM2.1 hM2.2.2 (fun e => absurd e (s_fa_0 (by omega)))
  · have ee : s_ln2 tp n (τ 0 0) β z = s_num tp n 0 (τ 0 0) z := by
      unfold s_ln2
      split
      · exact if_neg e0
      · rfl
    simp (disch := omega) only [m5, ↓dK_205 hL, ↓dG_205 hL, ↓dP_205 hL, ↓dZ_205 hL (x := nI 0) (Or.inl rfl), ↓dZ_205 hL (x := nI 1) (Or.inr rfl), ↓dZ_205 hL (Or.inl rfl), ↓dZ_205 hL (Or.inr rfl), ↓dZ_205 hL (nB_01 _), ↓reduceIte, ↓kq_bi, ↓kq_let, ↓kq_rz0, ↓kq_rz1, ↓kq_rzB, ↓Option.bind_some, kq_dvn, kt_lt, kf_lt, kt_eq, kf_eq, decide_true, decide_false, eq_self, Bool.false_eq_true, Bool.true_eq_false, not_true_eq_false, not_false_eq_true, jU_eq, jU_ne, jU_U, jV_eq, jV_ne, jV_V, kn_lit, kn_add, kn_mul, kn_sdm, kn_sub, kn_div, kn_nsdm, kn_lt, kn_eq, kn_pred, kn_m1, kn_m1', kn_a31, kn_shl, kn_shr, kn_bit, nB_0, nB_1, nB_t, nB_f, Nat.zero_add, Nat.add_zero, Nat.reduceAdd, Nat.reduceMul, Nat.reduceSub, Nat.reducePow]
    exact b110 M _ (by rw [ee]; exact M1) (fun e => absurd (by rw [ee] at e; exact e) e0) (jBF_M1 hM.2)
end

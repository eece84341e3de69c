/-! PLAIN LEAN, 45: towns; the reference reads a clause -/
def s_ma (c k : Nat) : Nat := if c = 1 then 210 else if c ≤ 5 then 217 + k else if c = 6 then 212 else if c ≤ 8 then 253 + k else if c ≤ 11 then 231 + k else 214
def s_mi (c k : Nat) : Nat := if c = 1 then k else if c ≤ 5 then c - 2 else if c = 6 then k else if c ≤ 8 then c - 7 else if c ≤ 11 then c - 9 else k
def jMD (J : Nat → Nat → Int32) (δ : JTn) : Prop := (∀ i, i < 6 → J 208 i = nI (δ 0 i)) ∧ ∀ c k, 1 ≤ c → c ≤ 12 → k < δ 0 (s_kd c) → J (s_ma c k) (s_mi c k) = nI (δ c k)
def jDA (a : Nat) : Prop := a = 208 ∨ a = 210 ∨ a = 212 ∨ a = 214 ∨ (217 ≤ a ∧ a ≤ 222) ∨ (231 ≤ a ∧ a ≤ 240) ∨ (253 ≤ a ∧ a ≤ 258)
/-- a draft and the reader of the reference have changed alone -/
def jMu (J K : Nat → Nat → Int32) : Prop := (∀ f, ¬ f = 4 → ¬ f = 5 → ¬ f = 6 → ¬ f = 7 → K 205 f = J 205 f) ∧ ∀ a, ¬ a = 205 → ¬ jDA a → K a = J a
section
variable {t u l m b c : Nat} {h : LH} {I J K : Nat → Nat → Int32} {δ : JTn} {tp : Nat → Nat} {n j k : Nat} {y : JTs} {x : Int32} {X : LH} {v : Nat → Nat} {d : Bool}
theorem jMu_trans {L : Nat → Nat → Int32} (h1 : jMu J K) (h2 : jMu K L) : jMu J L := ⟨fun f a1 a2 a3 a4 => (h2.1 f a1 a2 a3 a4).trans (h1.1 f a1 a2 a3 a4), fun a a1 a2 => (h2.2 a a1 a2).trans (h1.2 a a1 a2)⟩
theorem jMu_M1 (h1 : jM1 J K) : jMu J K := ⟨fun f a1 a2 a3 _ => h1.1 f a1 a2 a3, fun a a1 _ => h1.2 a a1⟩
theorem s_ma_rg (h1 : 1 ≤ c) (h2 : c ≤ 12) (hk : k < s_cap (s_kd c)) : (s_kd c = 0 ∧ s_ma c k = 210) ∨ (s_kd c = 1 ∧ (217 ≤ s_ma c k ∧ s_ma c k ≤ 222)) ∨ (s_kd c = 2 ∧ (231 ≤ s_ma c k ∧ s_ma c k ≤ 240)) ∨ (s_kd c = 3 ∧ s_ma c k = 214) ∨ (s_kd c = 4 ∧ s_ma c k = 212) ∨ (s_kd c = 5 ∧ (253 ≤ s_ma c k ∧ s_ma c k ≤ 258)) := by
  rcases (show c = 1 ∨ c = 2 ∨ c = 3 ∨ c = 4 ∨ c = 5 ∨ c = 6 ∨ c = 7 ∨ c = 8 ∨ c = 9 ∨ c = 10 ∨ c = 11 ∨ c = 12 by omega) with rfl | rfl | rfl | rfl | rfl | rfl | rfl | rfl | rfl | rfl | rfl | rfl
  · have hk : k < 9 := hk
    have e : s_ma 1 k = 210 := rfl
    have e2 : s_kd 1 = 0 := rfl
    rw [e, e2]; omega
  · have hk : k < 6 := hk
    have e : s_ma 2 k = 217 + k := rfl
    have e2 : s_kd 2 = 1 := rfl
    rw [e, e2]; omega
  · have hk : k < 6 := hk
    have e : s_ma 3 k = 217 + k := rfl
    have e2 : s_kd 3 = 1 := rfl
    rw [e, e2]; omega
  · have hk : k < 6 := hk
    have e : s_ma 4 k = 217 + k := rfl
    have e2 : s_kd 4 = 1 := rfl
    rw [e, e2]; omega
  · have hk : k < 6 := hk
    have e : s_ma 5 k = 217 + k := rfl
    have e2 : s_kd 5 = 1 := rfl
    rw [e, e2]; omega
  · have hk : k < 24 := hk
    have e : s_ma 6 k = 212 := rfl
    have e2 : s_kd 6 = 4 := rfl
    rw [e, e2]; omega
  · have hk : k < 6 := hk
    have e : s_ma 7 k = 253 + k := rfl
    have e2 : s_kd 7 = 5 := rfl
    rw [e, e2]; omega
  · have hk : k < 6 := hk
    have e : s_ma 8 k = 253 + k := rfl
    have e2 : s_kd 8 = 5 := rfl
    rw [e, e2]; omega
  · have hk : k < 10 := hk
    have e : s_ma 9 k = 231 + k := rfl
    have e2 : s_kd 9 = 2 := rfl
    rw [e, e2]; omega
  · have hk : k < 10 := hk
    have e : s_ma 10 k = 231 + k := rfl
    have e2 : s_kd 10 = 2 := rfl
    rw [e, e2]; omega
  · have hk : k < 10 := hk
    have e : s_ma 11 k = 231 + k := rfl
    have e2 : s_kd 11 = 2 := rfl
    rw [e, e2]; omega
  · have hk : k < 8 := hk
    have e : s_ma 12 k = 214 := rfl
    have e2 : s_kd 12 = 3 := rfl
    rw [e, e2]; omega
theorem jMD_add (hC : jMD J δ) (hD : jTD δ) (hj : j < 6) (e0 : K 208 = jV (J 208) j (nI (δ 0 j + 1))) (e2 : ∀ c, 1 ≤ c → c < 13 → s_kd c = j → K (s_ma c (δ 0 j)) (s_mi c (δ 0 j)) = nI (v c) ∧ ∀ k, k < δ 0 j → K (s_ma c k) (s_mi c k) = J (s_ma c k) (s_mi c k)) (e3 : ∀ c k, 1 ≤ c → c ≤ 12 → k < s_cap (s_kd c) → ¬ s_kd c = j → K (s_ma c k) = J (s_ma c k)) : jMD K (s_add δ j v) := by
  refine ⟨fun i hi => ?_, fun c k a1 a2 a3 => ?_⟩
  · have ea : s_add δ j v 0 i = if i = j then δ 0 j + 1 else δ 0 i := if_pos rfl
    rw [ea, e0]
    by_cases z : i = j
    · rw [if_pos z, z, jV_eq]
    · rw [if_neg z, jV_ne z]; exact hC.1 i hi
  · have ea : s_add δ j v c k = if s_kd c = j ∧ k = δ 0 j then v c else δ c k := if_neg (by omega)
    have ek : s_add δ j v 0 (s_kd c) = if s_kd c = j then δ 0 j + 1 else δ 0 (s_kd c) := if_pos rfl
    rw [ek] at a3
    rw [ea]
    by_cases z : s_kd c = j
    · obtain ⟨b1, b2⟩ := e2 c a1 (by omega) z
      rw [if_pos z] at a3
      by_cases z2 : k = δ 0 j
      · rw [if_pos ⟨z, z2⟩, z2]; exact b1
      · rw [if_neg (fun a => z2 a.2), b2 k (by omega)]
        exact hC.2 c k a1 a2 (by rw [z]; omega)
    · rw [if_neg z] at a3
      rw [if_neg (fun a => z a.1), e3 c k a1 a2 (Nat.lt_of_lt_of_le a3 (hD _ (s_kd_lt c (by omega)))) z]
      exact hC.2 c k a1 a2 a3
theorem jTM_7 (hT : jTM J tp n y) {x : Int32} : jTM (jU J 205 (jV (J 205) 7 x)) tp n y := by
  obtain ⟨⟨b2, bn, bt, b256⟩, hy, h56, hq⟩ := hT
  refine ⟨⟨by rw [jU_eq, jV_ne (by omega)]; exact b2, bn, fun k hk => by rw [jU_ne (by omega)]; exact bt k hk, b256⟩, hy, ⟨by rw [jU_eq, jV_ne (by omega)]; exact h56.1, by rw [jU_eq, jV_ne (by omega)]; exact h56.2⟩, ?_⟩
  rw [jU_eq, jV_ne (by omega)]
  exact hq
theorem s_nur_ok {lo hi : Nat} (h0 : (s_num tp n lo hi y).2.1 = 0) : s_nur tp n lo hi y = s_nuv tp n y := if_pos h0
theorem s_nur_le {lo hi : Nat} : s_nur tp n lo hi y ≤ 100000 := by
  unfold s_nur
  split
  · exact s_nuv_le
  · omega
theorem s_num_lo {lo lo' hi hi' hi2 : Nat} (e : (s_num tp n lo hi y).2.1 = 0 → lo' = hi') : s_num tp n lo' hi2 (s_num tp n lo hi y) = s_num tp n hi' hi2 (s_num tp n lo hi y) := by
  by_cases z : (s_num tp n lo hi y).2.1 = 0
  · rw [e z]
  · rw [show s_num tp n lo' hi2 (s_num tp n lo hi y) = s_num tp n lo hi y from if_neg z, show s_num tp n hi' hi2 (s_num tp n lo hi y) = s_num tp n lo hi y from if_neg z]
theorem m_b53_0 (hL : jLay t u l m b c h) (hT : jTM J tp n y) (h0 : y.2.1 = 0) (h4 : J 205 4 = nI (s_skp c_bl tp n y.1)) {cl : Nat} (hcl : cl ≤ 60) (h7 : J 205 7 = nI cl) (hC : jMD J δ) (hD : jTD δ) (hm : δ 0 0 < 9) : ∃ K, F_Mod_clause_b53 205 (nI 0) (jz_I h J) = some (jz_I h K) ∧ jTM K tp n (s_nd tp n 59 (s_rdk tp n δ 0 (s_wd tp n y)).2) ∧ K 205 7 = nI (cl + 1) ∧ ((s_rdk tp n δ 0 (s_wd tp n y)).2.2.1 = 0 → jMD K (s_add δ 0 (s_rdk tp n δ 0 (s_wd tp n y)).1)) ∧ jMu J K := by
  have h5 : J 205 5 = nI 0 := by rw [← h0]; exact hT.2.2.1.1
  refine jE_n (fun P hP => ?_)
  unfold F_Mod_clause_b53
  simp (disch := omega) only [h5, ↓dK_205 hL, ↓dG_205 hL, ↓dP_205 hL, ↓dZ_205 hL (x := nI 0) (Or.inl rfl), ↓dZ_205 hL (x := nI 1) (Or.inr rfl), ↓dZ_205 hL (Or.inl rfl), ↓dZ_205 hL (Or.inr rfl), ↓dZ_205 hL (nB_01 _), ↓reduceIte, ↓kq_bi, ↓kq_let, ↓kq_rz0, ↓kq_rz1, ↓kq_rzB, ↓Option.bind_some, kq_dvn, kt_lt, kf_lt, kt_eq, kf_eq, decide_true, decide_false, eq_self, Bool.false_eq_true, Bool.true_eq_false, not_true_eq_false, not_false_eq_true, jU_eq, jU_ne, jU_U, jV_eq, jV_ne, jV_V, kn_lit, kn_add, kn_mul, kn_sdm, kn_sub, kn_div, kn_nsdm, kn_lt, kn_eq, kn_pred, kn_m1, kn_m1', kn_a31, kn_shl, kn_shr, kn_bit, nB_0, nB_1, nB_t, nB_f, Nat.zero_add, Nat.add_zero, Nat.reduceAdd, Nat.reduceMul, Nat.reduceSub, Nat.reducePow]
  refine jW_bn (m_skipWord hL hT h0 h4) (fun K0 hK => ?_)
  obtain ⟨T0, M0⟩ := hK
  have e7 : K0 205 7 = nI cl := by rw [M0.1 7 (by omega) (by omega) (by omega)]; exact h7
  have e8 : K0 208 0 = nI (δ 0 0) := by rw [M0.2 208 (by omega)]; exact hC.1 0 (by omega)
  simp (disch := omega) only [e7, e8, ↓dK_205 hL, ↓dG_205 hL, ↓dP_205 hL, ↓dZ_205 hL (x := nI 0) (Or.inl rfl), ↓dZ_205 hL (x := nI 1) (Or.inr rfl), ↓dZ_205 hL (Or.inl rfl), ↓dZ_205 hL (Or.inr rfl), ↓dZ_205 hL (nB_01 _), ↓dR_205_11 hL, dI_208 hL, dS_208 hL, ↓dR_205_13 hL, dI_210 hL, dS_210 hL, ↓reduceIte, ↓kq_bi, ↓kq_let, ↓kq_rz0, ↓kq_rz1, ↓kq_rzB, ↓Option.bind_some, kq_dvn, kt_lt, kf_lt, kt_eq, kf_eq, decide_true, decide_false, eq_self, Bool.false_eq_true, Bool.true_eq_false, not_true_eq_false, not_false_eq_true, jU_eq, jU_ne, jU_U, jV_eq, jV_ne, jV_V, kn_lit, kn_add, kn_mul, kn_sdm, kn_sub, kn_div, kn_nsdm, kn_lt, kn_eq, kn_pred, kn_m1, kn_m1', kn_a31, kn_shl, kn_shr, kn_bit, nB_0, nB_1, nB_t, nB_f, Nat.zero_add, Nat.add_zero, Nat.reduceAdd, Nat.reduceMul, Nat.reduceSub, Nat.reducePow]
  have TH := jTM_7 T0 (x := nI (cl + 1))
  have f7 : (jU K0 205 (jV (K0 205) 7 (nI (cl + 1)))) 205 7 = nI (cl + 1) := by rw [jU_eq, jV_eq]
  have fa : ∀ a, ¬ a = 205 → (jU K0 205 (jV (K0 205) 7 (nI (cl + 1)))) a = J a := fun a ha => by rw [jU_ne ha]; exact M0.2 a ha
  have ff : ∀ f, ¬ f = 4 → ¬ f = 5 → ¬ f = 6 → ¬ f = 7 → (jU K0 205 (jV (K0 205) 7 (nI (cl + 1)))) 205 f = J 205 f := fun f a1 a2 a3 a4 => by rw [jU_eq, jV_ne a4]; exact M0.1 f a1 a2 a3
  generalize jU K0 205 (jV (K0 205) 7 (nI (cl + 1))) = H at TH f7 fa ff
  have f8 : H 208 = J 208 := fa 208 (by omega)
  have fR : H 210 = J 210 := fa 210 (by omega)
  have fa : ∀ a, ¬ a = 205 → ¬ a = 210 → H a = J a := fun a ha _ => fa a ha
  generalize s_wd tp n y = y0 at hP TH
  refine jW_bi (m_number hL TH (lo := 0) (hi := 4) (by omega) (hH_lit (a := 3) (by omega))) (fun K1 hK => ?_)
  obtain ⟨T1, M1⟩ := hK
  have g8 : K1 208 0 = nI (δ 0 0) := by rw [M1.2 208 (by omega), f8]; exact hC.1 0 (by omega)
  simp (disch := omega) only [g8, ↓dK_205 hL, ↓dG_205 hL, ↓dP_205 hL, ↓dZ_205 hL (x := nI 0) (Or.inl rfl), ↓dZ_205 hL (x := nI 1) (Or.inr rfl), ↓dZ_205 hL (Or.inl rfl), ↓dZ_205 hL (Or.inr rfl), ↓dZ_205 hL (nB_01 _), ↓dR_205_11 hL, dI_208 hL, dS_208 hL, ↓dR_205_13 hL, dI_210 hL, dS_210 hL, ↓reduceIte, ↓kq_bi, ↓kq_let, ↓kq_rz0, ↓kq_rz1, ↓kq_rzB, ↓Option.bind_some, kq_dvn, kt_lt, kf_lt, kt_eq, kf_eq, decide_true, decide_false, eq_self, Bool.false_eq_true, Bool.true_eq_false, not_true_eq_false, not_false_eq_true, jU_eq, jU_ne, jU_U, jV_eq, jV_ne, jV_V, kn_lit, kn_add, kn_mul, kn_sdm, kn_sub, kn_div, kn_nsdm, kn_lt, kn_eq, kn_pred, kn_m1, kn_m1', kn_a31, kn_shl, kn_shr, kn_bit, nB_0, nB_1, nB_t, nB_f, Nat.zero_add, Nat.add_zero, Nat.reduceAdd, Nat.reduceMul, Nat.reduceSub, Nat.reducePow]
  have TH := jTM_U T1 (a := 210) (by omega) (f := jV (K1 210) (δ 0 0) (nI (s_nur tp n 0 4 y0)))
  have f7 : (jU K1 210 (jV (K1 210) (δ 0 0) (nI (s_nur tp n 0 4 y0)))) 205 7 = nI (cl + 1) := by rw [jU_ne (by omega), M1.1 7 (by omega) (by omega) (by omega)]; exact f7
  have f8 : (jU K1 210 (jV (K1 210) (δ 0 0) (nI (s_nur tp n 0 4 y0)))) 208 = J 208 := by rw [jU_ne (by omega), M1.2 208 (by omega)]; exact f8
  have fa : ∀ a, ¬ a = 205 → ¬ a = 210 → (jU K1 210 (jV (K1 210) (δ 0 0) (nI (s_nur tp n 0 4 y0)))) a = J a := fun a ha hb => by rw [jU_ne hb, M1.2 a ha]; exact fa a ha hb
  have ff : ∀ f, ¬ f = 4 → ¬ f = 5 → ¬ f = 6 → ¬ f = 7 → (jU K1 210 (jV (K1 210) (δ 0 0) (nI (s_nur tp n 0 4 y0)))) 205 f = J 205 f := fun f a1 a2 a3 a4 => by rw [jU_ne (by omega), M1.1 f a1 a2 a3]; exact ff f a1 a2 a3 a4
  have fR : (jU K1 210 (jV (K1 210) (δ 0 0) (nI (s_nur tp n 0 4 y0)))) 210 = jV (J 210) (δ 0 0) (nI (s_nur tp n 0 4 y0)) := by rw [jU_eq, M1.2 210 (by omega), fR]
  generalize jU K1 210 (jV (K1 210) (δ 0 0) (nI (s_nur tp n 0 4 y0))) = H at TH f7 f8 fa ff fR
  obtain ⟨L, l0, l1, l2, l3, l4⟩ := m_b292 hL TH (j := 0) (by omega) (q := δ 0 0) (by omega) (by rw [f8]; exact hC.1 0 (by omega))
  refine jW_e l0 (hP L ⟨l1, (l3 7 (by omega) (by omega) (by omega)).trans f7, fun z => ?_, fun f a1 a2 a3 a4 => (l3 f a1 a2 a3).trans (ff f a1 a2 a3 a4), fun a a1 a2 => ?_⟩)
  · have z : (s_num tp n 0 4 y0).2.1 = 0 := z
    rw [if_pos z, f8] at l2
    rw [s_nur_ok z] at fR
    have lR : L 210 = H 210 := l4 210 (by omega) (by omega)
    rw [fR] at lR
    have la : ∀ a, ¬ a = 205 → ¬ a = 208 → ¬ a = 210 → L a = J a := fun a a1 a2 a3 => (l4 a a1 a2).trans (fa a a1 a3)
    refine jMD_add hC hD (by omega) l2 (fun c a1 a2 a3 => ?_) (fun c k a1 a2 a3 a4 => ?_)
    · cases s_kd_0 c a2 a1 a3
      refine ⟨?_, fun k hk => ?_⟩
      · show L 210 (δ 0 0) = _
        rw [lR, jV_eq]; rfl
      · show L 210 k = J 210 k
        rw [lR, jV_ne (by omega)]
    · have := s_ma_rg a1 a2 a3
      exact la _ (by omega) (by omega) (by omega)
  · have a2 : ¬ (a = 208 ∨ a = 210 ∨ a = 212 ∨ a = 214 ∨ (217 ≤ a ∧ a ≤ 222) ∨ (231 ≤ a ∧ a ≤ 240) ∨ (253 ≤ a ∧ a ≤ 258)) := a2
    exact (l4 a a1 (by omega)).trans (fa a a1 (by omega))
theorem m_b53_1 (hL : jLay t u l m b c h) (hT : jTM J tp n y) (h0 : y.2.1 = 0) (h4 : J 205 4 = nI (s_skp c_bl tp n y.1)) {cl : Nat} (hcl : cl ≤ 60) (h7 : J 205 7 = nI cl) (hC : jMD J δ) (hD : jTD δ) (hm : δ 0 1 < 6) : ∃ K, F_Mod_clause_b53 205 (nI 1) (jz_I h J) = some (jz_I h K) ∧ jTM K tp n (s_nd tp n 59 (s_rdk tp n δ 1 (s_wd tp n y)).2) ∧ K 205 7 = nI (cl + 1) ∧ ((s_rdk tp n δ 1 (s_wd tp n y)).2.2.1 = 0 → jMD K (s_add δ 1 (s_rdk tp n δ 1 (s_wd tp n y)).1)) ∧ jMu J K := by
  have h5 : J 205 5 = nI 0 := by rw [← h0]; exact hT.2.2.1.1
  refine jE_n (fun P hP => ?_)
  unfold F_Mod_clause_b53
  simp (disch := omega) only [h5, ↓dK_205 hL, ↓dG_205 hL, ↓dP_205 hL, ↓dZ_205 hL (x := nI 0) (Or.inl rfl), ↓dZ_205 hL (x := nI 1) (Or.inr rfl), ↓dZ_205 hL (Or.inl rfl), ↓dZ_205 hL (Or.inr rfl), ↓dZ_205 hL (nB_01 _), ↓reduceIte, ↓kq_bi, ↓kq_let, ↓kq_rz0, ↓kq_rz1, ↓kq_rzB, ↓Option.bind_some, kq_dvn, kt_lt, kf_lt, kt_eq, kf_eq, decide_true, decide_false, eq_self, Bool.false_eq_true, Bool.true_eq_false, not_true_eq_false, not_false_eq_true, jU_eq, jU_ne, jU_U, jV_eq, jV_ne, jV_V, kn_lit, kn_add, kn_mul, kn_sdm, kn_sub, kn_div, kn_nsdm, kn_lt, kn_eq, kn_pred, kn_m1, kn_m1', kn_a31, kn_shl, kn_shr, kn_bit, nB_0, nB_1, nB_t, nB_f, Nat.zero_add, Nat.add_zero, Nat.reduceAdd, Nat.reduceMul, Nat.reduceSub, Nat.reducePow]
  refine jW_bn (m_skipWord hL hT h0 h4) (fun K0 hK => ?_)
  obtain ⟨T0, M0⟩ := hK
  have e7 : K0 205 7 = nI cl := by rw [M0.1 7 (by omega) (by omega) (by omega)]; exact h7
  have e8 : K0 208 1 = nI (δ 0 1) := by rw [M0.2 208 (by omega)]; exact hC.1 1 (by omega)
  simp (disch := omega) only [e7, e8, ↓dK_205 hL, ↓dG_205 hL, ↓dP_205 hL, ↓dZ_205 hL (x := nI 0) (Or.inl rfl), ↓dZ_205 hL (x := nI 1) (Or.inr rfl), ↓dZ_205 hL (Or.inl rfl), ↓dZ_205 hL (Or.inr rfl), ↓dZ_205 hL (nB_01 _), ↓dR_205_11 hL, dI_208 hL, dS_208 hL, ↓dR_205_19 hL, dA_216 hL, dI_217 hL, dS_217 hL, ↓reduceIte, ↓kq_bi, ↓kq_let, ↓kq_rz0, ↓kq_rz1, ↓kq_rzB, ↓Option.bind_some, kq_dvn, kt_lt, kf_lt, kt_eq, kf_eq, decide_true, decide_false, eq_self, Bool.false_eq_true, Bool.true_eq_false, not_true_eq_false, not_false_eq_true, jU_eq, jU_ne, jU_U, jV_eq, jV_ne, jV_V, kn_lit, kn_add, kn_mul, kn_sdm, kn_sub, kn_div, kn_nsdm, kn_lt, kn_eq, kn_pred, kn_m1, kn_m1', kn_a31, kn_shl, kn_shr, kn_bit, nB_0, nB_1, nB_t, nB_f, Nat.zero_add, Nat.add_zero, Nat.reduceAdd, Nat.reduceMul, Nat.reduceSub, Nat.reducePow]
  have TH := jTM_7 T0 (x := nI (cl + 1))
  have f7 : (jU K0 205 (jV (K0 205) 7 (nI (cl + 1)))) 205 7 = nI (cl + 1) := by rw [jU_eq, jV_eq]
  have fa : ∀ a, ¬ a = 205 → (jU K0 205 (jV (K0 205) 7 (nI (cl + 1)))) a = J a := fun a ha => by rw [jU_ne ha]; exact M0.2 a ha
  have ff : ∀ f, ¬ f = 4 → ¬ f = 5 → ¬ f = 6 → ¬ f = 7 → (jU K0 205 (jV (K0 205) 7 (nI (cl + 1)))) 205 f = J 205 f := fun f a1 a2 a3 a4 => by rw [jU_eq, jV_ne a4]; exact M0.1 f a1 a2 a3
  generalize jU K0 205 (jV (K0 205) 7 (nI (cl + 1))) = H at TH f7 fa ff
  have f8 : H 208 = J 208 := fa 208 (by omega)
  have fR : H (217 + δ 0 1) = J (217 + δ 0 1) := fa (217 + δ 0 1) (by omega)
  have fa : ∀ a, ¬ a = 205 → ¬ a = (217 + δ 0 1) → H a = J a := fun a ha _ => fa a ha
  generalize s_wd tp n y = y0 at hP TH
  refine jW_bi (m_number hL TH (lo := 1) (hi := 21) (by omega) (hH_lit (a := 20) (by omega))) (fun K1 hK => ?_)
  obtain ⟨T1, M1⟩ := hK
  have g8 : K1 208 1 = nI (δ 0 1) := by rw [M1.2 208 (by omega), f8]; exact hC.1 1 (by omega)
  simp (disch := omega) only [g8, ↓dK_205 hL, ↓dG_205 hL, ↓dP_205 hL, ↓dZ_205 hL (x := nI 0) (Or.inl rfl), ↓dZ_205 hL (x := nI 1) (Or.inr rfl), ↓dZ_205 hL (Or.inl rfl), ↓dZ_205 hL (Or.inr rfl), ↓dZ_205 hL (nB_01 _), ↓dR_205_11 hL, dI_208 hL, dS_208 hL, ↓dR_205_19 hL, dA_216 hL, dI_217 hL, dS_217 hL, ↓reduceIte, ↓kq_bi, ↓kq_let, ↓kq_rz0, ↓kq_rz1, ↓kq_rzB, ↓Option.bind_some, kq_dvn, kt_lt, kf_lt, kt_eq, kf_eq, decide_true, decide_false, eq_self, Bool.false_eq_true, Bool.true_eq_false, not_true_eq_false, not_false_eq_true, jU_eq, jU_ne, jU_U, jV_eq, jV_ne, jV_V, kn_lit, kn_add, kn_mul, kn_sdm, kn_sub, kn_div, kn_nsdm, kn_lt, kn_eq, kn_pred, kn_m1, kn_m1', kn_a31, kn_shl, kn_shr, kn_bit, nB_0, nB_1, nB_t, nB_f, Nat.zero_add, Nat.add_zero, Nat.reduceAdd, Nat.reduceMul, Nat.reduceSub, Nat.reducePow]
  have TH := jTM_U T1 (a := (217 + δ 0 1)) (by omega) (f := jV (K1 (217 + δ 0 1)) 0 (nI (s_nur tp n 1 21 y0)))
  have f7 : (jU K1 (217 + δ 0 1) (jV (K1 (217 + δ 0 1)) 0 (nI (s_nur tp n 1 21 y0)))) 205 7 = nI (cl + 1) := by rw [jU_ne (by omega), M1.1 7 (by omega) (by omega) (by omega)]; exact f7
  have f8 : (jU K1 (217 + δ 0 1) (jV (K1 (217 + δ 0 1)) 0 (nI (s_nur tp n 1 21 y0)))) 208 = J 208 := by rw [jU_ne (by omega), M1.2 208 (by omega)]; exact f8
  have fa : ∀ a, ¬ a = 205 → ¬ a = (217 + δ 0 1) → (jU K1 (217 + δ 0 1) (jV (K1 (217 + δ 0 1)) 0 (nI (s_nur tp n 1 21 y0)))) a = J a := fun a ha hb => by rw [jU_ne hb, M1.2 a ha]; exact fa a ha hb
  have ff : ∀ f, ¬ f = 4 → ¬ f = 5 → ¬ f = 6 → ¬ f = 7 → (jU K1 (217 + δ 0 1) (jV (K1 (217 + δ 0 1)) 0 (nI (s_nur tp n 1 21 y0)))) 205 f = J 205 f := fun f a1 a2 a3 a4 => by rw [jU_ne (by omega), M1.1 f a1 a2 a3]; exact ff f a1 a2 a3 a4
  have fR : (jU K1 (217 + δ 0 1) (jV (K1 (217 + δ 0 1)) 0 (nI (s_nur tp n 1 21 y0)))) (217 + δ 0 1) = jV (J (217 + δ 0 1)) 0 (nI (s_nur tp n 1 21 y0)) := by rw [jU_eq, M1.2 (217 + δ 0 1) (by omega), fR]
  generalize jU K1 (217 + δ 0 1) (jV (K1 (217 + δ 0 1)) 0 (nI (s_nur tp n 1 21 y0))) = H at TH f7 f8 fa ff fR
  refine jW_bi (m_number hL TH (lo := 1) (hi := 10) (by omega) (hH_lit (a := 9) (by omega))) (fun K2 hK => ?_)
  obtain ⟨T2, M2⟩ := hK
  have g8 : K2 208 1 = nI (δ 0 1) := by rw [M2.2 208 (by omega), f8]; exact hC.1 1 (by omega)
  simp (disch := omega) only [g8, ↓dK_205 hL, ↓dG_205 hL, ↓dP_205 hL, ↓dZ_205 hL (x := nI 0) (Or.inl rfl), ↓dZ_205 hL (x := nI 1) (Or.inr rfl), ↓dZ_205 hL (Or.inl rfl), ↓dZ_205 hL (Or.inr rfl), ↓dZ_205 hL (nB_01 _), ↓dR_205_11 hL, dI_208 hL, dS_208 hL, ↓dR_205_19 hL, dA_216 hL, dI_217 hL, dS_217 hL, ↓reduceIte, ↓kq_bi, ↓kq_let, ↓kq_rz0, ↓kq_rz1, ↓kq_rzB, ↓Option.bind_some, kq_dvn, kt_lt, kf_lt, kt_eq, kf_eq, decide_true, decide_false, eq_self, Bool.false_eq_true, Bool.true_eq_false, not_true_eq_false, not_false_eq_true, jU_eq, jU_ne, jU_U, jV_eq, jV_ne, jV_V, kn_lit, kn_add, kn_mul, kn_sdm, kn_sub, kn_div, kn_nsdm, kn_lt, kn_eq, kn_pred, kn_m1, kn_m1', kn_a31, kn_shl, kn_shr, kn_bit, nB_0, nB_1, nB_t, nB_f, Nat.zero_add, Nat.add_zero, Nat.reduceAdd, Nat.reduceMul, Nat.reduceSub, Nat.reducePow]
  have TH := jTM_U T2 (a := (217 + δ 0 1)) (by omega) (f := jV (K2 (217 + δ 0 1)) 1 (nI (s_nur tp n 1 10 (s_num tp n 1 21 y0))))
  have f7 : (jU K2 (217 + δ 0 1) (jV (K2 (217 + δ 0 1)) 1 (nI (s_nur tp n 1 10 (s_num tp n 1 21 y0))))) 205 7 = nI (cl + 1) := by rw [jU_ne (by omega), M2.1 7 (by omega) (by omega) (by omega)]; exact f7
  have f8 : (jU K2 (217 + δ 0 1) (jV (K2 (217 + δ 0 1)) 1 (nI (s_nur tp n 1 10 (s_num tp n 1 21 y0))))) 208 = J 208 := by rw [jU_ne (by omega), M2.2 208 (by omega)]; exact f8
  have fa : ∀ a, ¬ a = 205 → ¬ a = (217 + δ 0 1) → (jU K2 (217 + δ 0 1) (jV (K2 (217 + δ 0 1)) 1 (nI (s_nur tp n 1 10 (s_num tp n 1 21 y0))))) a = J a := fun a ha hb => by rw [jU_ne hb, M2.2 a ha]; exact fa a ha hb
  have ff : ∀ f, ¬ f = 4 → ¬ f = 5 → ¬ f = 6 → ¬ f = 7 → (jU K2 (217 + δ 0 1) (jV (K2 (217 + δ 0 1)) 1 (nI (s_nur tp n 1 10 (s_num tp n 1 21 y0))))) 205 f = J 205 f := fun f a1 a2 a3 a4 => by rw [jU_ne (by omega), M2.1 f a1 a2 a3]; exact ff f a1 a2 a3 a4
  have fR : (jU K2 (217 + δ 0 1) (jV (K2 (217 + δ 0 1)) 1 (nI (s_nur tp n 1 10 (s_num tp n 1 21 y0))))) (217 + δ 0 1) = jV (jV (J (217 + δ 0 1)) 0 (nI (s_nur tp n 1 21 y0))) 1 (nI (s_nur tp n 1 10 (s_num tp n 1 21 y0))) := by rw [jU_eq, M2.2 (217 + δ 0 1) (by omega), fR]
  generalize jU K2 (217 + δ 0 1) (jV (K2 (217 + δ 0 1)) 1 (nI (s_nur tp n 1 10 (s_num tp n 1 21 y0)))) = H at TH f7 f8 fa ff fR
  refine jW_bi (m_number hL TH (lo := 0) (hi := 32) (by omega) (hH_lit (a := 31) (by omega))) (fun K3 hK => ?_)
  obtain ⟨T3, M3⟩ := hK
  have g8 : K3 208 1 = nI (δ 0 1) := by rw [M3.2 208 (by omega), f8]; exact hC.1 1 (by omega)
  simp (disch := omega) only [g8, ↓dK_205 hL, ↓dG_205 hL, ↓dP_205 hL, ↓dZ_205 hL (x := nI 0) (Or.inl rfl), ↓dZ_205 hL (x := nI 1) (Or.inr rfl), ↓dZ_205 hL (Or.inl rfl), ↓dZ_205 hL (Or.inr rfl), ↓dZ_205 hL (nB_01 _), ↓dR_205_11 hL, dI_208 hL, dS_208 hL, ↓dR_205_19 hL, dA_216 hL, dI_217 hL, dS_217 hL, ↓reduceIte, ↓kq_bi, ↓kq_let, ↓kq_rz0, ↓kq_rz1, ↓kq_rzB, ↓Option.bind_some, kq_dvn, kt_lt, kf_lt, kt_eq, kf_eq, decide_true, decide_false, eq_self, Bool.false_eq_true, Bool.true_eq_false, not_true_eq_false, not_false_eq_true, jU_eq, jU_ne, jU_U, jV_eq, jV_ne, jV_V, kn_lit, kn_add, kn_mul, kn_sdm, kn_sub, kn_div, kn_nsdm, kn_lt, kn_eq, kn_pred, kn_m1, kn_m1', kn_a31, kn_shl, kn_shr, kn_bit, nB_0, nB_1, nB_t, nB_f, Nat.zero_add, Nat.add_zero, Nat.reduceAdd, Nat.reduceMul, Nat.reduceSub, Nat.reducePow]
  have TH := jTM_U T3 (a := (217 + δ 0 1)) (by omega) (f := jV (K3 (217 + δ 0 1)) 2 (nI (s_nur tp n 0 32 (s_num tp n 1 10 (s_num tp n 1 21 y0)))))
  have f7 : (jU K3 (217 + δ 0 1) (jV (K3 (217 + δ 0 1)) 2 (nI (s_nur tp n 0 32 (s_num tp n 1 10 (s_num tp n 1 21 y0)))))) 205 7 = nI (cl + 1) := by rw [jU_ne (by omega), M3.1 7 (by omega) (by omega) (by omega)]; exact f7
  have f8 : (jU K3 (217 + δ 0 1) (jV (K3 (217 + δ 0 1)) 2 (nI (s_nur tp n 0 32 (s_num tp n 1 10 (s_num tp n 1 21 y0)))))) 208 = J 208 := by rw [jU_ne (by omega), M3.2 208 (by omega)]; exact f8
  have fa : ∀ a, ¬ a = 205 → ¬ a = (217 + δ 0 1) → (jU K3 (217 + δ 0 1) (jV (K3 (217 + δ 0 1)) 2 (nI (s_nur tp n 0 32 (s_num tp n 1 10 (s_num tp n 1 21 y0)))))) a = J a := fun a ha hb => by rw [jU_ne hb, M3.2 a ha]; exact fa a ha hb
  have ff : ∀ f, ¬ f = 4 → ¬ f = 5 → ¬ f = 6 → ¬ f = 7 → (jU K3 (217 + δ 0 1) (jV (K3 (217 + δ 0 1)) 2 (nI (s_nur tp n 0 32 (s_num tp n 1 10 (s_num tp n 1 21 y0)))))) 205 f = J 205 f := fun f a1 a2 a3 a4 => by rw [jU_ne (by omega), M3.1 f a1 a2 a3]; exact ff f a1 a2 a3 a4
  have fR : (jU K3 (217 + δ 0 1) (jV (K3 (217 + δ 0 1)) 2 (nI (s_nur tp n 0 32 (s_num tp n 1 10 (s_num tp n 1 21 y0)))))) (217 + δ 0 1) = jV (jV (jV (J (217 + δ 0 1)) 0 (nI (s_nur tp n 1 21 y0))) 1 (nI (s_nur tp n 1 10 (s_num tp n 1 21 y0)))) 2 (nI (s_nur tp n 0 32 (s_num tp n 1 10 (s_num tp n 1 21 y0)))) := by rw [jU_eq, M3.2 (217 + δ 0 1) (by omega), fR]
  generalize jU K3 (217 + δ 0 1) (jV (K3 (217 + δ 0 1)) 2 (nI (s_nur tp n 0 32 (s_num tp n 1 10 (s_num tp n 1 21 y0))))) = H at TH f7 f8 fa ff fR
  refine jW_bi (m_number hL TH (lo := 0) (hi := 41) (by omega) (hH_lit (a := 40) (by omega))) (fun K4 hK => ?_)
  obtain ⟨T4, M4⟩ := hK
  have g8 : K4 208 1 = nI (δ 0 1) := by rw [M4.2 208 (by omega), f8]; exact hC.1 1 (by omega)
  simp (disch := omega) only [g8, ↓dK_205 hL, ↓dG_205 hL, ↓dP_205 hL, ↓dZ_205 hL (x := nI 0) (Or.inl rfl), ↓dZ_205 hL (x := nI 1) (Or.inr rfl), ↓dZ_205 hL (Or.inl rfl), ↓dZ_205 hL (Or.inr rfl), ↓dZ_205 hL (nB_01 _), ↓dR_205_11 hL, dI_208 hL, dS_208 hL, ↓dR_205_19 hL, dA_216 hL, dI_217 hL, dS_217 hL, ↓reduceIte, ↓kq_bi, ↓kq_let, ↓kq_rz0, ↓kq_rz1, ↓kq_rzB, ↓Option.bind_some, kq_dvn, kt_lt, kf_lt, kt_eq, kf_eq, decide_true, decide_false, eq_self, Bool.false_eq_true, Bool.true_eq_false, not_true_eq_false, not_false_eq_true, jU_eq, jU_ne, jU_U, jV_eq, jV_ne, jV_V, kn_lit, kn_add, kn_mul, kn_sdm, kn_sub, kn_div, kn_nsdm, kn_lt, kn_eq, kn_pred, kn_m1, kn_m1', kn_a31, kn_shl, kn_shr, kn_bit, nB_0, nB_1, nB_t, nB_f, Nat.zero_add, Nat.add_zero, Nat.reduceAdd, Nat.reduceMul, Nat.reduceSub, Nat.reducePow]
  have TH := jTM_U T4 (a := (217 + δ 0 1)) (by omega) (f := jV (K4 (217 + δ 0 1)) 3 (nI (s_nur tp n 0 41 (s_num tp n 0 32 (s_num tp n 1 10 (s_num tp n 1 21 y0))))))
  have f7 : (jU K4 (217 + δ 0 1) (jV (K4 (217 + δ 0 1)) 3 (nI (s_nur tp n 0 41 (s_num tp n 0 32 (s_num tp n 1 10 (s_num tp n 1 21 y0))))))) 205 7 = nI (cl + 1) := by rw [jU_ne (by omega), M4.1 7 (by omega) (by omega) (by omega)]; exact f7
  have f8 : (jU K4 (217 + δ 0 1) (jV (K4 (217 + δ 0 1)) 3 (nI (s_nur tp n 0 41 (s_num tp n 0 32 (s_num tp n 1 10 (s_num tp n 1 21 y0))))))) 208 = J 208 := by rw [jU_ne (by omega), M4.2 208 (by omega)]; exact f8
  have fa : ∀ a, ¬ a = 205 → ¬ a = (217 + δ 0 1) → (jU K4 (217 + δ 0 1) (jV (K4 (217 + δ 0 1)) 3 (nI (s_nur tp n 0 41 (s_num tp n 0 32 (s_num tp n 1 10 (s_num tp n 1 21 y0))))))) a = J a := fun a ha hb => by rw [jU_ne hb, M4.2 a ha]; exact fa a ha hb
  have ff : ∀ f, ¬ f = 4 → ¬ f = 5 → ¬ f = 6 → ¬ f = 7 → (jU K4 (217 + δ 0 1) (jV (K4 (217 + δ 0 1)) 3 (nI (s_nur tp n 0 41 (s_num tp n 0 32 (s_num tp n 1 10 (s_num tp n 1 21 y0))))))) 205 f = J 205 f := fun f a1 a2 a3 a4 => by rw [jU_ne (by omega), M4.1 f a1 a2 a3]; exact ff f a1 a2 a3 a4
  have fR : (jU K4 (217 + δ 0 1) (jV (K4 (217 + δ 0 1)) 3 (nI (s_nur tp n 0 41 (s_num tp n 0 32 (s_num tp n 1 10 (s_num tp n 1 21 y0))))))) (217 + δ 0 1) = jV (jV (jV (jV (J (217 + δ 0 1)) 0 (nI (s_nur tp n 1 21 y0))) 1 (nI (s_nur tp n 1 10 (s_num tp n 1 21 y0)))) 2 (nI (s_nur tp n 0 32 (s_num tp n 1 10 (s_num tp n 1 21 y0))))) 3 (nI (s_nur tp n 0 41 (s_num tp n 0 32 (s_num tp n 1 10 (s_num tp n 1 21 y0))))) := by rw [jU_eq, M4.2 (217 + δ 0 1) (by omega), fR]
  generalize jU K4 (217 + δ 0 1) (jV (K4 (217 + δ 0 1)) 3 (nI (s_nur tp n 0 41 (s_num tp n 0 32 (s_num tp n 1 10 (s_num tp n 1 21 y0)))))) = H at TH f7 f8 fa ff fR
  obtain ⟨L, l0, l1, l2, l3, l4⟩ := m_b292 hL TH (j := 1) (by omega) (q := δ 0 1) (by omega) (by rw [f8]; exact hC.1 1 (by omega))
  refine jW_e l0 (hP L ⟨l1, (l3 7 (by omega) (by omega) (by omega)).trans f7, fun z => ?_, fun f a1 a2 a3 a4 => (l3 f a1 a2 a3).trans (ff f a1 a2 a3 a4), fun a a1 a2 => ?_⟩)
  · have z : (s_num tp n 0 41 (s_num tp n 0 32 (s_num tp n 1 10 (s_num tp n 1 21 y0)))).2.1 = 0 := z
    have z3 := (s_num_ok z).1
    have z2 := (s_num_ok z3).1
    have z1 := (s_num_ok z2).1
    rw [if_pos z, f8] at l2
    rw [s_nur_ok z1, s_nur_ok z2, s_nur_ok z3, s_nur_ok z] at fR
    have lR : L (217 + δ 0 1) = H (217 + δ 0 1) := l4 (217 + δ 0 1) (by omega) (by omega)
    rw [fR] at lR
    have la : ∀ a, ¬ a = 205 → ¬ a = 208 → ¬ a = (217 + δ 0 1) → L a = J a := fun a a1 a2 a3 => (l4 a a1 a2).trans (fa a a1 a3)
    refine jMD_add hC hD (by omega) l2 (fun c a1 a2 a3 => ?_) (fun c k a1 a2 a3 a4 => ?_)
    · have hc := s_kd_1 c a2 a1 a3
      rcases (show c = 2 ∨ c = 3 ∨ c = 4 ∨ c = 5 by omega) with rfl | rfl | rfl | rfl
      · refine ⟨?_, fun k hk => ?_⟩
        · show L (217 + δ 0 1) 0 = _
          rw [lR]
          rfl
        · show L (217 + k) 0 = J (217 + k) 0
          rw [la (217 + k) (by omega) (by omega) (by omega)]
      · refine ⟨?_, fun k hk => ?_⟩
        · show L (217 + δ 0 1) 1 = _
          rw [lR]
          rfl
        · show L (217 + k) 1 = J (217 + k) 1
          rw [la (217 + k) (by omega) (by omega) (by omega)]
      · refine ⟨?_, fun k hk => ?_⟩
        · show L (217 + δ 0 1) 2 = _
          rw [lR]
          rfl
        · show L (217 + k) 2 = J (217 + k) 2
          rw [la (217 + k) (by omega) (by omega) (by omega)]
      · refine ⟨?_, fun k hk => ?_⟩
        · show L (217 + δ 0 1) 3 = _
          rw [lR]
          rfl
        · show L (217 + k) 3 = J (217 + k) 3
          rw [la (217 + k) (by omega) (by omega) (by omega)]
    · have := s_ma_rg a1 a2 a3
      exact la _ (by omega) (by omega) (by omega)
  · have a2 : ¬ (a = 208 ∨ a = 210 ∨ a = 212 ∨ a = 214 ∨ (217 ≤ a ∧ a ≤ 222) ∨ (231 ≤ a ∧ a ≤ 240) ∨ (253 ≤ a ∧ a ≤ 258)) := a2
    exact (l4 a a1 (by omega)).trans (fa a a1 (by omega))
theorem m_b53_2 (hL : jLay t u l m b c h) (hT : jTM J tp n y) (h0 : y.2.1 = 0) (h4 : J 205 4 = nI (s_skp c_bl tp n y.1)) {cl : Nat} (hcl : cl ≤ 60) (h7 : J 205 7 = nI cl) (hC : jMD J δ) (hD : jTD δ) (hm : δ 0 2 < 10) (h9 : δ 0 0 ≤ 9) : ∃ K, F_Mod_clause_b53 205 (nI 2) (jz_I h J) = some (jz_I h K) ∧ jTM K tp n (s_nd tp n 59 (s_rdk tp n δ 2 (s_wd tp n y)).2) ∧ K 205 7 = nI (cl + 1) ∧ ((s_rdk tp n δ 2 (s_wd tp n y)).2.2.1 = 0 → jMD K (s_add δ 2 (s_rdk tp n δ 2 (s_wd tp n y)).1)) ∧ jMu J K := by
  have h5 : J 205 5 = nI 0 := by rw [← h0]; exact hT.2.2.1.1
  refine jE_n (fun P hP => ?_)
  unfold F_Mod_clause_b53
  simp (disch := omega) only [h5, ↓dK_205 hL, ↓dG_205 hL, ↓dP_205 hL, ↓dZ_205 hL (x := nI 0) (Or.inl rfl), ↓dZ_205 hL (x := nI 1) (Or.inr rfl), ↓dZ_205 hL (Or.inl rfl), ↓dZ_205 hL (Or.inr rfl), ↓dZ_205 hL (nB_01 _), ↓reduceIte, ↓kq_bi, ↓kq_let, ↓kq_rz0, ↓kq_rz1, ↓kq_rzB, ↓Option.bind_some, kq_dvn, kt_lt, kf_lt, kt_eq, kf_eq, decide_true, decide_false, eq_self, Bool.false_eq_true, Bool.true_eq_false, not_true_eq_false, not_false_eq_true, jU_eq, jU_ne, jU_U, jV_eq, jV_ne, jV_V, kn_lit, kn_add, kn_mul, kn_sdm, kn_sub, kn_div, kn_nsdm, kn_lt, kn_eq, kn_pred, kn_m1, kn_m1', kn_a31, kn_shl, kn_shr, kn_bit, nB_0, nB_1, nB_t, nB_f, Nat.zero_add, Nat.add_zero, Nat.reduceAdd, Nat.reduceMul, Nat.reduceSub, Nat.reducePow]
  refine jW_bn (m_skipWord hL hT h0 h4) (fun K0 hK => ?_)
  obtain ⟨T0, M0⟩ := hK
  have e7 : K0 205 7 = nI cl := by rw [M0.1 7 (by omega) (by omega) (by omega)]; exact h7
  have e8 : K0 208 2 = nI (δ 0 2) := by rw [M0.2 208 (by omega)]; exact hC.1 2 (by omega)
  have e80 : K0 208 0 = nI (δ 0 0) := by rw [M0.2 208 (by omega)]; exact hC.1 0 (by omega)
  simp (disch := omega) only [e7, e8, e80, ↓dK_205 hL, ↓dG_205 hL, ↓dP_205 hL, ↓dZ_205 hL (x := nI 0) (Or.inl rfl), ↓dZ_205 hL (x := nI 1) (Or.inr rfl), ↓dZ_205 hL (Or.inl rfl), ↓dZ_205 hL (Or.inr rfl), ↓dZ_205 hL (nB_01 _), ↓dR_205_11 hL, dI_208 hL, dS_208 hL, ↓dR_205_21 hL, dA_230 hL, dI_231 hL, dS_231 hL, ↓reduceIte, ↓kq_bi, ↓kq_let, ↓kq_rz0, ↓kq_rz1, ↓kq_rzB, ↓Option.bind_some, kq_dvn, kt_lt, kf_lt, kt_eq, kf_eq, decide_true, decide_false, eq_self, Bool.false_eq_true, Bool.true_eq_false, not_true_eq_false, not_false_eq_true, jU_eq, jU_ne, jU_U, jV_eq, jV_ne, jV_V, kn_lit, kn_add, kn_mul, kn_sdm, kn_sub, kn_div, kn_nsdm, kn_lt, kn_eq, kn_pred, kn_m1, kn_m1', kn_a31, kn_shl, kn_shr, kn_bit, nB_0, nB_1, nB_t, nB_f, Nat.zero_add, Nat.add_zero, Nat.reduceAdd, Nat.reduceMul, Nat.reduceSub, Nat.reducePow]
  have TH := jTM_7 T0 (x := nI (cl + 1))
  have f7 : (jU K0 205 (jV (K0 205) 7 (nI (cl + 1)))) 205 7 = nI (cl + 1) := by rw [jU_eq, jV_eq]
  have fa : ∀ a, ¬ a = 205 → (jU K0 205 (jV (K0 205) 7 (nI (cl + 1)))) a = J a := fun a ha => by rw [jU_ne ha]; exact M0.2 a ha
  have ff : ∀ f, ¬ f = 4 → ¬ f = 5 → ¬ f = 6 → ¬ f = 7 → (jU K0 205 (jV (K0 205) 7 (nI (cl + 1)))) 205 f = J 205 f := fun f a1 a2 a3 a4 => by rw [jU_eq, jV_ne a4]; exact M0.1 f a1 a2 a3
  generalize jU K0 205 (jV (K0 205) 7 (nI (cl + 1))) = H at TH f7 fa ff
  have f8 : H 208 = J 208 := fa 208 (by omega)
  have fR : H (231 + δ 0 2) = J (231 + δ 0 2) := fa (231 + δ 0 2) (by omega)
  have fa : ∀ a, ¬ a = 205 → ¬ a = (231 + δ 0 2) → H a = J a := fun a ha _ => fa a ha
  generalize s_wd tp n y = y0 at hP TH
  refine jW_bi (m_number hL TH (lo := 0) (hi := (δ 0 0)) (by omega) (hH_pred (by omega))) (fun K1 hK => ?_)
  obtain ⟨T1, M1⟩ := hK
  have g8 : K1 208 2 = nI (δ 0 2) := by rw [M1.2 208 (by omega), f8]; exact hC.1 2 (by omega)
  simp (disch := omega) only [g8, ↓dK_205 hL, ↓dG_205 hL, ↓dP_205 hL, ↓dZ_205 hL (x := nI 0) (Or.inl rfl), ↓dZ_205 hL (x := nI 1) (Or.inr rfl), ↓dZ_205 hL (Or.inl rfl), ↓dZ_205 hL (Or.inr rfl), ↓dZ_205 hL (nB_01 _), ↓dR_205_11 hL, dI_208 hL, dS_208 hL, ↓dR_205_21 hL, dA_230 hL, dI_231 hL, dS_231 hL, ↓reduceIte, ↓kq_bi, ↓kq_let, ↓kq_rz0, ↓kq_rz1, ↓kq_rzB, ↓Option.bind_some, kq_dvn, kt_lt, kf_lt, kt_eq, kf_eq, decide_true, decide_false, eq_self, Bool.false_eq_true, Bool.true_eq_false, not_true_eq_false, not_false_eq_true, jU_eq, jU_ne, jU_U, jV_eq, jV_ne, jV_V, kn_lit, kn_add, kn_mul, kn_sdm, kn_sub, kn_div, kn_nsdm, kn_lt, kn_eq, kn_pred, kn_m1, kn_m1', kn_a31, kn_shl, kn_shr, kn_bit, nB_0, nB_1, nB_t, nB_f, Nat.zero_add, Nat.add_zero, Nat.reduceAdd, Nat.reduceMul, Nat.reduceSub, Nat.reducePow]
  have TH := jTM_U T1 (a := (231 + δ 0 2)) (by omega) (f := jV (K1 (231 + δ 0 2)) 0 (nI (s_nur tp n 0 (δ 0 0) y0)))
  have f7 : (jU K1 (231 + δ 0 2) (jV (K1 (231 + δ 0 2)) 0 (nI (s_nur tp n 0 (δ 0 0) y0)))) 205 7 = nI (cl + 1) := by rw [jU_ne (by omega), M1.1 7 (by omega) (by omega) (by omega)]; exact f7
  have f8 : (jU K1 (231 + δ 0 2) (jV (K1 (231 + δ 0 2)) 0 (nI (s_nur tp n 0 (δ 0 0) y0)))) 208 = J 208 := by rw [jU_ne (by omega), M1.2 208 (by omega)]; exact f8
  have fa : ∀ a, ¬ a = 205 → ¬ a = (231 + δ 0 2) → (jU K1 (231 + δ 0 2) (jV (K1 (231 + δ 0 2)) 0 (nI (s_nur tp n 0 (δ 0 0) y0)))) a = J a := fun a ha hb => by rw [jU_ne hb, M1.2 a ha]; exact fa a ha hb
  have ff : ∀ f, ¬ f = 4 → ¬ f = 5 → ¬ f = 6 → ¬ f = 7 → (jU K1 (231 + δ 0 2) (jV (K1 (231 + δ 0 2)) 0 (nI (s_nur tp n 0 (δ 0 0) y0)))) 205 f = J 205 f := fun f a1 a2 a3 a4 => by rw [jU_ne (by omega), M1.1 f a1 a2 a3]; exact ff f a1 a2 a3 a4
  have fR : (jU K1 (231 + δ 0 2) (jV (K1 (231 + δ 0 2)) 0 (nI (s_nur tp n 0 (δ 0 0) y0)))) (231 + δ 0 2) = jV (J (231 + δ 0 2)) 0 (nI (s_nur tp n 0 (δ 0 0) y0)) := by rw [jU_eq, M1.2 (231 + δ 0 2) (by omega), fR]
  generalize jU K1 (231 + δ 0 2) (jV (K1 (231 + δ 0 2)) 0 (nI (s_nur tp n 0 (δ 0 0) y0))) = H at TH f7 f8 fa ff fR
  refine jW_bi (m_number hL TH (lo := 0) (hi := 100) (by omega) (hH_lit (a := 99) (by omega))) (fun K2 hK => ?_)
  obtain ⟨T2, M2⟩ := hK
  have g8 : K2 208 2 = nI (δ 0 2) := by rw [M2.2 208 (by omega), f8]; exact hC.1 2 (by omega)
  simp (disch := omega) only [g8, ↓dK_205 hL, ↓dG_205 hL, ↓dP_205 hL, ↓dZ_205 hL (x := nI 0) (Or.inl rfl), ↓dZ_205 hL (x := nI 1) (Or.inr rfl), ↓dZ_205 hL (Or.inl rfl), ↓dZ_205 hL (Or.inr rfl), ↓dZ_205 hL (nB_01 _), ↓dR_205_11 hL, dI_208 hL, dS_208 hL, ↓dR_205_21 hL, dA_230 hL, dI_231 hL, dS_231 hL, ↓reduceIte, ↓kq_bi, ↓kq_let, ↓kq_rz0, ↓kq_rz1, ↓kq_rzB, ↓Option.bind_some, kq_dvn, kt_lt, kf_lt, kt_eq, kf_eq, decide_true, decide_false, eq_self, Bool.false_eq_true, Bool.true_eq_false, not_true_eq_false, not_false_eq_true, jU_eq, jU_ne, jU_U, jV_eq, jV_ne, jV_V, kn_lit, kn_add, kn_mul, kn_sdm, kn_sub, kn_div, kn_nsdm, kn_lt, kn_eq, kn_pred, kn_m1, kn_m1', kn_a31, kn_shl, kn_shr, kn_bit, nB_0, nB_1, nB_t, nB_f, Nat.zero_add, Nat.add_zero, Nat.reduceAdd, Nat.reduceMul, Nat.reduceSub, Nat.reducePow]
  have TH := jTM_U T2 (a := (231 + δ 0 2)) (by omega) (f := jV (K2 (231 + δ 0 2)) 1 (nI (s_nur tp n 0 100 (s_num tp n 0 (δ 0 0) y0))))
  have f7 : (jU K2 (231 + δ 0 2) (jV (K2 (231 + δ 0 2)) 1 (nI (s_nur tp n 0 100 (s_num tp n 0 (δ 0 0) y0))))) 205 7 = nI (cl + 1) := by rw [jU_ne (by omega), M2.1 7 (by omega) (by omega) (by omega)]; exact f7
  have f8 : (jU K2 (231 + δ 0 2) (jV (K2 (231 + δ 0 2)) 1 (nI (s_nur tp n 0 100 (s_num tp n 0 (δ 0 0) y0))))) 208 = J 208 := by rw [jU_ne (by omega), M2.2 208 (by omega)]; exact f8
  have fa : ∀ a, ¬ a = 205 → ¬ a = (231 + δ 0 2) → (jU K2 (231 + δ 0 2) (jV (K2 (231 + δ 0 2)) 1 (nI (s_nur tp n 0 100 (s_num tp n 0 (δ 0 0) y0))))) a = J a := fun a ha hb => by rw [jU_ne hb, M2.2 a ha]; exact fa a ha hb
  have ff : ∀ f, ¬ f = 4 → ¬ f = 5 → ¬ f = 6 → ¬ f = 7 → (jU K2 (231 + δ 0 2) (jV (K2 (231 + δ 0 2)) 1 (nI (s_nur tp n 0 100 (s_num tp n 0 (δ 0 0) y0))))) 205 f = J 205 f := fun f a1 a2 a3 a4 => by rw [jU_ne (by omega), M2.1 f a1 a2 a3]; exact ff f a1 a2 a3 a4
  have fR : (jU K2 (231 + δ 0 2) (jV (K2 (231 + δ 0 2)) 1 (nI (s_nur tp n 0 100 (s_num tp n 0 (δ 0 0) y0))))) (231 + δ 0 2) = jV (jV (J (231 + δ 0 2)) 0 (nI (s_nur tp n 0 (δ 0 0) y0))) 1 (nI (s_nur tp n 0 100 (s_num tp n 0 (δ 0 0) y0))) := by rw [jU_eq, M2.2 (231 + δ 0 2) (by omega), fR]
  generalize jU K2 (231 + δ 0 2) (jV (K2 (231 + δ 0 2)) 1 (nI (s_nur tp n 0 100 (s_num tp n 0 (δ 0 0) y0)))) = H at TH f7 f8 fa ff fR
  refine jW_bi (m_number hL TH (lo := 0) (hi := 10) (by omega) (hH_lit (a := 9) (by omega))) (fun K3 hK => ?_)
  obtain ⟨T3, M3⟩ := hK
  have g8 : K3 208 2 = nI (δ 0 2) := by rw [M3.2 208 (by omega), f8]; exact hC.1 2 (by omega)
  simp (disch := omega) only [g8, ↓dK_205 hL, ↓dG_205 hL, ↓dP_205 hL, ↓dZ_205 hL (x := nI 0) (Or.inl rfl), ↓dZ_205 hL (x := nI 1) (Or.inr rfl), ↓dZ_205 hL (Or.inl rfl), ↓dZ_205 hL (Or.inr rfl), ↓dZ_205 hL (nB_01 _), ↓dR_205_11 hL, dI_208 hL, dS_208 hL, ↓dR_205_21 hL, dA_230 hL, dI_231 hL, dS_231 hL, ↓reduceIte, ↓kq_bi, ↓kq_let, ↓kq_rz0, ↓kq_rz1, ↓kq_rzB, ↓Option.bind_some, kq_dvn, kt_lt, kf_lt, kt_eq, kf_eq, decide_true, decide_false, eq_self, Bool.false_eq_true, Bool.true_eq_false, not_true_eq_false, not_false_eq_true, jU_eq, jU_ne, jU_U, jV_eq, jV_ne, jV_V, kn_lit, kn_add, kn_mul, kn_sdm, kn_sub, kn_div, kn_nsdm, kn_lt, kn_eq, kn_pred, kn_m1, kn_m1', kn_a31, kn_shl, kn_shr, kn_bit, nB_0, nB_1, nB_t, nB_f, Nat.zero_add, Nat.add_zero, Nat.reduceAdd, Nat.reduceMul, Nat.reduceSub, Nat.reducePow]
  have TH := jTM_U T3 (a := (231 + δ 0 2)) (by omega) (f := jV (K3 (231 + δ 0 2)) 2 (nI (s_nur tp n 0 10 (s_num tp n 0 100 (s_num tp n 0 (δ 0 0) y0)))))
  have f7 : (jU K3 (231 + δ 0 2) (jV (K3 (231 + δ 0 2)) 2 (nI (s_nur tp n 0 10 (s_num tp n 0 100 (s_num tp n 0 (δ 0 0) y0)))))) 205 7 = nI (cl + 1) := by rw [jU_ne (by omega), M3.1 7 (by omega) (by omega) (by omega)]; exact f7
  have f8 : (jU K3 (231 + δ 0 2) (jV (K3 (231 + δ 0 2)) 2 (nI (s_nur tp n 0 10 (s_num tp n 0 100 (s_num tp n 0 (δ 0 0) y0)))))) 208 = J 208 := by rw [jU_ne (by omega), M3.2 208 (by omega)]; exact f8
  have fa : ∀ a, ¬ a = 205 → ¬ a = (231 + δ 0 2) → (jU K3 (231 + δ 0 2) (jV (K3 (231 + δ 0 2)) 2 (nI (s_nur tp n 0 10 (s_num tp n 0 100 (s_num tp n 0 (δ 0 0) y0)))))) a = J a := fun a ha hb => by rw [jU_ne hb, M3.2 a ha]; exact fa a ha hb
  have ff : ∀ f, ¬ f = 4 → ¬ f = 5 → ¬ f = 6 → ¬ f = 7 → (jU K3 (231 + δ 0 2) (jV (K3 (231 + δ 0 2)) 2 (nI (s_nur tp n 0 10 (s_num tp n 0 100 (s_num tp n 0 (δ 0 0) y0)))))) 205 f = J 205 f := fun f a1 a2 a3 a4 => by rw [jU_ne (by omega), M3.1 f a1 a2 a3]; exact ff f a1 a2 a3 a4
  have fR : (jU K3 (231 + δ 0 2) (jV (K3 (231 + δ 0 2)) 2 (nI (s_nur tp n 0 10 (s_num tp n 0 100 (s_num tp n 0 (δ 0 0) y0)))))) (231 + δ 0 2) = jV (jV (jV (J (231 + δ 0 2)) 0 (nI (s_nur tp n 0 (δ 0 0) y0))) 1 (nI (s_nur tp n 0 100 (s_num tp n 0 (δ 0 0) y0)))) 2 (nI (s_nur tp n 0 10 (s_num tp n 0 100 (s_num tp n 0 (δ 0 0) y0)))) := by rw [jU_eq, M3.2 (231 + δ 0 2) (by omega), fR]
  generalize jU K3 (231 + δ 0 2) (jV (K3 (231 + δ 0 2)) 2 (nI (s_nur tp n 0 10 (s_num tp n 0 100 (s_num tp n 0 (δ 0 0) y0))))) = H at TH f7 f8 fa ff fR
  obtain ⟨L, l0, l1, l2, l3, l4⟩ := m_b292 hL TH (j := 2) (by omega) (q := δ 0 2) (by omega) (by rw [f8]; exact hC.1 2 (by omega))
  refine jW_e l0 (hP L ⟨l1, (l3 7 (by omega) (by omega) (by omega)).trans f7, fun z => ?_, fun f a1 a2 a3 a4 => (l3 f a1 a2 a3).trans (ff f a1 a2 a3 a4), fun a a1 a2 => ?_⟩)
  · have z : (s_num tp n 0 10 (s_num tp n 0 100 (s_num tp n 0 (δ 0 0) y0))).2.1 = 0 := z
    have z2 := (s_num_ok z).1
    have z1 := (s_num_ok z2).1
    rw [if_pos z, f8] at l2
    rw [s_nur_ok z1, s_nur_ok z2, s_nur_ok z] at fR
    have lR : L (231 + δ 0 2) = H (231 + δ 0 2) := l4 (231 + δ 0 2) (by omega) (by omega)
    rw [fR] at lR
    have la : ∀ a, ¬ a = 205 → ¬ a = 208 → ¬ a = (231 + δ 0 2) → L a = J a := fun a a1 a2 a3 => (l4 a a1 a2).trans (fa a a1 a3)
    refine jMD_add hC hD (by omega) l2 (fun c a1 a2 a3 => ?_) (fun c k a1 a2 a3 a4 => ?_)
    · have hc := s_kd_2 c a2 a1 a3
      rcases (show c = 9 ∨ c = 10 ∨ c = 11 by omega) with rfl | rfl | rfl
      · refine ⟨?_, fun k hk => ?_⟩
        · show L (231 + δ 0 2) 0 = _
          rw [lR]
          rfl
        · show L (231 + k) 0 = J (231 + k) 0
          rw [la (231 + k) (by omega) (by omega) (by omega)]
      · refine ⟨?_, fun k hk => ?_⟩
        · show L (231 + δ 0 2) 1 = _
          rw [lR]
          rfl
        · show L (231 + k) 1 = J (231 + k) 1
          rw [la (231 + k) (by omega) (by omega) (by omega)]
      · refine ⟨?_, fun k hk => ?_⟩
        · show L (231 + δ 0 2) 2 = _
          rw [lR]
          rfl
        · show L (231 + k) 2 = J (231 + k) 2
          rw [la (231 + k) (by omega) (by omega) (by omega)]
    · have := s_ma_rg a1 a2 a3
      exact la _ (by omega) (by omega) (by omega)
  · have a2 : ¬ (a = 208 ∨ a = 210 ∨ a = 212 ∨ a = 214 ∨ (217 ≤ a ∧ a ≤ 222) ∨ (231 ≤ a ∧ a ≤ 240) ∨ (253 ≤ a ∧ a ≤ 258)) := a2
    exact (l4 a a1 (by omega)).trans (fa a a1 (by omega))
theorem m_b53_3 (hL : jLay t u l m b c h) (hT : jTM J tp n y) (h0 : y.2.1 = 0) (h4 : J 205 4 = nI (s_skp c_bl tp n y.1)) {cl : Nat} (hcl : cl ≤ 60) (h7 : J 205 7 = nI cl) (hC : jMD J δ) (hD : jTD δ) (hm : δ 0 3 < 8) : ∃ K, F_Mod_clause_b53 205 (nI 3) (jz_I h J) = some (jz_I h K) ∧ jTM K tp n (s_nd tp n 59 (s_rdk tp n δ 3 (s_wd tp n y)).2) ∧ K 205 7 = nI (cl + 1) ∧ ((s_rdk tp n δ 3 (s_wd tp n y)).2.2.1 = 0 → jMD K (s_add δ 3 (s_rdk tp n δ 3 (s_wd tp n y)).1)) ∧ jMu J K := by
  have h5 : J 205 5 = nI 0 := by rw [← h0]; exact hT.2.2.1.1
  refine jE_n (fun P hP => ?_)
  unfold F_Mod_clause_b53
  simp (disch := omega) only [h5, ↓dK_205 hL, ↓dG_205 hL, ↓dP_205 hL, ↓dZ_205 hL (x := nI 0) (Or.inl rfl), ↓dZ_205 hL (x := nI 1) (Or.inr rfl), ↓dZ_205 hL (Or.inl rfl), ↓dZ_205 hL (Or.inr rfl), ↓dZ_205 hL (nB_01 _), ↓reduceIte, ↓kq_bi, ↓kq_let, ↓kq_rz0, ↓kq_rz1, ↓kq_rzB, ↓Option.bind_some, kq_dvn, kt_lt, kf_lt, kt_eq, kf_eq, decide_true, decide_false, eq_self, Bool.false_eq_true, Bool.true_eq_false, not_true_eq_false, not_false_eq_true, jU_eq, jU_ne, jU_U, jV_eq, jV_ne, jV_V, kn_lit, kn_add, kn_mul, kn_sdm, kn_sub, kn_div, kn_nsdm, kn_lt, kn_eq, kn_pred, kn_m1, kn_m1', kn_a31, kn_shl, kn_shr, kn_bit, nB_0, nB_1, nB_t, nB_f, Nat.zero_add, Nat.add_zero, Nat.reduceAdd, Nat.reduceMul, Nat.reduceSub, Nat.reducePow]
  refine jW_bn (m_skipWord hL hT h0 h4) (fun K0 hK => ?_)
  obtain ⟨T0, M0⟩ := hK
  have e7 : K0 205 7 = nI cl := by rw [M0.1 7 (by omega) (by omega) (by omega)]; exact h7
  have e8 : K0 208 3 = nI (δ 0 3) := by rw [M0.2 208 (by omega)]; exact hC.1 3 (by omega)
  simp (disch := omega) only [e7, e8, ↓dK_205 hL, ↓dG_205 hL, ↓dP_205 hL, ↓dZ_205 hL (x := nI 0) (Or.inl rfl), ↓dZ_205 hL (x := nI 1) (Or.inr rfl), ↓dZ_205 hL (Or.inl rfl), ↓dZ_205 hL (Or.inr rfl), ↓dZ_205 hL (nB_01 _), ↓dR_205_11 hL, dI_208 hL, dS_208 hL, ↓dR_205_17 hL, dI_214 hL, dS_214 hL, ↓reduceIte, ↓kq_bi, ↓kq_let, ↓kq_rz0, ↓kq_rz1, ↓kq_rzB, ↓Option.bind_some, kq_dvn, kt_lt, kf_lt, kt_eq, kf_eq, decide_true, decide_false, eq_self, Bool.false_eq_true, Bool.true_eq_false, not_true_eq_false, not_false_eq_true, jU_eq, jU_ne, jU_U, jV_eq, jV_ne, jV_V, kn_lit, kn_add, kn_mul, kn_sdm, kn_sub, kn_div, kn_nsdm, kn_lt, kn_eq, kn_pred, kn_m1, kn_m1', kn_a31, kn_shl, kn_shr, kn_bit, nB_0, nB_1, nB_t, nB_f, Nat.zero_add, Nat.add_zero, Nat.reduceAdd, Nat.reduceMul, Nat.reduceSub, Nat.reducePow]
  have TH := jTM_7 T0 (x := nI (cl + 1))
  have f7 : (jU K0 205 (jV (K0 205) 7 (nI (cl + 1)))) 205 7 = nI (cl + 1) := by rw [jU_eq, jV_eq]
  have fa : ∀ a, ¬ a = 205 → (jU K0 205 (jV (K0 205) 7 (nI (cl + 1)))) a = J a := fun a ha => by rw [jU_ne ha]; exact M0.2 a ha
  have ff : ∀ f, ¬ f = 4 → ¬ f = 5 → ¬ f = 6 → ¬ f = 7 → (jU K0 205 (jV (K0 205) 7 (nI (cl + 1)))) 205 f = J 205 f := fun f a1 a2 a3 a4 => by rw [jU_eq, jV_ne a4]; exact M0.1 f a1 a2 a3
  generalize jU K0 205 (jV (K0 205) 7 (nI (cl + 1))) = H at TH f7 fa ff
  have f8 : H 208 = J 208 := fa 208 (by omega)
  have fR : H 214 = J 214 := fa 214 (by omega)
  have fa : ∀ a, ¬ a = 205 → ¬ a = 214 → H a = J a := fun a ha _ => fa a ha
  generalize s_wd tp n y = y0 at hP TH
  refine jW_bi (m_number hL TH (lo := 0) (hi := 512) (by omega) (hH_lit (a := 511) (by omega))) (fun K1 hK => ?_)
  obtain ⟨T1, M1⟩ := hK
  have g8 : K1 208 3 = nI (δ 0 3) := by rw [M1.2 208 (by omega), f8]; exact hC.1 3 (by omega)
  simp (disch := omega) only [g8, ↓dK_205 hL, ↓dG_205 hL, ↓dP_205 hL, ↓dZ_205 hL (x := nI 0) (Or.inl rfl), ↓dZ_205 hL (x := nI 1) (Or.inr rfl), ↓dZ_205 hL (Or.inl rfl), ↓dZ_205 hL (Or.inr rfl), ↓dZ_205 hL (nB_01 _), ↓dR_205_11 hL, dI_208 hL, dS_208 hL, ↓dR_205_17 hL, dI_214 hL, dS_214 hL, ↓reduceIte, ↓kq_bi, ↓kq_let, ↓kq_rz0, ↓kq_rz1, ↓kq_rzB, ↓Option.bind_some, kq_dvn, kt_lt, kf_lt, kt_eq, kf_eq, decide_true, decide_false, eq_self, Bool.false_eq_true, Bool.true_eq_false, not_true_eq_false, not_false_eq_true, jU_eq, jU_ne, jU_U, jV_eq, jV_ne, jV_V, kn_lit, kn_add, kn_mul, kn_sdm, kn_sub, kn_div, kn_nsdm, kn_lt, kn_eq, kn_pred, kn_m1, kn_m1', kn_a31, kn_shl, kn_shr, kn_bit, nB_0, nB_1, nB_t, nB_f, Nat.zero_add, Nat.add_zero, Nat.reduceAdd, Nat.reduceMul, Nat.reduceSub, Nat.reducePow]
  have TH := jTM_U T1 (a := 214) (by omega) (f := jV (K1 214) (δ 0 3) (nI (s_nur tp n 0 512 y0)))
  have f7 : (jU K1 214 (jV (K1 214) (δ 0 3) (nI (s_nur tp n 0 512 y0)))) 205 7 = nI (cl + 1) := by rw [jU_ne (by omega), M1.1 7 (by omega) (by omega) (by omega)]; exact f7
  have f8 : (jU K1 214 (jV (K1 214) (δ 0 3) (nI (s_nur tp n 0 512 y0)))) 208 = J 208 := by rw [jU_ne (by omega), M1.2 208 (by omega)]; exact f8
  have fa : ∀ a, ¬ a = 205 → ¬ a = 214 → (jU K1 214 (jV (K1 214) (δ 0 3) (nI (s_nur tp n 0 512 y0)))) a = J a := fun a ha hb => by rw [jU_ne hb, M1.2 a ha]; exact fa a ha hb
  have ff : ∀ f, ¬ f = 4 → ¬ f = 5 → ¬ f = 6 → ¬ f = 7 → (jU K1 214 (jV (K1 214) (δ 0 3) (nI (s_nur tp n 0 512 y0)))) 205 f = J 205 f := fun f a1 a2 a3 a4 => by rw [jU_ne (by omega), M1.1 f a1 a2 a3]; exact ff f a1 a2 a3 a4
  have fR : (jU K1 214 (jV (K1 214) (δ 0 3) (nI (s_nur tp n 0 512 y0)))) 214 = jV (J 214) (δ 0 3) (nI (s_nur tp n 0 512 y0)) := by rw [jU_eq, M1.2 214 (by omega), fR]
  generalize jU K1 214 (jV (K1 214) (δ 0 3) (nI (s_nur tp n 0 512 y0))) = H at TH f7 f8 fa ff fR
  obtain ⟨L, l0, l1, l2, l3, l4⟩ := m_b292 hL TH (j := 3) (by omega) (q := δ 0 3) (by omega) (by rw [f8]; exact hC.1 3 (by omega))
  refine jW_e l0 (hP L ⟨l1, (l3 7 (by omega) (by omega) (by omega)).trans f7, fun z => ?_, fun f a1 a2 a3 a4 => (l3 f a1 a2 a3).trans (ff f a1 a2 a3 a4), fun a a1 a2 => ?_⟩)
  · have z : (s_num tp n 0 512 y0).2.1 = 0 := z
    rw [if_pos z, f8] at l2
    rw [s_nur_ok z] at fR
    have lR : L 214 = H 214 := l4 214 (by omega) (by omega)
    rw [fR] at lR
    have la : ∀ a, ¬ a = 205 → ¬ a = 208 → ¬ a = 214 → L a = J a := fun a a1 a2 a3 => (l4 a a1 a2).trans (fa a a1 a3)
    refine jMD_add hC hD (by omega) l2 (fun c a1 a2 a3 => ?_) (fun c k a1 a2 a3 a4 => ?_)
    · cases s_kd_3 c a2 a1 a3
      refine ⟨?_, fun k hk => ?_⟩
      · show L 214 (δ 0 3) = _
        rw [lR, jV_eq]; rfl
      · show L 214 k = J 214 k
        rw [lR, jV_ne (by omega)]
    · have := s_ma_rg a1 a2 a3
      exact la _ (by omega) (by omega) (by omega)
  · have a2 : ¬ (a = 208 ∨ a = 210 ∨ a = 212 ∨ a = 214 ∨ (217 ≤ a ∧ a ≤ 222) ∨ (231 ≤ a ∧ a ≤ 240) ∨ (253 ≤ a ∧ a ≤ 258)) := a2
    exact (l4 a a1 (by omega)).trans (fa a a1 (by omega))
theorem m_b53_4 (hL : jLay t u l m b c h) (hT : jTM J tp n y) (h0 : y.2.1 = 0) (h4 : J 205 4 = nI (s_skp c_bl tp n y.1)) {cl : Nat} (hcl : cl ≤ 60) (h7 : J 205 7 = nI cl) (hC : jMD J δ) (hD : jTD δ) (hm : δ 0 4 < 24) : ∃ K, F_Mod_clause_b53 205 (nI 4) (jz_I h J) = some (jz_I h K) ∧ jTM K tp n (s_nd tp n 59 (s_rdk tp n δ 4 (s_wd tp n y)).2) ∧ K 205 7 = nI (cl + 1) ∧ ((s_rdk tp n δ 4 (s_wd tp n y)).2.2.1 = 0 → jMD K (s_add δ 4 (s_rdk tp n δ 4 (s_wd tp n y)).1)) ∧ jMu J K := by
  have h5 : J 205 5 = nI 0 := by rw [← h0]; exact hT.2.2.1.1
  refine jE_n (fun P hP => ?_)
  unfold F_Mod_clause_b53
  simp (disch := omega) only [h5, ↓dK_205 hL, ↓dG_205 hL, ↓dP_205 hL, ↓dZ_205 hL (x := nI 0) (Or.inl rfl), ↓dZ_205 hL (x := nI 1) (Or.inr rfl), ↓dZ_205 hL (Or.inl rfl), ↓dZ_205 hL (Or.inr rfl), ↓dZ_205 hL (nB_01 _), ↓reduceIte, ↓kq_bi, ↓kq_let, ↓kq_rz0, ↓kq_rz1, ↓kq_rzB, ↓Option.bind_some, kq_dvn, kt_lt, kf_lt, kt_eq, kf_eq, decide_true, decide_false, eq_self, Bool.false_eq_true, Bool.true_eq_false, not_true_eq_false, not_false_eq_true, jU_eq, jU_ne, jU_U, jV_eq, jV_ne, jV_V, kn_lit, kn_add, kn_mul, kn_sdm, kn_sub, kn_div, kn_nsdm, kn_lt, kn_eq, kn_pred, kn_m1, kn_m1', kn_a31, kn_shl, kn_shr, kn_bit, nB_0, nB_1, nB_t, nB_f, Nat.zero_add, Nat.add_zero, Nat.reduceAdd, Nat.reduceMul, Nat.reduceSub, Nat.reducePow]
  refine jW_bn (m_skipWord hL hT h0 h4) (fun K0 hK => ?_)
  obtain ⟨T0, M0⟩ := hK
  have e7 : K0 205 7 = nI cl := by rw [M0.1 7 (by omega) (by omega) (by omega)]; exact h7
  have e8 : K0 208 4 = nI (δ 0 4) := by rw [M0.2 208 (by omega)]; exact hC.1 4 (by omega)
  simp (disch := omega) only [e7, e8, ↓dK_205 hL, ↓dG_205 hL, ↓dP_205 hL, ↓dZ_205 hL (x := nI 0) (Or.inl rfl), ↓dZ_205 hL (x := nI 1) (Or.inr rfl), ↓dZ_205 hL (Or.inl rfl), ↓dZ_205 hL (Or.inr rfl), ↓dZ_205 hL (nB_01 _), ↓dR_205_11 hL, dI_208 hL, dS_208 hL, ↓dR_205_15 hL, dI_212 hL, dS_212 hL, ↓reduceIte, ↓kq_bi, ↓kq_let, ↓kq_rz0, ↓kq_rz1, ↓kq_rzB, ↓Option.bind_some, kq_dvn, kt_lt, kf_lt, kt_eq, kf_eq, decide_true, decide_false, eq_self, Bool.false_eq_true, Bool.true_eq_false, not_true_eq_false, not_false_eq_true, jU_eq, jU_ne, jU_U, jV_eq, jV_ne, jV_V, kn_lit, kn_add, kn_mul, kn_sdm, kn_sub, kn_div, kn_nsdm, kn_lt, kn_eq, kn_pred, kn_m1, kn_m1', kn_a31, kn_shl, kn_shr, kn_bit, nB_0, nB_1, nB_t, nB_f, Nat.zero_add, Nat.add_zero, Nat.reduceAdd, Nat.reduceMul, Nat.reduceSub, Nat.reducePow]
  have TH := jTM_7 T0 (x := nI (cl + 1))
  have f7 : (jU K0 205 (jV (K0 205) 7 (nI (cl + 1)))) 205 7 = nI (cl + 1) := by rw [jU_eq, jV_eq]
  have fa : ∀ a, ¬ a = 205 → (jU K0 205 (jV (K0 205) 7 (nI (cl + 1)))) a = J a := fun a ha => by rw [jU_ne ha]; exact M0.2 a ha
  have ff : ∀ f, ¬ f = 4 → ¬ f = 5 → ¬ f = 6 → ¬ f = 7 → (jU K0 205 (jV (K0 205) 7 (nI (cl + 1)))) 205 f = J 205 f := fun f a1 a2 a3 a4 => by rw [jU_eq, jV_ne a4]; exact M0.1 f a1 a2 a3
  generalize jU K0 205 (jV (K0 205) 7 (nI (cl + 1))) = H at TH f7 fa ff
  have f8 : H 208 = J 208 := fa 208 (by omega)
  have fR : H 212 = J 212 := fa 212 (by omega)
  have fa : ∀ a, ¬ a = 205 → ¬ a = 212 → H a = J a := fun a ha _ => fa a ha
  generalize s_wd tp n y = y0 at hP TH
  refine jW_bi (m_number hL TH (lo := 0) (hi := 9) (by omega) (hH_lit (a := 8) (by omega))) (fun K1 hK => ?_)
  obtain ⟨T1, M1⟩ := hK
  have g8 : K1 208 4 = nI (δ 0 4) := by rw [M1.2 208 (by omega), f8]; exact hC.1 4 (by omega)
  simp (disch := omega) only [g8, ↓dK_205 hL, ↓dG_205 hL, ↓dP_205 hL, ↓dZ_205 hL (x := nI 0) (Or.inl rfl), ↓dZ_205 hL (x := nI 1) (Or.inr rfl), ↓dZ_205 hL (Or.inl rfl), ↓dZ_205 hL (Or.inr rfl), ↓dZ_205 hL (nB_01 _), ↓dR_205_11 hL, dI_208 hL, dS_208 hL, ↓dR_205_15 hL, dI_212 hL, dS_212 hL, ↓reduceIte, ↓kq_bi, ↓kq_let, ↓kq_rz0, ↓kq_rz1, ↓kq_rzB, ↓Option.bind_some, kq_dvn, kt_lt, kf_lt, kt_eq, kf_eq, decide_true, decide_false, eq_self, Bool.false_eq_true, Bool.true_eq_false, not_true_eq_false, not_false_eq_true, jU_eq, jU_ne, jU_U, jV_eq, jV_ne, jV_V, kn_lit, kn_add, kn_mul, kn_sdm, kn_sub, kn_div, kn_nsdm, kn_lt, kn_eq, kn_pred, kn_m1, kn_m1', kn_a31, kn_shl, kn_shr, kn_bit, nB_0, nB_1, nB_t, nB_f, Nat.zero_add, Nat.add_zero, Nat.reduceAdd, Nat.reduceMul, Nat.reduceSub, Nat.reducePow]
  have TH := jTM_U T1 (a := 212) (by omega) (f := jV (K1 212) (δ 0 4) (nI (s_nur tp n 0 9 y0)))
  have f7 : (jU K1 212 (jV (K1 212) (δ 0 4) (nI (s_nur tp n 0 9 y0)))) 205 7 = nI (cl + 1) := by rw [jU_ne (by omega), M1.1 7 (by omega) (by omega) (by omega)]; exact f7
  have f8 : (jU K1 212 (jV (K1 212) (δ 0 4) (nI (s_nur tp n 0 9 y0)))) 208 = J 208 := by rw [jU_ne (by omega), M1.2 208 (by omega)]; exact f8
  have fa : ∀ a, ¬ a = 205 → ¬ a = 212 → (jU K1 212 (jV (K1 212) (δ 0 4) (nI (s_nur tp n 0 9 y0)))) a = J a := fun a ha hb => by rw [jU_ne hb, M1.2 a ha]; exact fa a ha hb
  have ff : ∀ f, ¬ f = 4 → ¬ f = 5 → ¬ f = 6 → ¬ f = 7 → (jU K1 212 (jV (K1 212) (δ 0 4) (nI (s_nur tp n 0 9 y0)))) 205 f = J 205 f := fun f a1 a2 a3 a4 => by rw [jU_ne (by omega), M1.1 f a1 a2 a3]; exact ff f a1 a2 a3 a4
  have fR : (jU K1 212 (jV (K1 212) (δ 0 4) (nI (s_nur tp n 0 9 y0)))) 212 = jV (J 212) (δ 0 4) (nI (s_nur tp n 0 9 y0)) := by rw [jU_eq, M1.2 212 (by omega), fR]
  generalize jU K1 212 (jV (K1 212) (δ 0 4) (nI (s_nur tp n 0 9 y0))) = H at TH f7 f8 fa ff fR
  obtain ⟨L, l0, l1, l2, l3, l4⟩ := m_b292 hL TH (j := 4) (by omega) (q := δ 0 4) (by omega) (by rw [f8]; exact hC.1 4 (by omega))
  refine jW_e l0 (hP L ⟨l1, (l3 7 (by omega) (by omega) (by omega)).trans f7, fun z => ?_, fun f a1 a2 a3 a4 => (l3 f a1 a2 a3).trans (ff f a1 a2 a3 a4), fun a a1 a2 => ?_⟩)
  · have z : (s_num tp n 0 9 y0).2.1 = 0 := z
    rw [if_pos z, f8] at l2
    rw [s_nur_ok z] at fR
    have lR : L 212 = H 212 := l4 212 (by omega) (by omega)
    rw [fR] at lR
    have la : ∀ a, ¬ a = 205 → ¬ a = 208 → ¬ a = 212 → L a = J a := fun a a1 a2 a3 => (l4 a a1 a2).trans (fa a a1 a3)
    refine jMD_add hC hD (by omega) l2 (fun c a1 a2 a3 => ?_) (fun c k a1 a2 a3 a4 => ?_)
    · cases s_kd_4 c a2 a1 a3
      refine ⟨?_, fun k hk => ?_⟩
      · show L 212 (δ 0 4) = _
        rw [lR, jV_eq]; rfl
      · show L 212 k = J 212 k
        rw [lR, jV_ne (by omega)]
    · have := s_ma_rg a1 a2 a3
      exact la _ (by omega) (by omega) (by omega)
  · have a2 : ¬ (a = 208 ∨ a = 210 ∨ a = 212 ∨ a = 214 ∨ (217 ≤ a ∧ a ≤ 222) ∨ (231 ≤ a ∧ a ≤ 240) ∨ (253 ≤ a ∧ a ≤ 258)) := a2
    exact (l4 a a1 (by omega)).trans (fa a a1 (by omega))
theorem m_b53_5 (hL : jLay t u l m b c h) (hT : jTM J tp n y) (h0 : y.2.1 = 0) (h4 : J 205 4 = nI (s_skp c_bl tp n y.1)) {cl : Nat} (hcl : cl ≤ 60) (h7 : J 205 7 = nI cl) (hC : jMD J δ) (hD : jTD δ) (hm : δ 0 5 < 6) : ∃ K, F_Mod_clause_b53 205 (nI 5) (jz_I h J) = some (jz_I h K) ∧ jTM K tp n (s_nd tp n 59 (s_rdk tp n δ 5 (s_wd tp n y)).2) ∧ K 205 7 = nI (cl + 1) ∧ ((s_rdk tp n δ 5 (s_wd tp n y)).2.2.1 = 0 → jMD K (s_add δ 5 (s_rdk tp n δ 5 (s_wd tp n y)).1)) ∧ jMu J K := by
  have h5 : J 205 5 = nI 0 := by rw [← h0]; exact hT.2.2.1.1
  refine jE_n (fun P hP => ?_)
  unfold F_Mod_clause_b53
  simp (disch := omega) only [h5, ↓dK_205 hL, ↓dG_205 hL, ↓dP_205 hL, ↓dZ_205 hL (x := nI 0) (Or.inl rfl), ↓dZ_205 hL (x := nI 1) (Or.inr rfl), ↓dZ_205 hL (Or.inl rfl), ↓dZ_205 hL (Or.inr rfl), ↓dZ_205 hL (nB_01 _), ↓reduceIte, ↓kq_bi, ↓kq_let, ↓kq_rz0, ↓kq_rz1, ↓kq_rzB, ↓Option.bind_some, kq_dvn, kt_lt, kf_lt, kt_eq, kf_eq, decide_true, decide_false, eq_self, Bool.false_eq_true, Bool.true_eq_false, not_true_eq_false, not_false_eq_true, jU_eq, jU_ne, jU_U, jV_eq, jV_ne, jV_V, kn_lit, kn_add, kn_mul, kn_sdm, kn_sub, kn_div, kn_nsdm, kn_lt, kn_eq, kn_pred, kn_m1, kn_m1', kn_a31, kn_shl, kn_shr, kn_bit, nB_0, nB_1, nB_t, nB_f, Nat.zero_add, Nat.add_zero, Nat.reduceAdd, Nat.reduceMul, Nat.reduceSub, Nat.reducePow]
  refine jW_bn (m_skipWord hL hT h0 h4) (fun K0 hK => ?_)
  obtain ⟨T0, M0⟩ := hK
  have e7 : K0 205 7 = nI cl := by rw [M0.1 7 (by omega) (by omega) (by omega)]; exact h7
  have e8 : K0 208 5 = nI (δ 0 5) := by rw [M0.2 208 (by omega)]; exact hC.1 5 (by omega)
  simp (disch := omega) only [e7, e8, ↓dK_205 hL, ↓dG_205 hL, ↓dP_205 hL, ↓dZ_205 hL (x := nI 0) (Or.inl rfl), ↓dZ_205 hL (x := nI 1) (Or.inr rfl), ↓dZ_205 hL (Or.inl rfl), ↓dZ_205 hL (Or.inr rfl), ↓dZ_205 hL (nB_01 _), ↓dR_205_11 hL, dI_208 hL, dS_208 hL, ↓dR_205_23 hL, dA_252 hL, dI_253 hL, dS_253 hL, ↓reduceIte, ↓kq_bi, ↓kq_let, ↓kq_rz0, ↓kq_rz1, ↓kq_rzB, ↓Option.bind_some, kq_dvn, kt_lt, kf_lt, kt_eq, kf_eq, decide_true, decide_false, eq_self, Bool.false_eq_true, Bool.true_eq_false, not_true_eq_false, not_false_eq_true, jU_eq, jU_ne, jU_U, jV_eq, jV_ne, jV_V, kn_lit, kn_add, kn_mul, kn_sdm, kn_sub, kn_div, kn_nsdm, kn_lt, kn_eq, kn_pred, kn_m1, kn_m1', kn_a31, kn_shl, kn_shr, kn_bit, nB_0, nB_1, nB_t, nB_f, Nat.zero_add, Nat.add_zero, Nat.reduceAdd, Nat.reduceMul, Nat.reduceSub, Nat.reducePow]
  have TH := jTM_7 T0 (x := nI (cl + 1))
  have f7 : (jU K0 205 (jV (K0 205) 7 (nI (cl + 1)))) 205 7 = nI (cl + 1) := by rw [jU_eq, jV_eq]
  have fa : ∀ a, ¬ a = 205 → (jU K0 205 (jV (K0 205) 7 (nI (cl + 1)))) a = J a := fun a ha => by rw [jU_ne ha]; exact M0.2 a ha
  have ff : ∀ f, ¬ f = 4 → ¬ f = 5 → ¬ f = 6 → ¬ f = 7 → (jU K0 205 (jV (K0 205) 7 (nI (cl + 1)))) 205 f = J 205 f := fun f a1 a2 a3 a4 => by rw [jU_eq, jV_ne a4]; exact M0.1 f a1 a2 a3
  generalize jU K0 205 (jV (K0 205) 7 (nI (cl + 1))) = H at TH f7 fa ff
  have f8 : H 208 = J 208 := fa 208 (by omega)
  have fR : H (253 + δ 0 5) = J (253 + δ 0 5) := fa (253 + δ 0 5) (by omega)
  have fa : ∀ a, ¬ a = 205 → ¬ a = (253 + δ 0 5) → H a = J a := fun a ha _ => fa a ha
  generalize s_wd tp n y = y0 at hP TH
  refine jW_bi (m_number hL TH (lo := 0) (hi := 100) (by omega) (hH_lit (a := 99) (by omega))) (fun K1 hK => ?_)
  obtain ⟨T1, M1⟩ := hK
  have g8 : K1 208 5 = nI (δ 0 5) := by rw [M1.2 208 (by omega), f8]; exact hC.1 5 (by omega)
  simp (disch := omega) only [g8, ↓dK_205 hL, ↓dG_205 hL, ↓dP_205 hL, ↓dZ_205 hL (x := nI 0) (Or.inl rfl), ↓dZ_205 hL (x := nI 1) (Or.inr rfl), ↓dZ_205 hL (Or.inl rfl), ↓dZ_205 hL (Or.inr rfl), ↓dZ_205 hL (nB_01 _), ↓dR_205_11 hL, dI_208 hL, dS_208 hL, ↓dR_205_23 hL, dA_252 hL, dI_253 hL, dS_253 hL, ↓reduceIte, ↓kq_bi, ↓kq_let, ↓kq_rz0, ↓kq_rz1, ↓kq_rzB, ↓Option.bind_some, kq_dvn, kt_lt, kf_lt, kt_eq, kf_eq, decide_true, decide_false, eq_self, Bool.false_eq_true, Bool.true_eq_false, not_true_eq_false, not_false_eq_true, jU_eq, jU_ne, jU_U, jV_eq, jV_ne, jV_V, kn_lit, kn_add, kn_mul, kn_sdm, kn_sub, kn_div, kn_nsdm, kn_lt, kn_eq, kn_pred, kn_m1, kn_m1', kn_a31, kn_shl, kn_shr, kn_bit, nB_0, nB_1, nB_t, nB_f, Nat.zero_add, Nat.add_zero, Nat.reduceAdd, Nat.reduceMul, Nat.reduceSub, Nat.reducePow]
  have TH := jTM_U T1 (a := (253 + δ 0 5)) (by omega) (f := jV (K1 (253 + δ 0 5)) 0 (nI (s_nur tp n 0 100 y0)))
  have f7 : (jU K1 (253 + δ 0 5) (jV (K1 (253 + δ 0 5)) 0 (nI (s_nur tp n 0 100 y0)))) 205 7 = nI (cl + 1) := by rw [jU_ne (by omega), M1.1 7 (by omega) (by omega) (by omega)]; exact f7
  have f8 : (jU K1 (253 + δ 0 5) (jV (K1 (253 + δ 0 5)) 0 (nI (s_nur tp n 0 100 y0)))) 208 = J 208 := by rw [jU_ne (by omega), M1.2 208 (by omega)]; exact f8
  have fa : ∀ a, ¬ a = 205 → ¬ a = (253 + δ 0 5) → (jU K1 (253 + δ 0 5) (jV (K1 (253 + δ 0 5)) 0 (nI (s_nur tp n 0 100 y0)))) a = J a := fun a ha hb => by rw [jU_ne hb, M1.2 a ha]; exact fa a ha hb
  have ff : ∀ f, ¬ f = 4 → ¬ f = 5 → ¬ f = 6 → ¬ f = 7 → (jU K1 (253 + δ 0 5) (jV (K1 (253 + δ 0 5)) 0 (nI (s_nur tp n 0 100 y0)))) 205 f = J 205 f := fun f a1 a2 a3 a4 => by rw [jU_ne (by omega), M1.1 f a1 a2 a3]; exact ff f a1 a2 a3 a4
  have fR : (jU K1 (253 + δ 0 5) (jV (K1 (253 + δ 0 5)) 0 (nI (s_nur tp n 0 100 y0)))) (253 + δ 0 5) = jV (J (253 + δ 0 5)) 0 (nI (s_nur tp n 0 100 y0)) := by rw [jU_eq, M1.2 (253 + δ 0 5) (by omega), fR]
  generalize jU K1 (253 + δ 0 5) (jV (K1 (253 + δ 0 5)) 0 (nI (s_nur tp n 0 100 y0))) = H at TH f7 f8 fa ff fR
  refine jW_bi (m_number hL TH (lo := s_nur tp n 0 100 y0) (hi := 100) s_nur_le (hH_lit (a := 99) (by omega))) (fun K2 hK => ?_)
  obtain ⟨T2, M2⟩ := hK
  have g8 : K2 208 5 = nI (δ 0 5) := by rw [M2.2 208 (by omega), f8]; exact hC.1 5 (by omega)
  simp (disch := omega) only [g8, ↓dK_205 hL, ↓dG_205 hL, ↓dP_205 hL, ↓dZ_205 hL (x := nI 0) (Or.inl rfl), ↓dZ_205 hL (x := nI 1) (Or.inr rfl), ↓dZ_205 hL (Or.inl rfl), ↓dZ_205 hL (Or.inr rfl), ↓dZ_205 hL (nB_01 _), ↓dR_205_11 hL, dI_208 hL, dS_208 hL, ↓dR_205_23 hL, dA_252 hL, dI_253 hL, dS_253 hL, ↓reduceIte, ↓kq_bi, ↓kq_let, ↓kq_rz0, ↓kq_rz1, ↓kq_rzB, ↓Option.bind_some, kq_dvn, kt_lt, kf_lt, kt_eq, kf_eq, decide_true, decide_false, eq_self, Bool.false_eq_true, Bool.true_eq_false, not_true_eq_false, not_false_eq_true, jU_eq, jU_ne, jU_U, jV_eq, jV_ne, jV_V, kn_lit, kn_add, kn_mul, kn_sdm, kn_sub, kn_div, kn_nsdm, kn_lt, kn_eq, kn_pred, kn_m1, kn_m1', kn_a31, kn_shl, kn_shr, kn_bit, nB_0, nB_1, nB_t, nB_f, Nat.zero_add, Nat.add_zero, Nat.reduceAdd, Nat.reduceMul, Nat.reduceSub, Nat.reducePow]
  have TH := jTM_U T2 (a := (253 + δ 0 5)) (by omega) (f := jV (K2 (253 + δ 0 5)) 1 (nI (s_nur tp n (s_nur tp n 0 100 y0) 100 (s_num tp n 0 100 y0))))
  have f7 : (jU K2 (253 + δ 0 5) (jV (K2 (253 + δ 0 5)) 1 (nI (s_nur tp n (s_nur tp n 0 100 y0) 100 (s_num tp n 0 100 y0))))) 205 7 = nI (cl + 1) := by rw [jU_ne (by omega), M2.1 7 (by omega) (by omega) (by omega)]; exact f7
  have f8 : (jU K2 (253 + δ 0 5) (jV (K2 (253 + δ 0 5)) 1 (nI (s_nur tp n (s_nur tp n 0 100 y0) 100 (s_num tp n 0 100 y0))))) 208 = J 208 := by rw [jU_ne (by omega), M2.2 208 (by omega)]; exact f8
  have fa : ∀ a, ¬ a = 205 → ¬ a = (253 + δ 0 5) → (jU K2 (253 + δ 0 5) (jV (K2 (253 + δ 0 5)) 1 (nI (s_nur tp n (s_nur tp n 0 100 y0) 100 (s_num tp n 0 100 y0))))) a = J a := fun a ha hb => by rw [jU_ne hb, M2.2 a ha]; exact fa a ha hb
  have ff : ∀ f, ¬ f = 4 → ¬ f = 5 → ¬ f = 6 → ¬ f = 7 → (jU K2 (253 + δ 0 5) (jV (K2 (253 + δ 0 5)) 1 (nI (s_nur tp n (s_nur tp n 0 100 y0) 100 (s_num tp n 0 100 y0))))) 205 f = J 205 f := fun f a1 a2 a3 a4 => by rw [jU_ne (by omega), M2.1 f a1 a2 a3]; exact ff f a1 a2 a3 a4
  have fR : (jU K2 (253 + δ 0 5) (jV (K2 (253 + δ 0 5)) 1 (nI (s_nur tp n (s_nur tp n 0 100 y0) 100 (s_num tp n 0 100 y0))))) (253 + δ 0 5) = jV (jV (J (253 + δ 0 5)) 0 (nI (s_nur tp n 0 100 y0))) 1 (nI (s_nur tp n (s_nur tp n 0 100 y0) 100 (s_num tp n 0 100 y0))) := by rw [jU_eq, M2.2 (253 + δ 0 5) (by omega), fR]
  generalize jU K2 (253 + δ 0 5) (jV (K2 (253 + δ 0 5)) 1 (nI (s_nur tp n (s_nur tp n 0 100 y0) 100 (s_num tp n 0 100 y0)))) = H at TH f7 f8 fa ff fR
  have er : s_num tp n (s_nur tp n 0 100 y0) 100 (s_num tp n 0 100 y0) = s_num tp n (s_nuv tp n y0) 100 (s_num tp n 0 100 y0) := s_num_lo (fun z => s_nur_ok z)
  rw [er] at TH
  obtain ⟨L, l0, l1, l2, l3, l4⟩ := m_b292 hL TH (j := 5) (by omega) (q := δ 0 5) (by omega) (by rw [f8]; exact hC.1 5 (by omega))
  refine jW_e l0 (hP L ⟨l1, (l3 7 (by omega) (by omega) (by omega)).trans f7, fun z => ?_, fun f a1 a2 a3 a4 => (l3 f a1 a2 a3).trans (ff f a1 a2 a3 a4), fun a a1 a2 => ?_⟩)
  · have z : (s_num tp n (s_nuv tp n y0) 100 (s_num tp n 0 100 y0)).2.1 = 0 := z
    have z1 := (s_num_ok z).1
    rw [if_pos z, f8] at l2
    have z' := z
    rw [← er] at z'
    rw [s_nur_ok z', s_nur_ok z1] at fR
    have lR : L (253 + δ 0 5) = H (253 + δ 0 5) := l4 (253 + δ 0 5) (by omega) (by omega)
    rw [fR] at lR
    have la : ∀ a, ¬ a = 205 → ¬ a = 208 → ¬ a = (253 + δ 0 5) → L a = J a := fun a a1 a2 a3 => (l4 a a1 a2).trans (fa a a1 a3)
    refine jMD_add hC hD (by omega) l2 (fun c a1 a2 a3 => ?_) (fun c k a1 a2 a3 a4 => ?_)
    · have hc := s_kd_5 c a2 a1 a3
      rcases (show c = 7 ∨ c = 8 by omega) with rfl | rfl
      · refine ⟨?_, fun k hk => ?_⟩
        · show L (253 + δ 0 5) 0 = _
          rw [lR]
          rfl
        · show L (253 + k) 0 = J (253 + k) 0
          rw [la (253 + k) (by omega) (by omega) (by omega)]
      · refine ⟨?_, fun k hk => ?_⟩
        · show L (253 + δ 0 5) 1 = _
          rw [lR]
          rfl
        · show L (253 + k) 1 = J (253 + k) 1
          rw [la (253 + k) (by omega) (by omega) (by omega)]
    · have := s_ma_rg a1 a2 a3
      exact la _ (by omega) (by omega) (by omega)
  · have a2 : ¬ (a = 208 ∨ a = 210 ∨ a = 212 ∨ a = 214 ∨ (217 ≤ a ∧ a ≤ 222) ∨ (231 ≤ a ∧ a ≤ 240) ∨ (253 ≤ a ∧ a ≤ 258)) := a2
    exact (l4 a a1 (by omega)).trans (fa a a1 (by omega))
end

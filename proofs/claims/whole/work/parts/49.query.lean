/-! PLAIN LEAN, 15: what queries rest on; the hours to come -/
section
variable {Q : Type} {h : LH} {R : (Nat → Nat → Int32) → Prop}
theorem jE_o {x : Option JOut} {v : Int32} (hx : ∀ P : JOut → Prop, (∀ J, R J → P (jo_i (v, jz_I h J))) → jW x P) : ∃ J, x = some (jo_i (v, jz_I h J)) ∧ R J := by
  obtain ⟨q, e, J, rfl, hJ⟩ := hx (fun q => ∃ J, q = jo_i (v, jz_I h J) ∧ R J) (fun J hJ => ⟨J, rfl, hJ⟩)
  exact ⟨J, e, hJ⟩
theorem kq_th {h1 : LH} {K : LH → Option JOut} : jf_th (some (jo_v h1)) K = K h1 := rfl
theorem c_need1 {a : Nat} {h1 : LH} : F_SG_needArgument a (nI 1) h1 = some (jo_v h1) := if_neg (by decide)
theorem c_elem1 {a : Nat} {h1 : LH} : F_SG_needElement a (nI 1) h1 = some (jo_v h1) := if_neg (by decide)
end
/-- the first one -/
def s_fst (p : Nat → Bool) : Nat → Option Nat
  | 0 => none
  | n + 1 => (s_fst p n).or (if p n = true then some n else none)
theorem s_fst_hit {p : Nat → Bool} {k : Nat} (h0 : s_fst p k = none) (hk : p k = true) : ∀ {N : Nat}, k < N → s_fst p N = some k
  | 0, h => absurd h (Nat.not_lt_zero k)
  | N + 1, h => by
    show (s_fst p N).or _ = some k
    rcases Nat.lt_or_eq_of_le (Nat.lt_succ_iff.mp h) with hl | hl
    · rw [s_fst_hit h0 hk hl]; rfl
    · subst hl
      rw [h0, if_pos hk]; rfl
theorem s_fst_miss {p : Nat → Bool} {k : Nat} (h0 : s_fst p k = none) (hk : p k = false) : s_fst p (k + 1) = none := by
  show (s_fst p k).or _ = none
  rw [h0, if_neg (by rw [hk]; decide)]; rfl
theorem s_fst_lt {p : Nat → Bool} : ∀ {N k : Nat}, s_fst p N = some k → k < N ∧ p k = true
  | 0, k, h => by cases h
  | N + 1, k, h => by
    have h : (s_fst p N).or (if p N = true then some N else none) = some k := h
    cases hs : s_fst p N with
    | some j =>
      rw [hs] at h
      cases h
      have := s_fst_lt hs
      exact ⟨by omega, this.2⟩
    | none =>
      rw [hs] at h
      by_cases hp : p N = true
      · rw [if_pos hp] at h; cases h; exact ⟨Nat.lt_succ_self _, hp⟩
      · rw [if_neg hp] at h; cases h
def s_hrs (τ : JTn) (ω : JLw) (r : JRw) : Nat → JRw
  | 0 => r
  | n + 1 => s_hour τ ω false (s_hrs τ ω r n)
def jQC (I : Nat → Nat → Int32) (t l : Nat) (τ : JTn) (ω : JLw) (r : JRw) : Prop := jCE I t l τ ω ∧ jCS I 85 τ false r ∧ jROK τ r ∧ r 133 ≤ 1000
def jQM (I : Nat → Nat → Int32) (τ : JTn) (ω : JLw) (r : JRw) : Prop := jME I τ ω false ∧ jMR I 691 r ∧ jROK τ r ∧ r 133 ≤ 1000
/-- all but where the reference tries and reckons; nothing was thrown -/
def jN (I J : Nat → Nat → Int32) : Prop := (∀ a, ¬ a = 205 → ¬ a = 608 → ¬ a = 609 → ¬ a = 692 → ¬ (714 ≤ a ∧ a ≤ 716) → J a = I a) ∧ (∀ k, 1 ≤ k → k < 44 → J 205 k = I 205 k) ∧ J 205 44 = nB false ∧ J 205 0 = nI 0
section
variable {t u l m b c : Nat} {h : LH} {I J K : Nat → Nat → Int32} {τ : JTn} {r q : JRw} {σ ρ i : Nat} {Q : Type} {x : Int32} {d : Bool} {ω : JLw} {f : Nat → Int32} {P : Q → Prop}
theorem s_hrs_ok (ho : jTOK τ) (hr : jROK τ r) (hh : r 133 ≤ 1000) : ∀ n, n ≤ 500 → jROK τ (s_hrs τ ω r n) ∧ s_hrs τ ω r n 133 = r 133 + n
  | 0, _ => ⟨hr, rfl⟩
  | n + 1, hn => by
    obtain ⟨h1, h2⟩ := s_hrs_ok ho hr hh n (by omega)
    exact ⟨s_hour_ok ho h1 (by omega), by show s_hour τ ω false (s_hrs τ ω r n) 133 = _; rw [s_hour_133, h2]; omega⟩
theorem jQC_Sc (hL : jLay t u l m b c h) (hS : jSc l 90 I J) (hQ : jQC I t l τ ω r) : jQC J t l τ ω r := by
  have hl := jLay_l hL
  exact ⟨jCE_Sc hL (Or.inr rfl) hS hQ.1, jCS_congr (fun a h1 h2 => hS a (by omega) (by omega)) hQ.2.1, hQ.2.2⟩
theorem c_trial (hL : jLay t u l m b c h) (hQ : jQC I t l τ ω r) : ∃ J, F_SG_startTrial 64 (jz_I h I) = some (jz_I h J) ∧ jSc l 90 I J ∧ jCS J 90 τ false r := by
  refine jE_n (fun P hP => ?_)
  have hac : ∀ {Q : Type} {K : LH → Option Q}, jf_ac (jz_I h I) 86 (nI 0) 91 (nI 0) (nI 134) K = K (jz_I h (jU I 91 (fun j => if 0 ≤ j ∧ j < 0 + 134 then I 86 (0 + (j - 0)) else I 91 j))) := kq_ac (lk_86 hL) (by decide) (lk_91 hL) (by decide) (by decide) (by decide) (by decide) (by decide) (by rw [ll_86 hL]; decide) (by rw [ll_91 hL]; decide)
  unfold F_SG_startTrial
  simp (disch := omega) only [F_Scene_loadFrom, hac, ↓dK_64 hL, ↓dG_64 hL, ↓dP_64 hL, ↓dR_64_2 hL, ↓dK_85 hL, ↓dG_85 hL, ↓dP_85 hL, ↓dZ_85 hL (x := nI 0) (Or.inl rfl), ↓dZ_85 hL (x := nI 1) (Or.inr rfl), ↓dZ_85 hL (Or.inl rfl), ↓dZ_85 hL (Or.inr rfl), ↓dZ_85 hL (nB_01 _), ↓dR_64_3 hL, ↓dR_95_0 hL, ↓dR_102_0 hL, ↓dR_105_0 hL, ↓dK_90 hL, ↓dG_90 hL, ↓dP_90 hL, ↓dZ_90 hL (x := nI 0) (Or.inl rfl), ↓dZ_90 hL (x := nI 1) (Or.inr rfl), ↓dZ_90 hL (Or.inl rfl), ↓dZ_90 hL (Or.inr rfl), ↓dZ_90 hL (nB_01 _), ↓dR_85_0 hL, dI_86 hL, dS_86 hL, ↓dR_90_0 hL, dI_91 hL, dS_91 hL, ↓reduceIte, ↓kq_bi, ↓kq_let, ↓kq_rz0, ↓kq_rz1, ↓kq_rzB, ↓Option.bind_some, kq_dvn, kt_lt, kf_lt, kt_eq, kf_eq, decide_true, decide_false, eq_self, Bool.false_eq_true, Bool.true_eq_false, not_true_eq_false, not_false_eq_true, jU_eq, jU_ne, jU_U, jV_eq, jV_ne, jV_V, kn_lit, kn_add, kn_mul, kn_sdm, kn_sub, kn_div, kn_nsdm, kn_lt, kn_eq, kn_pred, kn_m1, kn_m1', kn_a31, kn_shl, kn_shr, kn_bit, nB_0, nB_1, nB_t, nB_f, Nat.zero_add, Nat.add_zero, Nat.reduceAdd, Nat.reduceMul, Nat.reduceSub, Nat.reducePow]
  refine jW_s (hP _ ⟨fun a h1 h2 => by rw [jU_ne (by omega), jU_ne (by omega)], ⟨?_, by simp only [jU_eq, jV_ne (show ¬ 3 = 4 by decide), jV_eq, nB_f], Or.inl (by simp only [jU_eq, jV_eq])⟩⟩)
  refine jCR_congr (jU_ne (by decide)) (jCR_U ?_)
  obtain ⟨a1, a2, a3, a4, a5⟩ := hQ.2.1.1
  have hr := hQ.2.2.1
  refine ⟨?_, fun x hx => ?_, fun x hx => ?_, fun x hx => ?_, fun x k hx hk => ?_⟩
  all_goals try dsimp only
  · rw [if_pos (by omega)]; exact a1
  · rw [if_pos (by omega)]; exact a2 x hx
  · rw [if_pos (by omega)]; exact a3 x hx
  · rw [if_pos (by omega)]; exact a4 x hx
  · have b := hr.1 x hx
    rw [if_pos (by omega), if_pos (by omega)]; exact a5 x k hx hk
theorem c_hourT (hL : jLay t u l m b c h) (hQ : jQC I t l τ ω r) (hS : jSc l 90 I J) (hJ : jCS J 90 τ d q) (hq : jROK τ q) : ∃ K, F_Scene_pass 90 (jz_I h J) = some (jz_I h K) ∧ jSc l 90 I K ∧ jCS K 90 τ false (s_hour τ ω d q) := by
  obtain ⟨K, e, h1, h2⟩ := c_pass hL (jCE_Sc hL (Or.inr rfl) hS hQ.1) (Or.inr rfl) hJ hq
  exact ⟨K, e, jSc_trans hS h2, h1⟩
theorem c_shutT (hL : jLay t u l m b c h) (hQ : jQC I t l τ ω r) (hS : jSc l 90 I J) (hJ : jCS J 90 τ d q) (hq : jROK τ q) {g : Nat} (hg : g < τ 0 0) : ∃ K, F_Scene_isShut 90 (nI g) (jz_I h J) = some (nB (s_sh τ ω d q g), jz_I h K) ∧ jSc l 90 I K ∧ jCS K 90 τ d q := by
  obtain ⟨K, e, h1, h2, -⟩ := c_isShut hL (jCE_Sc hL (Or.inr rfl) hS hQ.1) (Or.inr rfl) hJ hq hg
  exact ⟨K, e, jSc_trans hS h2, h1⟩
theorem c_needGate (hL : jLay t u l m b c h) (hT : jCT I t τ) (ho : jTOK τ) {g : Nat} (hg : g < τ 0 0) : F_SG_needGate 64 (nI g) (jz_I h I) = some (jo_v (jz_I h I)) := by
  have ht := jLay_t hL
  have o0 : τ 0 0 ≤ 9 := ho.1
  unfold F_SG_needGate
  simp (disch := omega) only [↓dR_85_1 hL, cT_f0 hT, F_SG_needGate_b24, F_SG_needGate_b23, c_elem1, kq_th, ↓dK_64 hL, ↓dG_64 hL, ↓dP_64 hL, ↓dR_64_2 hL, ↓dK_85 hL, ↓dG_85 hL, ↓dP_85 hL, ↓dZ_85 hL (x := nI 0) (Or.inl rfl), ↓dZ_85 hL (x := nI 1) (Or.inr rfl), ↓dZ_85 hL (Or.inl rfl), ↓dZ_85 hL (Or.inr rfl), ↓dZ_85 hL (nB_01 _), ↓dK_T hL ht, ↓dG_T hL ht, ↓dP_T hL ht, ↓reduceIte, ↓kq_bi, ↓kq_let, ↓kq_rz0, ↓kq_rz1, ↓kq_rzB, ↓Option.bind_some, kq_dvn, kt_lt, kf_lt, kt_eq, kf_eq, decide_true, decide_false, eq_self, Bool.false_eq_true, Bool.true_eq_false, not_true_eq_false, not_false_eq_true, jU_eq, jU_ne, jU_U, jV_eq, jV_ne, jV_V, kn_lit, kn_add, kn_mul, kn_sdm, kn_sub, kn_div, kn_nsdm, kn_lt, kn_eq, kn_pred, kn_m1, kn_m1', kn_a31, kn_shl, kn_shr, kn_bit, nB_0, nB_1, nB_t, nB_f, Nat.zero_add, Nat.add_zero, Nat.reduceAdd, Nat.reduceMul, Nat.reduceSub, Nat.reducePow]
theorem c_needWood (hL : jLay t u l m b c h) (hT : jCT I t τ) (ho : jTOK τ) {w : Nat} (hw : w < τ 0 1) : F_SG_needWood 64 (nI w) (jz_I h I) = some (jo_v (jz_I h I)) := by
  have ht := jLay_t hL
  have o1 : τ 0 1 ≤ 6 := ho.2.1
  unfold F_SG_needWood
  simp (disch := omega) only [↓dR_85_1 hL, cT_f1 hT, F_SG_needWood_b24, F_SG_needWood_b23, c_elem1, kq_th, ↓dK_64 hL, ↓dG_64 hL, ↓dP_64 hL, ↓dR_64_2 hL, ↓dK_85 hL, ↓dG_85 hL, ↓dP_85 hL, ↓dZ_85 hL (x := nI 0) (Or.inl rfl), ↓dZ_85 hL (x := nI 1) (Or.inr rfl), ↓dZ_85 hL (Or.inl rfl), ↓dZ_85 hL (Or.inr rfl), ↓dZ_85 hL (nB_01 _), ↓dK_T hL ht, ↓dG_T hL ht, ↓dP_T hL ht, ↓reduceIte, ↓kq_bi, ↓kq_let, ↓kq_rz0, ↓kq_rz1, ↓kq_rzB, ↓Option.bind_some, kq_dvn, kt_lt, kf_lt, kt_eq, kf_eq, decide_true, decide_false, eq_self, Bool.false_eq_true, Bool.true_eq_false, not_true_eq_false, not_false_eq_true, jU_eq, jU_ne, jU_U, jV_eq, jV_ne, jV_V, kn_lit, kn_add, kn_mul, kn_sdm, kn_sub, kn_div, kn_nsdm, kn_lt, kn_eq, kn_pred, kn_m1, kn_m1', kn_a31, kn_shl, kn_shr, kn_bit, nB_0, nB_1, nB_t, nB_f, Nat.zero_add, Nat.add_zero, Nat.reduceAdd, Nat.reduceMul, Nat.reduceSub, Nat.reducePow]
/-- the reference, once its arguments are good -/
theorem jN_QM (hN : jN I J) (hQ : jQM I τ ω r) : jQM J τ ω r := by
  obtain ⟨n1, n2, n3, n4⟩ := hN
  obtain ⟨⟨hT, ho, hM, hω, hd⟩, hR, hr⟩ := hQ
  exact ⟨⟨jMT_congr (fun a h1 h2 => n1 a (by omega) (by omega) (by omega) (by omega) (by omega)) ho hT, ho, jML_congr (fun a h1 h2 => n1 a (by omega) (by omega) (by omega) (by omega) (by omega)) (n2 25 (by omega) (by omega)) hω hM, hω, n3⟩, fun k hk => by rw [n1 691 (by omega) (by omega) (by omega) (by omega) (by omega)]; exact hR k hk, hr⟩
theorem jN_S3 (hN : jN I J) (hS : jS3 692 J K) : jN I K := by
  obtain ⟨n1, n2, n3, n4⟩ := hN
  have e := hS 205 (by omega) (by omega) (by omega)
  exact ⟨fun a h1 h2 h3 h4 h5 => (hS a h2 h3 h4).trans (n1 a h1 h2 h3 h4 h5), fun k h1 h2 => by rw [e]; exact n2 k h1 h2, by rw [e]; exact n3, by rw [e]; exact n4⟩
theorem jN_0 (hQ : jQM I τ ω r) : jN I (jU I 205 (jV (I 205) 0 (nI 0))) := ⟨fun a h1 _ _ _ _ => jU_ne h1, fun k h1 h2 => by rw [jU_eq, jV_ne (by omega)], by rw [jU_eq, jV_ne (by omega)]; exact hQ.1.2.2.2.2, by rw [jU_eq, jV_eq]⟩
theorem m_bad0 (hL : jLay t u l m b c h) (h0 : J 205 0 = nI 0) {x y : Int32} : F_Mod_bad 205 (nI 0) x y (jz_I h J) = some (nB false, jz_I h J) := by
  unfold F_Mod_bad
  simp (disch := omega) only [h0, F_Mod_bad_b26, F_Mod_bad_b38, ↓dK_205 hL, ↓dG_205 hL, ↓dP_205 hL, ↓dZ_205 hL (x := nI 0) (Or.inl rfl), ↓dZ_205 hL (x := nI 1) (Or.inr rfl), ↓dZ_205 hL (Or.inl rfl), ↓dZ_205 hL (Or.inr rfl), ↓dZ_205 hL (nB_01 _), ↓reduceIte, ↓kq_bi, ↓kq_let, ↓kq_rz0, ↓kq_rz1, ↓kq_rzB, ↓Option.bind_some, kq_dvn, kt_lt, kf_lt, kt_eq, kf_eq, decide_true, decide_false, eq_self, Bool.false_eq_true, Bool.true_eq_false, not_true_eq_false, not_false_eq_true, jU_eq, jU_ne, jU_U, jV_eq, jV_ne, jV_V, kn_lit, kn_add, kn_mul, kn_sdm, kn_sub, kn_div, kn_nsdm, kn_lt, kn_eq, kn_pred, kn_m1, kn_m1', kn_a31, kn_shl, kn_shr, kn_bit, nB_0, nB_1, nB_t, nB_f, Nat.zero_add, Nat.add_zero, Nat.reduceAdd, Nat.reduceMul, Nat.reduceSub, Nat.reducePow]
theorem m_isGate (hL : jLay t u l m b c h) (hT : jMT J τ) (ho : jTOK τ) {g : Nat} (hg : g < τ 0 0) : F_Mod_isGate 205 (nI g) (jz_I h J) = some (nB true, jz_I h J) := by
  have o0 : τ 0 0 ≤ 9 := ho.1
  unfold F_Mod_isGate
  simp (disch := omega) only [hT.1, m_in, ↓dK_205 hL, ↓dG_205 hL, ↓dP_205 hL, ↓dZ_205 hL (x := nI 0) (Or.inl rfl), ↓dZ_205 hL (x := nI 1) (Or.inr rfl), ↓dZ_205 hL (Or.inl rfl), ↓dZ_205 hL (Or.inr rfl), ↓dZ_205 hL (nB_01 _), ↓dR_205_12 hL, dI_209 hL, dS_209 hL, ↓reduceIte, ↓kq_bi, ↓kq_let, ↓kq_rz0, ↓kq_rz1, ↓kq_rzB, ↓Option.bind_some, kq_dvn, kt_lt, kf_lt, kt_eq, kf_eq, decide_true, decide_false, eq_self, Bool.false_eq_true, Bool.true_eq_false, not_true_eq_false, not_false_eq_true, jU_eq, jU_ne, jU_U, jV_eq, jV_ne, jV_V, kn_lit, kn_add, kn_mul, kn_sdm, kn_sub, kn_div, kn_nsdm, kn_lt, kn_eq, kn_pred, kn_m1, kn_m1', kn_a31, kn_shl, kn_shr, kn_bit, nB_0, nB_1, nB_t, nB_f, Nat.zero_add, Nat.add_zero, Nat.reduceAdd, Nat.reduceMul, Nat.reduceSub, Nat.reducePow]
  rw [decide_eq_true (show 0 ≤ g ∧ g ≤ τ 0 0 - 1 by omega)]
  rfl
theorem m_isWood (hL : jLay t u l m b c h) (hT : jMT J τ) (ho : jTOK τ) {g : Nat} (hg : g < τ 0 1) : F_Mod_isWood 205 (nI g) (jz_I h J) = some (nB true, jz_I h J) := by
  have o0 : τ 0 1 ≤ 6 := ho.2.1
  unfold F_Mod_isWood
  simp (disch := omega) only [hT.1, m_in, ↓dK_205 hL, ↓dG_205 hL, ↓dP_205 hL, ↓dZ_205 hL (x := nI 0) (Or.inl rfl), ↓dZ_205 hL (x := nI 1) (Or.inr rfl), ↓dZ_205 hL (Or.inl rfl), ↓dZ_205 hL (Or.inr rfl), ↓dZ_205 hL (nB_01 _), ↓dR_205_12 hL, dI_209 hL, dS_209 hL, ↓reduceIte, ↓kq_bi, ↓kq_let, ↓kq_rz0, ↓kq_rz1, ↓kq_rzB, ↓Option.bind_some, kq_dvn, kt_lt, kf_lt, kt_eq, kf_eq, decide_true, decide_false, eq_self, Bool.false_eq_true, Bool.true_eq_false, not_true_eq_false, not_false_eq_true, jU_eq, jU_ne, jU_U, jV_eq, jV_ne, jV_V, kn_lit, kn_add, kn_mul, kn_sdm, kn_sub, kn_div, kn_nsdm, kn_lt, kn_eq, kn_pred, kn_m1, kn_m1', kn_a31, kn_shl, kn_shr, kn_bit, nB_0, nB_1, nB_t, nB_f, Nat.zero_add, Nat.add_zero, Nat.reduceAdd, Nat.reduceMul, Nat.reduceSub, Nat.reducePow]
  rw [decide_eq_true (show 0 ≤ g ∧ g ≤ τ 0 1 - 1 by omega)]
  rfl
theorem m_in1 {v lo hi : Nat} (h : lo ≤ v ∧ v ≤ hi) (h3 : hi < 2147483648) (g : LH) : F_Mod_in (nI v) (nI lo) (nI hi) g = some (nB true, g) := by
  rw [m_in (by omega) (by omega) h3, decide_eq_true h]
theorem m_trial (hL : jLay t u l m b c h) (hQ : jQM I τ ω r) (hN : jN I J) : ∃ K, F_Mod_tries 205 (jz_I h J) = some (jz_I h K) ∧ jN I K ∧ jMR K 692 r := by
  obtain ⟨K, e, h1, h2, h3, h4⟩ := m_tries hL (jN_QM hN hQ).2.1
  obtain ⟨n1, n2, n3, n4⟩ := hN
  exact ⟨K, e, ⟨fun a a1 a2 a3 a4 a5 => (h4 a a4 a1).trans (n1 a a1 a2 a3 a4 a5), fun k k1 k2 => (h3 k (by omega)).trans (n2 k k1 k2), h2, (h3 0 (by omega)).trans n4⟩, h1⟩
theorem m_hourT (hL : jLay t u l m b c h) (hQ : jQM I τ ω r) (hN : jN I J) (hJ : jMR J 692 q) (hq : jROK τ q) : ∃ K, F_Mod_hourEnds 205 692 (jz_I h J) = some (jz_I h K) ∧ jN I K ∧ jMR K 692 (s_hour τ ω false q) := by
  obtain ⟨K, e, h1, h2⟩ := m_hourEnds hL (jN_QM hN hQ).1 (Or.inr rfl) hJ hq
  exact ⟨K, e, jN_S3 hN h2, h1⟩
theorem m_shutT (hL : jLay t u l m b c h) (hQ : jQM I τ ω r) (hN : jN I J) (hJ : jMR J 692 q) (hq : jROK τ q) {g : Nat} (hg : g < τ 0 0) : ∃ K, F_Mod_isShut 205 692 (nI g) (jz_I h J) = some (nB (s_sh τ ω false q g), jz_I h K) ∧ jN I K ∧ jMR K 692 q := by
  obtain ⟨K, e, h1⟩ := m_isShut hL (jN_QM hN hQ).1 (Or.inr rfl) hJ hq hg
  exact ⟨K, e, jN_S3 hN (fun a x y _ => h1 a x y), fun k hk => by rw [h1 692 (by omega) (by omega)]; exact hJ k hk⟩
theorem m_bitsT (hL : jLay t u l m b c h) (hQ : jQM I τ ω r) (hN : jN I J) (hJ : jMR J 692 q) (hq : jROK τ q) : ∃ K, F_Mod_shutBits 205 692 (jz_I h J) = some (nI (s_bits (s_sh τ ω false q) (τ 0 0)), jz_I h K) ∧ jN I K ∧ jMR K 692 q := by
  obtain ⟨K, e, h1⟩ := m_shutBits hL (jN_QM hN hQ).1 (Or.inr rfl) hJ hq
  exact ⟨K, e, jN_S3 hN (fun a x y _ => h1 a x y), fun k hk => by rw [h1 692 (by omega) (by omega)]; exact hJ k hk⟩
end
/-- when -/
def s_whp (τ : JTn) (ω : JLw) (r : JRw) (g : Nat) (w : Bool) (k : Nat) : Bool := s_sh τ ω false (s_hrs τ ω r k) g == w
def s_when (τ : JTn) (ω : JLw) (r : JRw) (g : Nat) (w : Bool) : Option Nat := s_fst (s_whp τ ω r g w) 49
section
variable {t u l m b c : Nat} {h : LH} {I J K : Nat → Nat → Int32} {τ : JTn} {r q : JRw} {σ ρ i : Nat} {Q : Type} {x : Int32} {d : Bool} {ω : JLw} {f : Nat → Int32}
theorem c_when (hL : jLay t u l m b c h) (hQ : jQC I t l τ ω r) {g : Nat} (hg : g < τ 0 0) (w : Bool) : ∃ J, F_SG_when 64 (nI g) (nB w) (jz_I h I) = some (jo_i (nO (s_when τ ω r g w), jz_I h J)) ∧ jSc l 90 I J := by
  have ho := hQ.1.2.1
  refine jE_o (fun P hP => ?_)
  have key : jW (F_SG_when_b20 64 (nI g) (nB w) 64 (nI 1) (jz_I h I)) P := by
    unfold F_SG_when_b20
    simp (disch := omega) only [c_need1, kq_th, ↓dK_64 hL, ↓dG_64 hL, ↓dP_64 hL, ↓reduceIte, ↓kq_bi, ↓kq_let, ↓kq_rz0, ↓kq_rz1, ↓kq_rzB, ↓Option.bind_some, kq_dvn, kt_lt, kf_lt, kt_eq, kf_eq, decide_true, decide_false, eq_self, Bool.false_eq_true, Bool.true_eq_false, not_true_eq_false, not_false_eq_true, jU_eq, jU_ne, jU_U, jV_eq, jV_ne, jV_V, kn_lit, kn_add, kn_mul, kn_sdm, kn_sub, kn_div, kn_nsdm, kn_lt, kn_eq, kn_pred, kn_m1, kn_m1', kn_a31, kn_shl, kn_shr, kn_bit, nB_0, nB_1, nB_t, nB_f, Nat.zero_add, Nat.add_zero, Nat.reduceAdd, Nat.reduceMul, Nat.reduceSub, Nat.reducePow]
    refine jW_bn (c_trial hL hQ) (fun J hJ => ?_)
    refine jW_for0 (f := fun fuel k (J : Nat → Nat → Int32) => F_SG_when_l29 fuel 64 (nI g) (nB w) (nI k) (jz_I h J)) 49 (fun k J => (jSc l 90 I J ∧ jCS J 90 τ false (s_hrs τ ω r k)) ∧ s_fst (s_whp τ ω r g w) k = none) J ⟨hJ, rfl⟩ (by omega) (fun n k J hk hV ih => ?_) (fun n J hV => ?_)
    · obtain ⟨⟨v1, v2⟩, v3⟩ := hV
      obtain ⟨hq, -⟩ := s_hrs_ok (ω := ω) ho hQ.2.2.1 hQ.2.2.2 k (by omega)
      show jW (F_SG_when_c29 (F_SG_when_l29 n) 64 (nI g) (nB w) (nI k) (jz_I h J)) P
      unfold F_SG_when_c29
      simp (disch := omega) only [↓dK_64 hL, ↓dG_64 hL, ↓dP_64 hL, ↓dR_64_3 hL, ↓dR_95_0 hL, ↓dR_102_0 hL, ↓dR_105_0 hL, ↓dK_90 hL, ↓dG_90 hL, ↓dP_90 hL, ↓dZ_90 hL (x := nI 0) (Or.inl rfl), ↓dZ_90 hL (x := nI 1) (Or.inr rfl), ↓dZ_90 hL (Or.inl rfl), ↓dZ_90 hL (Or.inr rfl), ↓dZ_90 hL (nB_01 _), ↓reduceIte, ↓kq_bi, ↓kq_let, ↓kq_rz0, ↓kq_rz1, ↓kq_rzB, ↓Option.bind_some, kq_dvn, kt_lt, kf_lt, kt_eq, kf_eq, decide_true, decide_false, eq_self, Bool.false_eq_true, Bool.true_eq_false, not_true_eq_false, not_false_eq_true, jU_eq, jU_ne, jU_U, jV_eq, jV_ne, jV_V, kn_lit, kn_add, kn_mul, kn_sdm, kn_sub, kn_div, kn_nsdm, kn_lt, kn_eq, kn_pred, kn_m1, kn_m1', kn_a31, kn_shl, kn_shr, kn_bit, nB_0, nB_1, nB_t, nB_f, Nat.zero_add, Nat.add_zero, Nat.reduceAdd, Nat.reduceMul, Nat.reduceSub, Nat.reducePow]
      refine jW_bi (c_shutT hL hQ v1 v2 hq hg) (fun J2 hJ2 => ?_)
      cases hp : s_whp τ ω r g w k
      · have go : jW ((F_Scene_pass 90 (jz_I h J2)).bind fun h2 => F_SG_when_l29 n 64 (nI g) (nB w) (nI (k + 1)) h2) P := jW_bn (c_hourT hL hQ hJ2.1 hJ2.2 hq) (fun J3 hJ3 => ih _ ⟨hJ3, s_fst_miss v3 hp⟩)
        revert hp go
        unfold s_whp
        cases w <;> cases s_sh τ ω false (s_hrs τ ω r k) g <;> intro hp go
        · exact absurd hp (by decide)
        · simp (disch := omega) only [F_SG_when_b53, show nB false = nI 0 from rfl, show nB true = nI 1 from rfl, ↓dK_64 hL, ↓dG_64 hL, ↓dP_64 hL, ↓dR_64_3 hL, ↓dR_95_0 hL, ↓dR_102_0 hL, ↓dR_105_0 hL, ↓dK_90 hL, ↓dG_90 hL, ↓dP_90 hL, ↓dZ_90 hL (x := nI 0) (Or.inl rfl), ↓dZ_90 hL (x := nI 1) (Or.inr rfl), ↓dZ_90 hL (Or.inl rfl), ↓dZ_90 hL (Or.inr rfl), ↓dZ_90 hL (nB_01 _), ↓reduceIte, ↓kq_bi, ↓kq_let, ↓kq_rz0, ↓kq_rz1, ↓kq_rzB, ↓Option.bind_some, kq_dvn, kt_lt, kf_lt, kt_eq, kf_eq, decide_true, decide_false, eq_self, Bool.false_eq_true, Bool.true_eq_false, not_true_eq_false, not_false_eq_true, jU_eq, jU_ne, jU_U, jV_eq, jV_ne, jV_V, kn_lit, kn_add, kn_mul, kn_sdm, kn_sub, kn_div, kn_nsdm, kn_lt, kn_eq, kn_pred, kn_m1, kn_m1', kn_a31, kn_shl, kn_shr, kn_bit, nB_0, nB_1, nB_t, nB_f, Nat.zero_add, Nat.add_zero, Nat.reduceAdd, Nat.reduceMul, Nat.reduceSub, Nat.reducePow]
          exact go
        · simp (disch := omega) only [F_SG_when_b53, show nB false = nI 0 from rfl, show nB true = nI 1 from rfl, ↓dK_64 hL, ↓dG_64 hL, ↓dP_64 hL, ↓dR_64_3 hL, ↓dR_95_0 hL, ↓dR_102_0 hL, ↓dR_105_0 hL, ↓dK_90 hL, ↓dG_90 hL, ↓dP_90 hL, ↓dZ_90 hL (x := nI 0) (Or.inl rfl), ↓dZ_90 hL (x := nI 1) (Or.inr rfl), ↓dZ_90 hL (Or.inl rfl), ↓dZ_90 hL (Or.inr rfl), ↓dZ_90 hL (nB_01 _), ↓reduceIte, ↓kq_bi, ↓kq_let, ↓kq_rz0, ↓kq_rz1, ↓kq_rzB, ↓Option.bind_some, kq_dvn, kt_lt, kf_lt, kt_eq, kf_eq, decide_true, decide_false, eq_self, Bool.false_eq_true, Bool.true_eq_false, not_true_eq_false, not_false_eq_true, jU_eq, jU_ne, jU_U, jV_eq, jV_ne, jV_V, kn_lit, kn_add, kn_mul, kn_sdm, kn_sub, kn_div, kn_nsdm, kn_lt, kn_eq, kn_pred, kn_m1, kn_m1', kn_a31, kn_shl, kn_shr, kn_bit, nB_0, nB_1, nB_t, nB_f, Nat.zero_add, Nat.add_zero, Nat.reduceAdd, Nat.reduceMul, Nat.reduceSub, Nat.reducePow]
          exact go
        · exact absurd hp (by decide)
      · have go : P (jo_i (nI k, jz_I h J2)) := by
          have := hP J2 hJ2.1
          unfold s_when at this
          rwa [s_fst_hit v3 hp hk] at this
        revert hp go
        unfold s_whp
        cases w <;> cases s_sh τ ω false (s_hrs τ ω r k) g <;> intro hp go
        · simp (disch := omega) only [F_SG_when_b53, show nB false = nI 0 from rfl, show nB true = nI 1 from rfl, ↓dK_64 hL, ↓dG_64 hL, ↓dP_64 hL, ↓dR_64_3 hL, ↓dR_95_0 hL, ↓dR_102_0 hL, ↓dR_105_0 hL, ↓dK_90 hL, ↓dG_90 hL, ↓dP_90 hL, ↓dZ_90 hL (x := nI 0) (Or.inl rfl), ↓dZ_90 hL (x := nI 1) (Or.inr rfl), ↓dZ_90 hL (Or.inl rfl), ↓dZ_90 hL (Or.inr rfl), ↓dZ_90 hL (nB_01 _), ↓reduceIte, ↓kq_bi, ↓kq_let, ↓kq_rz0, ↓kq_rz1, ↓kq_rzB, ↓Option.bind_some, kq_dvn, kt_lt, kf_lt, kt_eq, kf_eq, decide_true, decide_false, eq_self, Bool.false_eq_true, Bool.true_eq_false, not_true_eq_false, not_false_eq_true, jU_eq, jU_ne, jU_U, jV_eq, jV_ne, jV_V, kn_lit, kn_add, kn_mul, kn_sdm, kn_sub, kn_div, kn_nsdm, kn_lt, kn_eq, kn_pred, kn_m1, kn_m1', kn_a31, kn_shl, kn_shr, kn_bit, nB_0, nB_1, nB_t, nB_f, Nat.zero_add, Nat.add_zero, Nat.reduceAdd, Nat.reduceMul, Nat.reduceSub, Nat.reducePow]
          exact jW_s go
        · exact absurd hp (by decide)
        · exact absurd hp (by decide)
        · simp (disch := omega) only [F_SG_when_b53, show nB false = nI 0 from rfl, show nB true = nI 1 from rfl, ↓dK_64 hL, ↓dG_64 hL, ↓dP_64 hL, ↓dR_64_3 hL, ↓dR_95_0 hL, ↓dR_102_0 hL, ↓dR_105_0 hL, ↓dK_90 hL, ↓dG_90 hL, ↓dP_90 hL, ↓dZ_90 hL (x := nI 0) (Or.inl rfl), ↓dZ_90 hL (x := nI 1) (Or.inr rfl), ↓dZ_90 hL (Or.inl rfl), ↓dZ_90 hL (Or.inr rfl), ↓dZ_90 hL (nB_01 _), ↓reduceIte, ↓kq_bi, ↓kq_let, ↓kq_rz0, ↓kq_rz1, ↓kq_rzB, ↓Option.bind_some, kq_dvn, kt_lt, kf_lt, kt_eq, kf_eq, decide_true, decide_false, eq_self, Bool.false_eq_true, Bool.true_eq_false, not_true_eq_false, not_false_eq_true, jU_eq, jU_ne, jU_U, jV_eq, jV_ne, jV_V, kn_lit, kn_add, kn_mul, kn_sdm, kn_sub, kn_div, kn_nsdm, kn_lt, kn_eq, kn_pred, kn_m1, kn_m1', kn_a31, kn_shl, kn_shr, kn_bit, nB_0, nB_1, nB_t, nB_f, Nat.zero_add, Nat.add_zero, Nat.reduceAdd, Nat.reduceMul, Nat.reduceSub, Nat.reducePow]
          exact jW_s go
    · show jW (F_SG_when_c29 (F_SG_when_l29 n) 64 (nI g) (nB w) (nI 49) (jz_I h J)) P
      unfold F_SG_when_c29
      simp (disch := omega) only [↓dK_64 hL, ↓dG_64 hL, ↓dP_64 hL, ↓dR_64_3 hL, ↓dR_95_0 hL, ↓dR_102_0 hL, ↓dR_105_0 hL, ↓dK_90 hL, ↓dG_90 hL, ↓dP_90 hL, ↓dZ_90 hL (x := nI 0) (Or.inl rfl), ↓dZ_90 hL (x := nI 1) (Or.inr rfl), ↓dZ_90 hL (Or.inl rfl), ↓dZ_90 hL (Or.inr rfl), ↓dZ_90 hL (nB_01 _), ↓reduceIte, ↓kq_bi, ↓kq_let, ↓kq_rz0, ↓kq_rz1, ↓kq_rzB, ↓Option.bind_some, kq_dvn, kt_lt, kf_lt, kt_eq, kf_eq, decide_true, decide_false, eq_self, Bool.false_eq_true, Bool.true_eq_false, not_true_eq_false, not_false_eq_true, jU_eq, jU_ne, jU_U, jV_eq, jV_ne, jV_V, kn_lit, kn_add, kn_mul, kn_sdm, kn_sub, kn_div, kn_nsdm, kn_lt, kn_eq, kn_pred, kn_m1, kn_m1', kn_a31, kn_shl, kn_shr, kn_bit, nB_0, nB_1, nB_t, nB_f, Nat.zero_add, Nat.add_zero, Nat.reduceAdd, Nat.reduceMul, Nat.reduceSub, Nat.reducePow]
      have := hP J hV.1.1
      unfold s_when at this
      rw [hV.2] at this
      exact jW_s this
  unfold F_SG_when
  cases w
  · simp (disch := omega) only [c_needGate hL hQ.1.1 ho hg, kq_th, show nB false = nI 0 from rfl, F_SG_when_b15, ↓dK_64 hL, ↓dG_64 hL, ↓dP_64 hL, ↓reduceIte, ↓kq_bi, ↓kq_let, ↓kq_rz0, ↓kq_rz1, ↓kq_rzB, ↓Option.bind_some, kq_dvn, kt_lt, kf_lt, kt_eq, kf_eq, decide_true, decide_false, eq_self, Bool.false_eq_true, Bool.true_eq_false, not_true_eq_false, not_false_eq_true, jU_eq, jU_ne, jU_U, jV_eq, jV_ne, jV_V, kn_lit, kn_add, kn_mul, kn_sdm, kn_sub, kn_div, kn_nsdm, kn_lt, kn_eq, kn_pred, kn_m1, kn_m1', kn_a31, kn_shl, kn_shr, kn_bit, nB_0, nB_1, nB_t, nB_f, Nat.zero_add, Nat.add_zero, Nat.reduceAdd, Nat.reduceMul, Nat.reduceSub, Nat.reducePow]
    exact key
  · simp (disch := omega) only [c_needGate hL hQ.1.1 ho hg, kq_th, show nB true = nI 1 from rfl, F_SG_when_b15, ↓dK_64 hL, ↓dG_64 hL, ↓dP_64 hL, ↓reduceIte, ↓kq_bi, ↓kq_let, ↓kq_rz0, ↓kq_rz1, ↓kq_rzB, ↓Option.bind_some, kq_dvn, kt_lt, kf_lt, kt_eq, kf_eq, decide_true, decide_false, eq_self, Bool.false_eq_true, Bool.true_eq_false, not_true_eq_false, not_false_eq_true, jU_eq, jU_ne, jU_U, jV_eq, jV_ne, jV_V, kn_lit, kn_add, kn_mul, kn_sdm, kn_sub, kn_div, kn_nsdm, kn_lt, kn_eq, kn_pred, kn_m1, kn_m1', kn_a31, kn_shl, kn_shr, kn_bit, nB_0, nB_1, nB_t, nB_f, Nat.zero_add, Nat.add_zero, Nat.reduceAdd, Nat.reduceMul, Nat.reduceSub, Nat.reducePow]
    exact key
theorem m_when (hL : jLay t u l m b c h) (hQ : jQM I τ ω r) {g : Nat} (hg : g < τ 0 0) (w : Bool) : ∃ J, F_Mod_when 205 (nI g) (nB w) (jz_I h I) = some (nO (s_when τ ω r g w), jz_I h J) ∧ jN I J := by
  have ho := hQ.1.2.1
  refine jE_i (fun P hP => ?_)
  have N0 := jN_0 hQ
  have key : jW (F_Mod_when_b42 205 (nI g) (nB w) 205 (nI 0) (jz_I h (jU I 205 (jV (I 205) 0 (nI 0))))) P := by
    unfold F_Mod_when_b42
    simp (disch := omega) only [m_bad0 hL N0.2.2.2, ↓dK_205 hL, ↓dG_205 hL, ↓dP_205 hL, ↓dZ_205 hL (x := nI 0) (Or.inl rfl), ↓dZ_205 hL (x := nI 1) (Or.inr rfl), ↓dZ_205 hL (Or.inl rfl), ↓dZ_205 hL (Or.inr rfl), ↓dZ_205 hL (nB_01 _), ↓reduceIte, ↓kq_bi, ↓kq_let, ↓kq_rz0, ↓kq_rz1, ↓kq_rzB, ↓Option.bind_some, kq_dvn, kt_lt, kf_lt, kt_eq, kf_eq, decide_true, decide_false, eq_self, Bool.false_eq_true, Bool.true_eq_false, not_true_eq_false, not_false_eq_true, jU_eq, jU_ne, jU_U, jV_eq, jV_ne, jV_V, kn_lit, kn_add, kn_mul, kn_sdm, kn_sub, kn_div, kn_nsdm, kn_lt, kn_eq, kn_pred, kn_m1, kn_m1', kn_a31, kn_shl, kn_shr, kn_bit, nB_0, nB_1, nB_t, nB_f, Nat.zero_add, Nat.add_zero, Nat.reduceAdd, Nat.reduceMul, Nat.reduceSub, Nat.reducePow]
    refine jW_bn (m_trial hL hQ N0) (fun J hJ => ?_)
    refine jW_for0 (f := fun fuel k (J : Nat → Nat → Int32) => F_Mod_when_l58 fuel 205 (nI g) (nB w) (nI k) (jz_I h J)) 49 (fun k J => (jN I J ∧ jMR J 692 (s_hrs τ ω r k)) ∧ s_fst (s_whp τ ω r g w) k = none) J ⟨hJ, rfl⟩ (by omega) (fun n k J hk hV ih => ?_) (fun n J hV => ?_)
    · obtain ⟨⟨v1, v2⟩, v3⟩ := hV
      obtain ⟨hq, -⟩ := s_hrs_ok (ω := ω) ho hQ.2.2.1 hQ.2.2.2 k (by omega)
      show jW (F_Mod_when_c58 (F_Mod_when_l58 n) 205 (nI g) (nB w) (nI k) (jz_I h J)) P
      unfold F_Mod_when_c58
      simp (disch := omega) only [↓dK_205 hL, ↓dG_205 hL, ↓dP_205 hL, ↓dZ_205 hL (x := nI 0) (Or.inl rfl), ↓dZ_205 hL (x := nI 1) (Or.inr rfl), ↓dZ_205 hL (Or.inl rfl), ↓dZ_205 hL (Or.inr rfl), ↓dZ_205 hL (nB_01 _), ↓dR_205_36 hL, dI_692 hL, dS_692 hL, ↓reduceIte, ↓kq_bi, ↓kq_let, ↓kq_rz0, ↓kq_rz1, ↓kq_rzB, ↓Option.bind_some, kq_dvn, kt_lt, kf_lt, kt_eq, kf_eq, decide_true, decide_false, eq_self, Bool.false_eq_true, Bool.true_eq_false, not_true_eq_false, not_false_eq_true, jU_eq, jU_ne, jU_U, jV_eq, jV_ne, jV_V, kn_lit, kn_add, kn_mul, kn_sdm, kn_sub, kn_div, kn_nsdm, kn_lt, kn_eq, kn_pred, kn_m1, kn_m1', kn_a31, kn_shl, kn_shr, kn_bit, nB_0, nB_1, nB_t, nB_f, Nat.zero_add, Nat.add_zero, Nat.reduceAdd, Nat.reduceMul, Nat.reduceSub, Nat.reducePow]
      refine jW_bi (m_shutT hL hQ v1 v2 hq hg) (fun J2 hJ2 => ?_)
      cases hp : s_whp τ ω r g w k
      · have go : jW ((F_Mod_hourEnds 205 692 (jz_I h J2)).bind fun h2 => F_Mod_when_l58 n 205 (nI g) (nB w) (nI (k + 1)) h2) P := jW_bn (m_hourT hL hQ hJ2.1 hJ2.2 hq) (fun J3 hJ3 => ih _ ⟨hJ3, s_fst_miss v3 hp⟩)
        revert hp go
        unfold s_whp
        cases w <;> cases s_sh τ ω false (s_hrs τ ω r k) g <;> intro hp go
        · exact absurd hp (by decide)
        · simp (disch := omega) only [F_Mod_when_b83, show nB false = nI 0 from rfl, show nB true = nI 1 from rfl, ↓dK_205 hL, ↓dG_205 hL, ↓dP_205 hL, ↓dZ_205 hL (x := nI 0) (Or.inl rfl), ↓dZ_205 hL (x := nI 1) (Or.inr rfl), ↓dZ_205 hL (Or.inl rfl), ↓dZ_205 hL (Or.inr rfl), ↓dZ_205 hL (nB_01 _), ↓dR_205_36 hL, dI_692 hL, dS_692 hL, ↓reduceIte, ↓kq_bi, ↓kq_let, ↓kq_rz0, ↓kq_rz1, ↓kq_rzB, ↓Option.bind_some, kq_dvn, kt_lt, kf_lt, kt_eq, kf_eq, decide_true, decide_false, eq_self, Bool.false_eq_true, Bool.true_eq_false, not_true_eq_false, not_false_eq_true, jU_eq, jU_ne, jU_U, jV_eq, jV_ne, jV_V, kn_lit, kn_add, kn_mul, kn_sdm, kn_sub, kn_div, kn_nsdm, kn_lt, kn_eq, kn_pred, kn_m1, kn_m1', kn_a31, kn_shl, kn_shr, kn_bit, nB_0, nB_1, nB_t, nB_f, Nat.zero_add, Nat.add_zero, Nat.reduceAdd, Nat.reduceMul, Nat.reduceSub, Nat.reducePow]
          exact go
        · simp (disch := omega) only [F_Mod_when_b83, show nB false = nI 0 from rfl, show nB true = nI 1 from rfl, ↓dK_205 hL, ↓dG_205 hL, ↓dP_205 hL, ↓dZ_205 hL (x := nI 0) (Or.inl rfl), ↓dZ_205 hL (x := nI 1) (Or.inr rfl), ↓dZ_205 hL (Or.inl rfl), ↓dZ_205 hL (Or.inr rfl), ↓dZ_205 hL (nB_01 _), ↓dR_205_36 hL, dI_692 hL, dS_692 hL, ↓reduceIte, ↓kq_bi, ↓kq_let, ↓kq_rz0, ↓kq_rz1, ↓kq_rzB, ↓Option.bind_some, kq_dvn, kt_lt, kf_lt, kt_eq, kf_eq, decide_true, decide_false, eq_self, Bool.false_eq_true, Bool.true_eq_false, not_true_eq_false, not_false_eq_true, jU_eq, jU_ne, jU_U, jV_eq, jV_ne, jV_V, kn_lit, kn_add, kn_mul, kn_sdm, kn_sub, kn_div, kn_nsdm, kn_lt, kn_eq, kn_pred, kn_m1, kn_m1', kn_a31, kn_shl, kn_shr, kn_bit, nB_0, nB_1, nB_t, nB_f, Nat.zero_add, Nat.add_zero, Nat.reduceAdd, Nat.reduceMul, Nat.reduceSub, Nat.reducePow]
          exact go
        · exact absurd hp (by decide)
      · have go : P (nI k, jz_I h J2) := by
          have := hP J2 hJ2.1
          unfold s_when at this
          rwa [s_fst_hit v3 hp hk] at this
        revert hp go
        unfold s_whp
        cases w <;> cases s_sh τ ω false (s_hrs τ ω r k) g <;> intro hp go
        · simp (disch := omega) only [F_Mod_when_b83, show nB false = nI 0 from rfl, show nB true = nI 1 from rfl, ↓dK_205 hL, ↓dG_205 hL, ↓dP_205 hL, ↓dZ_205 hL (x := nI 0) (Or.inl rfl), ↓dZ_205 hL (x := nI 1) (Or.inr rfl), ↓dZ_205 hL (Or.inl rfl), ↓dZ_205 hL (Or.inr rfl), ↓dZ_205 hL (nB_01 _), ↓dR_205_36 hL, dI_692 hL, dS_692 hL, ↓reduceIte, ↓kq_bi, ↓kq_let, ↓kq_rz0, ↓kq_rz1, ↓kq_rzB, ↓Option.bind_some, kq_dvn, kt_lt, kf_lt, kt_eq, kf_eq, decide_true, decide_false, eq_self, Bool.false_eq_true, Bool.true_eq_false, not_true_eq_false, not_false_eq_true, jU_eq, jU_ne, jU_U, jV_eq, jV_ne, jV_V, kn_lit, kn_add, kn_mul, kn_sdm, kn_sub, kn_div, kn_nsdm, kn_lt, kn_eq, kn_pred, kn_m1, kn_m1', kn_a31, kn_shl, kn_shr, kn_bit, nB_0, nB_1, nB_t, nB_f, Nat.zero_add, Nat.add_zero, Nat.reduceAdd, Nat.reduceMul, Nat.reduceSub, Nat.reducePow]
          exact jW_s go
        · exact absurd hp (by decide)
        · exact absurd hp (by decide)
        · simp (disch := omega) only [F_Mod_when_b83, show nB false = nI 0 from rfl, show nB true = nI 1 from rfl, ↓dK_205 hL, ↓dG_205 hL, ↓dP_205 hL, ↓dZ_205 hL (x := nI 0) (Or.inl rfl), ↓dZ_205 hL (x := nI 1) (Or.inr rfl), ↓dZ_205 hL (Or.inl rfl), ↓dZ_205 hL (Or.inr rfl), ↓dZ_205 hL (nB_01 _), ↓dR_205_36 hL, dI_692 hL, dS_692 hL, ↓reduceIte, ↓kq_bi, ↓kq_let, ↓kq_rz0, ↓kq_rz1, ↓kq_rzB, ↓Option.bind_some, kq_dvn, kt_lt, kf_lt, kt_eq, kf_eq, decide_true, decide_false, eq_self, Bool.false_eq_true, Bool.true_eq_false, not_true_eq_false, not_false_eq_true, jU_eq, jU_ne, jU_U, jV_eq, jV_ne, jV_V, kn_lit, kn_add, kn_mul, kn_sdm, kn_sub, kn_div, kn_nsdm, kn_lt, kn_eq, kn_pred, kn_m1, kn_m1', kn_a31, kn_shl, kn_shr, kn_bit, nB_0, nB_1, nB_t, nB_f, Nat.zero_add, Nat.add_zero, Nat.reduceAdd, Nat.reduceMul, Nat.reduceSub, Nat.reducePow]
          exact jW_s go
    · show jW (F_Mod_when_c58 (F_Mod_when_l58 n) 205 (nI g) (nB w) (nI 49) (jz_I h J)) P
      unfold F_Mod_when_c58
      simp (disch := omega) only [↓dK_205 hL, ↓dG_205 hL, ↓dP_205 hL, ↓dZ_205 hL (x := nI 0) (Or.inl rfl), ↓dZ_205 hL (x := nI 1) (Or.inr rfl), ↓dZ_205 hL (Or.inl rfl), ↓dZ_205 hL (Or.inr rfl), ↓dZ_205 hL (nB_01 _), ↓reduceIte, ↓kq_bi, ↓kq_let, ↓kq_rz0, ↓kq_rz1, ↓kq_rzB, ↓Option.bind_some, kq_dvn, kt_lt, kf_lt, kt_eq, kf_eq, decide_true, decide_false, eq_self, Bool.false_eq_true, Bool.true_eq_false, not_true_eq_false, not_false_eq_true, jU_eq, jU_ne, jU_U, jV_eq, jV_ne, jV_V, kn_lit, kn_add, kn_mul, kn_sdm, kn_sub, kn_div, kn_nsdm, kn_lt, kn_eq, kn_pred, kn_m1, kn_m1', kn_a31, kn_shl, kn_shr, kn_bit, nB_0, nB_1, nB_t, nB_f, Nat.zero_add, Nat.add_zero, Nat.reduceAdd, Nat.reduceMul, Nat.reduceSub, Nat.reducePow]
      have := hP J hV.1.1
      unfold s_when at this
      rw [hV.2] at this
      exact jW_s this
  have hQ0 := jN_QM N0 hQ
  unfold F_Mod_when
  cases w
  · simp (disch := omega) only [m_isGate hL hQ0.1.1 ho hg, m_bad0 hL N0.2.2.2, m_in1, show nB false = nI 0 from rfl, F_Mod_when_b19, ↓dK_205 hL, ↓dG_205 hL, ↓dP_205 hL, ↓dZ_205 hL (x := nI 0) (Or.inl rfl), ↓dZ_205 hL (x := nI 1) (Or.inr rfl), ↓dZ_205 hL (Or.inl rfl), ↓dZ_205 hL (Or.inr rfl), ↓dZ_205 hL (nB_01 _), ↓reduceIte, ↓kq_bi, ↓kq_let, ↓kq_rz0, ↓kq_rz1, ↓kq_rzB, ↓Option.bind_some, kq_dvn, kt_lt, kf_lt, kt_eq, kf_eq, decide_true, decide_false, eq_self, Bool.false_eq_true, Bool.true_eq_false, not_true_eq_false, not_false_eq_true, jU_eq, jU_ne, jU_U, jV_eq, jV_ne, jV_V, kn_lit, kn_add, kn_mul, kn_sdm, kn_sub, kn_div, kn_nsdm, kn_lt, kn_eq, kn_pred, kn_m1, kn_m1', kn_a31, kn_shl, kn_shr, kn_bit, nB_0, nB_1, nB_t, nB_f, Nat.zero_add, Nat.add_zero, Nat.reduceAdd, Nat.reduceMul, Nat.reduceSub, Nat.reducePow]
    exact key
  · simp (disch := omega) only [m_isGate hL hQ0.1.1 ho hg, m_bad0 hL N0.2.2.2, m_in1, show nB true = nI 1 from rfl, F_Mod_when_b19, ↓dK_205 hL, ↓dG_205 hL, ↓dP_205 hL, ↓dZ_205 hL (x := nI 0) (Or.inl rfl), ↓dZ_205 hL (x := nI 1) (Or.inr rfl), ↓dZ_205 hL (Or.inl rfl), ↓dZ_205 hL (Or.inr rfl), ↓dZ_205 hL (nB_01 _), ↓reduceIte, ↓kq_bi, ↓kq_let, ↓kq_rz0, ↓kq_rz1, ↓kq_rzB, ↓Option.bind_some, kq_dvn, kt_lt, kf_lt, kt_eq, kf_eq, decide_true, decide_false, eq_self, Bool.false_eq_true, Bool.true_eq_false, not_true_eq_false, not_false_eq_true, jU_eq, jU_ne, jU_U, jV_eq, jV_ne, jV_V, kn_lit, kn_add, kn_mul, kn_sdm, kn_sub, kn_div, kn_nsdm, kn_lt, kn_eq, kn_pred, kn_m1, kn_m1', kn_a31, kn_shl, kn_shr, kn_bit, nB_0, nB_1, nB_t, nB_f, Nat.zero_add, Nat.add_zero, Nat.reduceAdd, Nat.reduceMul, Nat.reduceSub, Nat.reducePow]
    exact key
end

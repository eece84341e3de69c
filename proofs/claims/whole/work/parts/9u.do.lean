/-! PLAIN LEAN: work is done -/
/-- a row, how many steps are begun, done, refused -/
abbrev JXq : Type := JRw × Nat × Nat × Nat
def jXC (J : Nat → Nat → Int32) (t l : Nat) (τ : JTn) (ω π : JLw) (q : JXq) : Prop := jCE J t l τ ω ∧ jCS J 85 τ false q.1 ∧ (J 67 1 = nI (3 * π.1) ∧ ∀ i, i < π.1 → jPsC J π.2 i) ∧ J 67 2 = nI q.2.1 ∧ J 67 3 = nI q.2.2.1 ∧ J 67 4 = nI q.2.2.2
def jXM (J : Nat → Nat → Int32) (τ : JTn) (ω π : JLw) (q : JXq) : Prop := jME J τ ω false ∧ jMR J 691 q.1 ∧ (∀ i, i < π.1 → jPsM J π.2 i) ∧ J 205 45 = nI q.2.1 ∧ J 205 46 = nI q.2.2.1 ∧ J 205 41 = nI q.2.2.2
def jXG (τ : JTn) (q : JXq) : Prop := jRG τ q.1 ∧ q.2.1 ≤ 200 ∧ q.2.2.1 ≤ q.2.1 ∧ q.2.2.2 ≤ q.2.1
def jXFc (l : Nat) (J K : Nat → Nat → Int32) : Prop := K 67 1 = J 67 1 ∧ ∀ a, ¬ (85 ≤ a ∧ a < 90) → ¬ a = l + 2 → ¬ a = 67 → K a = J a
def jXFm (J K : Nat → Nat → Int32) : Prop := (∀ f, ¬ f = 41 → ¬ f = 45 → ¬ f = 46 → K 205 f = J 205 f) ∧ ∀ a, ¬ a = 205 → ¬ a = 608 → ¬ a = 609 → ¬ a = 691 → K a = J a
/-- one step -/
def s_do (τ : JTn) (ω : JLw) (r : JRw) (v : Nat → Nat) : Bool × JRw := if v 0 = 0 then (s_can r (v 1) (v 2), s_layd τ r (v 1) (v 2)) else if v 0 = 1 then (decide (¬ r (108 + v 1) = 0), s_dsd r (v 1)) else if r 133 < 1000 then (true, s_hour τ ω false r) else (false, r)
def s_doq (p : Bool × JRw) (q : JXq) : JXq := (p.2, q.2.1 + 1, q.2.2.1 + (if p.1 = true then 1 else 0), q.2.2.2 + (if p.1 = true then 0 else 1))
section
variable {t u l m b c : Nat} {h : LH} {I J K L : Nat → Nat → Int32} {n o k i : Nat} {x : Int32} {π ω : JLw} {τ : JTn} {q q' : JXq} {r : JRw} {v : Nat → Nat}
theorem jXFc_trans (h1 : jXFc l J K) (h2 : jXFc l K L) : jXFc l J L := ⟨h2.1.trans h1.1, fun a x1 x2 x3 => (h2.2 a x1 x2 x3).trans (h1.2 a x1 x2 x3)⟩
theorem jXFc_r : jXFc l J J := ⟨rfl, fun _ _ _ _ => rfl⟩
theorem jXFm_trans (h1 : jXFm J K) (h2 : jXFm K L) : jXFm J L := ⟨fun f x1 x2 x3 => (h2.1 f x1 x2 x3).trans (h1.1 f x1 x2 x3), fun a x1 x2 x3 x4 => (h2.2 a x1 x2 x3 x4).trans (h1.2 a x1 x2 x3 x4)⟩
theorem jXFm_r : jXFm J J := ⟨fun _ _ _ _ => rfl, fun _ _ _ _ _ => rfl⟩
theorem s_layd_hi {g w j : Nat} (hg : g < 9) (hw : w < 6) (h6 : r (108 + g) ≤ 6) (hj : 123 ≤ j) : s_layd τ r g w j = r j := by
  unfold s_layd
  split
  · rename_i hc
    have := of_decide_eq_true hc
    unfold s_lay nV
    rw [if_neg (by omega), if_neg (by omega), if_neg (by omega), if_neg (by omega)]
  · rfl
theorem s_dsd_hi {g j : Nat} (hg : g < 9) (hj : 123 ≤ j) : s_dsd r g j = r j := by
  unfold s_dsd
  split
  · rfl
  · exact if_neg (by omega)
theorem s_dsd_ok {g : Nat} (hg : g < 9) (hr : jROK τ r) : jROK τ (s_dsd r g) := by
  unfold s_dsd
  split
  · exact hr
  · obtain ⟨a1, a2, a3, a4, a5⟩ := hr
    have e : ∀ j, ¬ j = 108 + g → nV r (108 + g) 0 j = r j := fun j hj => if_neg hj
    have e0 : nV r (108 + g) 0 (108 + g) = 0 := if_pos rfl
    refine ⟨fun x hx => ?_, fun x k hx hk => ?_, fun w hw => ?_, fun c hc => ?_, fun k hk => ?_⟩
    · by_cases z : x = g
      · rw [z, e0]; omega
      · rw [e _ (by omega)]; exact a1 x hx
    · by_cases z : x = g
      · rw [z, e0] at hk; exact absurd hk (Nat.not_lt_zero k)
      · rw [e _ (by omega)] at hk
        have := a1 x hx
        rw [e _ (by omega), e _ (by omega)]; exact a2 x k hx hk
    · rw [e _ (by omega)]; exact a3 w hw
    · rw [e _ (by omega)]; exact a4 c hc
    · by_cases z : k = 108 + g
      · rw [z, e0]; omega
      · rw [e k z]; exact a5 k hk
theorem s_do_g (ho : jTOK τ) (hr : jRG τ r) (h1 : v 0 < 2 → v 1 < τ 0 0) (h2 : v 0 = 0 → v 2 < τ 0 1) : jRG τ (s_do τ ω r v).2 := by
  have o0 : τ 0 0 ≤ 9 := ho.1
  have o1 : τ 0 1 ≤ 6 := ho.2.1
  have o2 : τ 0 2 ≤ 10 := ho.2.2.1
  obtain ⟨r1, r2, r3⟩ := hr
  unfold s_do
  by_cases z0 : v 0 = 0
  · rw [if_pos z0]
    have g1 := h1 (by omega)
    have g2 := h2 z0
    have h6 := r1.1 (v 1) (by omega)
    have e : ∀ j, 123 ≤ j → s_layd τ r (v 1) (v 2) j = r j := fun j hj => s_layd_hi (by omega) (by omega) h6 hj
    exact ⟨s_layd_ok ho r1 (by omega) g2, fun c hc h0 => by
      have h0 : ¬ s_layd τ r (v 1) (v 2) (123 + c) = 0 := h0
      show τ 10 c < s_layd τ r (v 1) (v 2) 133
      rw [e _ (by omega)] at h0 ⊢
      exact r2 c hc h0, by show s_layd τ r (v 1) (v 2) 133 ≤ 1000; rw [e _ (by omega)]; exact r3⟩
  · rw [if_neg z0]
    by_cases z1 : v 0 = 1
    · rw [if_pos z1]
      have g1 := h1 (by omega)
      have e : ∀ j, 123 ≤ j → s_dsd r (v 1) j = r j := fun j hj => s_dsd_hi (by omega) hj
      exact ⟨s_dsd_ok (by omega) r1, fun c hc h0 => by
        have h0 : ¬ s_dsd r (v 1) (123 + c) = 0 := h0
        show τ 10 c < s_dsd r (v 1) 133
        rw [e _ (by omega)] at h0 ⊢
        exact r2 c hc h0, by show s_dsd r (v 1) 133 ≤ 1000; rw [e _ (by omega)]; exact r3⟩
    · rw [if_neg z1]
      by_cases z2 : r 133 < 1000
      · rw [if_pos z2]
        exact ⟨s_hour_ok ho r1 (by omega), jCm_hour ho r2, by show s_hour τ ω false r 133 ≤ 1000; rw [s_hour_133]; omega⟩
      · rw [if_neg z2]
        exact ⟨r1, r2, r3⟩
theorem c_do (hL : jLay t u l m b c h) (hE : jCE J t l τ ω) (hS : jCS J 85 τ false r) (hr : jRG τ r) (hv : v 0 ≤ 2) (h1 : v 0 < 2 → v 1 < τ 0 0) (h2 : v 0 = 0 → v 2 < τ 0 1) {x1 x2 : Int32} (e1 : ¬ v 0 = 2 → x1 = nI (v 1)) (e2 : v 0 = 0 → x2 = nI (v 2)) : ∃ K, F_Prog_canDo 67 85 (nI (v 0 + 1)) x1 x2 (jz_I h J) = some (nB (s_do τ ω r v).1, jz_I h K) ∧ jCS K 85 τ false (s_do τ ω r v).2 ∧ jSc l 85 J K := by
  have ho := hE.2.1
  have o0 : τ 0 0 ≤ 9 := ho.1
  obtain ⟨r1, r2, r3⟩ := hr
  refine jE_i (fun P hP => ?_)
  unfold s_do at hP
  unfold F_Prog_canDo
  rcases (show v 0 = 0 ∨ v 0 = 1 ∨ v 0 = 2 by omega) with z | z | z
  · rw [z] at hP e1 e2 h1 h2 ⊢
    rw [if_pos rfl] at hP
    have g1 := h1 (by omega)
    have g2 := h2 rfl
    rw [e1 (by omega), e2 rfl]
    simp (disch := omega) only [↓dR_64_2 hL, ↓dK_85 hL, ↓dG_85 hL, ↓dP_85 hL, ↓dZ_85 hL (x := nI 0) (Or.inl rfl), ↓dZ_85 hL (x := nI 1) (Or.inr rfl), ↓dZ_85 hL (Or.inl rfl), ↓dZ_85 hL (Or.inr rfl), ↓dZ_85 hL (nB_01 _), ↓reduceIte, ↓kq_bi, ↓kq_let, ↓kq_rz0, ↓kq_rz1, ↓kq_rzB, ↓Option.bind_some, kq_dvn, kt_lt, kf_lt, kt_eq, kf_eq, decide_true, decide_false, eq_self, Bool.false_eq_true, Bool.true_eq_false, not_true_eq_false, not_false_eq_true, jU_eq, jU_ne, jU_U, jV_eq, jV_ne, jV_V, kn_lit, kn_add, kn_mul, kn_sdm, kn_sub, kn_div, kn_nsdm, kn_lt, kn_eq, kn_pred, kn_m1, kn_m1', kn_a31, kn_shl, kn_shr, kn_bit, nB_0, nB_1, nB_t, nB_f, Nat.zero_add, Nat.add_zero, Nat.reduceAdd, Nat.reduceMul, Nat.reduceSub, Nat.reducePow]
    refine jW_bi (c_lay hL hE (Or.inl rfl) hS r1 (by omega) g2) (fun K hK => ?_)
    rw [kq_rzB]
    exact jW_s (hP K hK)
  · rw [z] at hP e1 h1 ⊢
    rw [if_neg (show ¬ 1 = 0 by omega), if_pos rfl] at hP
    have g1 := h1 (by omega)
    rw [e1 (by omega)]
    simp (disch := omega) only [↓dR_64_2 hL, ↓dK_85 hL, ↓dG_85 hL, ↓dP_85 hL, ↓dZ_85 hL (x := nI 0) (Or.inl rfl), ↓dZ_85 hL (x := nI 1) (Or.inr rfl), ↓dZ_85 hL (Or.inl rfl), ↓dZ_85 hL (Or.inr rfl), ↓dZ_85 hL (nB_01 _), ↓reduceIte, ↓kq_bi, ↓kq_let, ↓kq_rz0, ↓kq_rz1, ↓kq_rzB, ↓Option.bind_some, kq_dvn, kt_lt, kf_lt, kt_eq, kf_eq, decide_true, decide_false, eq_self, Bool.false_eq_true, Bool.true_eq_false, not_true_eq_false, not_false_eq_true, jU_eq, jU_ne, jU_U, jV_eq, jV_ne, jV_V, kn_lit, kn_add, kn_mul, kn_sdm, kn_sub, kn_div, kn_nsdm, kn_lt, kn_eq, kn_pred, kn_m1, kn_m1', kn_a31, kn_shl, kn_shr, kn_bit, nB_0, nB_1, nB_t, nB_f, Nat.zero_add, Nat.add_zero, Nat.reduceAdd, Nat.reduceMul, Nat.reduceSub, Nat.reducePow]
    refine jW_bi (c_quench hL (Or.inl rfl) hS r1 (by omega)) (fun K hK => ?_)
    rw [kq_rzB]
    exact jW_s (hP K hK)
  · rw [z] at hP ⊢
    rw [if_neg (show ¬ 2 = 0 by omega), if_neg (show ¬ 2 = 1 by omega)] at hP
    have hh := c_hourNow hL (Or.inl rfl) hS.1
    by_cases z2 : r 133 < 1000
    · rw [if_pos z2] at hP
      simp (disch := omega) only [hh, ↓dR_64_2 hL, ↓dK_85 hL, ↓dG_85 hL, ↓dP_85 hL, ↓dZ_85 hL (x := nI 0) (Or.inl rfl), ↓dZ_85 hL (x := nI 1) (Or.inr rfl), ↓dZ_85 hL (Or.inl rfl), ↓dZ_85 hL (Or.inr rfl), ↓dZ_85 hL (nB_01 _), ↓reduceIte, ↓kq_bi, ↓kq_let, ↓kq_rz0, ↓kq_rz1, ↓kq_rzB, ↓Option.bind_some, kq_dvn, kt_lt, kf_lt, kt_eq, kf_eq, decide_true, decide_false, eq_self, Bool.false_eq_true, Bool.true_eq_false, not_true_eq_false, not_false_eq_true, jU_eq, jU_ne, jU_U, jV_eq, jV_ne, jV_V, kn_lit, kn_add, kn_mul, kn_sdm, kn_sub, kn_div, kn_nsdm, kn_lt, kn_eq, kn_pred, kn_m1, kn_m1', kn_a31, kn_shl, kn_shr, kn_bit, nB_0, nB_1, nB_t, nB_f, Nat.zero_add, Nat.add_zero, Nat.reduceAdd, Nat.reduceMul, Nat.reduceSub, Nat.reducePow]
      refine jW_bn (c_pass hL hE (Or.inl rfl) hS r1) (fun K hK => ?_)
      exact jW_s (hP K hK)
    · rw [if_neg z2] at hP
      simp (disch := omega) only [hh, ↓dR_64_2 hL, ↓dK_85 hL, ↓dG_85 hL, ↓dP_85 hL, ↓dZ_85 hL (x := nI 0) (Or.inl rfl), ↓dZ_85 hL (x := nI 1) (Or.inr rfl), ↓dZ_85 hL (Or.inl rfl), ↓dZ_85 hL (Or.inr rfl), ↓dZ_85 hL (nB_01 _), ↓reduceIte, ↓kq_bi, ↓kq_let, ↓kq_rz0, ↓kq_rz1, ↓kq_rzB, ↓Option.bind_some, kq_dvn, kt_lt, kf_lt, kt_eq, kf_eq, decide_true, decide_false, eq_self, Bool.false_eq_true, Bool.true_eq_false, not_true_eq_false, not_false_eq_true, jU_eq, jU_ne, jU_U, jV_eq, jV_ne, jV_V, kn_lit, kn_add, kn_mul, kn_sdm, kn_sub, kn_div, kn_nsdm, kn_lt, kn_eq, kn_pred, kn_m1, kn_m1', kn_a31, kn_shl, kn_shr, kn_bit, nB_0, nB_1, nB_t, nB_f, Nat.zero_add, Nat.add_zero, Nat.reduceAdd, Nat.reduceMul, Nat.reduceSub, Nat.reducePow]
      exact jW_s (hP J ⟨hS, jSc_refl⟩)
theorem m_do (hL : jLay t u l m b c h) (hE : jME J τ ω false) (hR : jMR J 691 r) (hr : jRG τ r) (hi : i < 80) (hv : v 0 ≤ 2) (h1 : v 0 < 2 → v 1 < τ 0 0) (h2 : v 0 = 0 → v 2 < τ 0 1) (e0 : J (611 + i) 0 = nI (v 0)) (e1 : ¬ v 0 = 2 → J (611 + i) 1 = nI (v 1)) (e2 : v 0 = 0 → J (611 + i) 2 = nI (v 2)) : ∃ K, F_Mod_does 205 691 (611 + i) (jz_I h J) = some (nB (s_do τ ω r v).1, jz_I h K) ∧ jMR K 691 (s_do τ ω r v).2 ∧ jS3 691 J K := by
  have ho := hE.2.1
  have o0 : τ 0 0 ≤ 9 := ho.1
  obtain ⟨r1, r2, r3⟩ := hr
  refine jE_i (fun P hP => ?_)
  unfold s_do at hP
  unfold F_Mod_does
  rcases (show v 0 = 0 ∨ v 0 = 1 ∨ v 0 = 2 by omega) with z | z | z
  · rw [z] at hP e0 e1 e2 h1 h2
    rw [if_pos rfl] at hP
    have g1 := h1 (by omega)
    have g2 := h2 rfl
    have e1 := e1 (by omega)
    have e2 := e2 rfl
    simp (disch := omega) only [e0, e1, e2, ↓dK_205 hL, ↓dG_205 hL, ↓dP_205 hL, ↓dZ_205 hL (x := nI 0) (Or.inl rfl), ↓dZ_205 hL (x := nI 1) (Or.inr rfl), ↓dZ_205 hL (Or.inl rfl), ↓dZ_205 hL (Or.inr rfl), ↓dZ_205 hL (nB_01 _), ↓dR_205_33 hL, dA_610 hL, dI_611 hL, dS_611 hL, ↓reduceIte, ↓kq_bi, ↓kq_let, ↓kq_rz0, ↓kq_rz1, ↓kq_rzB, ↓Option.bind_some, kq_dvn, kt_lt, kf_lt, kt_eq, kf_eq, decide_true, decide_false, eq_self, Bool.false_eq_true, Bool.true_eq_false, not_true_eq_false, not_false_eq_true, jU_eq, jU_ne, jU_U, jV_eq, jV_ne, jV_V, kn_lit, kn_add, kn_mul, kn_sdm, kn_sub, kn_div, kn_nsdm, kn_lt, kn_eq, kn_pred, kn_m1, kn_m1', kn_a31, kn_shl, kn_shr, kn_bit, nB_0, nB_1, nB_t, nB_f, Nat.zero_add, Nat.add_zero, Nat.reduceAdd, Nat.reduceMul, Nat.reduceSub, Nat.reducePow]
    refine jW_bi (m_laysOn hL hE.1 ho (Or.inl rfl) hR r1 (by omega) g2) (fun K hK => ?_)
    rw [kq_rzB]
    exact jW_s (hP K ⟨hK.1, fun a _ _ x3 => hK.2 a x3⟩)
  · rw [z] at hP e0 e1 h1
    rw [if_neg (show ¬ 1 = 0 by omega), if_pos rfl] at hP
    have g1 := h1 (by omega)
    have e1 := e1 (by omega)
    have h6 := r1.1 (v 1) (by omega)
    by_cases z2 : r (108 + v 1) = 0
    · rw [show decide (¬ r (108 + v 1) = 0) = false from decide_eq_false (fun a => a z2), show s_dsd r (v 1) = r from if_pos z2] at hP
      simp (disch := omega) only [e0, e1, jMR_at hR, ↓dK_205 hL, ↓dG_205 hL, ↓dP_205 hL, ↓dZ_205 hL (x := nI 0) (Or.inl rfl), ↓dZ_205 hL (x := nI 1) (Or.inr rfl), ↓dZ_205 hL (Or.inl rfl), ↓dZ_205 hL (Or.inr rfl), ↓dZ_205 hL (nB_01 _), ↓dR_205_33 hL, dA_610 hL, dI_611 hL, dS_611 hL, ↓dR_205_35 hL, dI_691 hL, dS_691 hL, ↓reduceIte, ↓kq_bi, ↓kq_let, ↓kq_rz0, ↓kq_rz1, ↓kq_rzB, ↓Option.bind_some, kq_dvn, kt_lt, kf_lt, kt_eq, kf_eq, decide_true, decide_false, eq_self, Bool.false_eq_true, Bool.true_eq_false, not_true_eq_false, not_false_eq_true, jU_eq, jU_ne, jU_U, jV_eq, jV_ne, jV_V, kn_lit, kn_add, kn_mul, kn_sdm, kn_sub, kn_div, kn_nsdm, kn_lt, kn_eq, kn_pred, kn_m1, kn_m1', kn_a31, kn_shl, kn_shr, kn_bit, nB_0, nB_1, nB_t, nB_f, Nat.zero_add, Nat.add_zero, Nat.reduceAdd, Nat.reduceMul, Nat.reduceSub, Nat.reducePow]
      exact jW_s (hP J ⟨hR, jS3_refl⟩)
    · rw [show decide (¬ r (108 + v 1) = 0) = true from decide_eq_true z2, show s_dsd r (v 1) = nV r (108 + v 1) 0 from if_neg z2] at hP
      simp (disch := omega) only [e0, e1, jMR_at hR, ↓dK_205 hL, ↓dG_205 hL, ↓dP_205 hL, ↓dZ_205 hL (x := nI 0) (Or.inl rfl), ↓dZ_205 hL (x := nI 1) (Or.inr rfl), ↓dZ_205 hL (Or.inl rfl), ↓dZ_205 hL (Or.inr rfl), ↓dZ_205 hL (nB_01 _), ↓dR_205_33 hL, dA_610 hL, dI_611 hL, dS_611 hL, ↓dR_205_35 hL, dI_691 hL, dS_691 hL, ↓reduceIte, ↓kq_bi, ↓kq_let, ↓kq_rz0, ↓kq_rz1, ↓kq_rzB, ↓Option.bind_some, kq_dvn, kt_lt, kf_lt, kt_eq, kf_eq, decide_true, decide_false, eq_self, Bool.false_eq_true, Bool.true_eq_false, not_true_eq_false, not_false_eq_true, jU_eq, jU_ne, jU_U, jV_eq, jV_ne, jV_V, kn_lit, kn_add, kn_mul, kn_sdm, kn_sub, kn_div, kn_nsdm, kn_lt, kn_eq, kn_pred, kn_m1, kn_m1', kn_a31, kn_shl, kn_shr, kn_bit, nB_0, nB_1, nB_t, nB_f, Nat.zero_add, Nat.add_zero, Nat.reduceAdd, Nat.reduceMul, Nat.reduceSub, Nat.reducePow]
      refine jW_s (hP _ ⟨fun k hk => ?_, fun a _ _ x3 => jU_ne x3⟩)
      rw [jU_eq]
      show _ = nI (nV r (108 + v 1) 0 k)
      unfold nV
      by_cases zk : k = 108 + v 1
      · rw [zk, jV_eq, if_pos rfl]
      · rw [jV_ne zk, if_neg zk]; exact hR k hk
  · rw [z] at hP e0
    rw [if_neg (show ¬ 2 = 0 by omega), if_neg (show ¬ 2 = 1 by omega)] at hP
    have h133 := r1.2.2.2.2 133 (by omega)
    by_cases z2 : r 133 < 1000
    · rw [if_pos z2] at hP
      simp (disch := omega) only [e0, jMR_at hR, ↓dK_205 hL, ↓dG_205 hL, ↓dP_205 hL, ↓dZ_205 hL (x := nI 0) (Or.inl rfl), ↓dZ_205 hL (x := nI 1) (Or.inr rfl), ↓dZ_205 hL (Or.inl rfl), ↓dZ_205 hL (Or.inr rfl), ↓dZ_205 hL (nB_01 _), ↓dR_205_33 hL, dA_610 hL, dI_611 hL, dS_611 hL, ↓dR_205_35 hL, dI_691 hL, dS_691 hL, ↓reduceIte, ↓kq_bi, ↓kq_let, ↓kq_rz0, ↓kq_rz1, ↓kq_rzB, ↓Option.bind_some, kq_dvn, kt_lt, kf_lt, kt_eq, kf_eq, decide_true, decide_false, eq_self, Bool.false_eq_true, Bool.true_eq_false, not_true_eq_false, not_false_eq_true, jU_eq, jU_ne, jU_U, jV_eq, jV_ne, jV_V, kn_lit, kn_add, kn_mul, kn_sdm, kn_sub, kn_div, kn_nsdm, kn_lt, kn_eq, kn_pred, kn_m1, kn_m1', kn_a31, kn_shl, kn_shr, kn_bit, nB_0, nB_1, nB_t, nB_f, Nat.zero_add, Nat.add_zero, Nat.reduceAdd, Nat.reduceMul, Nat.reduceSub, Nat.reducePow]
      refine jW_bn (m_hourEnds hL hE (Or.inl rfl) hR r1) (fun K hK => ?_)
      exact jW_s (hP K hK)
    · rw [if_neg z2] at hP
      simp (disch := omega) only [e0, jMR_at hR, ↓dK_205 hL, ↓dG_205 hL, ↓dP_205 hL, ↓dZ_205 hL (x := nI 0) (Or.inl rfl), ↓dZ_205 hL (x := nI 1) (Or.inr rfl), ↓dZ_205 hL (Or.inl rfl), ↓dZ_205 hL (Or.inr rfl), ↓dZ_205 hL (nB_01 _), ↓dR_205_33 hL, dA_610 hL, dI_611 hL, dS_611 hL, ↓dR_205_35 hL, dI_691 hL, dS_691 hL, ↓reduceIte, ↓kq_bi, ↓kq_let, ↓kq_rz0, ↓kq_rz1, ↓kq_rzB, ↓Option.bind_some, kq_dvn, kt_lt, kf_lt, kt_eq, kf_eq, decide_true, decide_false, eq_self, Bool.false_eq_true, Bool.true_eq_false, not_true_eq_false, not_false_eq_true, jU_eq, jU_ne, jU_U, jV_eq, jV_ne, jV_V, kn_lit, kn_add, kn_mul, kn_sdm, kn_sub, kn_div, kn_nsdm, kn_lt, kn_eq, kn_pred, kn_m1, kn_m1', kn_a31, kn_shl, kn_shr, kn_bit, nB_0, nB_1, nB_t, nB_f, Nat.zero_add, Nat.add_zero, Nat.reduceAdd, Nat.reduceMul, Nat.reduceSub, Nat.reducePow]
      exact jW_s (hP J ⟨hR, jS3_refl⟩)
end

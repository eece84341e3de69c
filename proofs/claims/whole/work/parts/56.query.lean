/-! PLAIN LEAN, 22: lean -/
section
variable {t u l m b c : Nat} {h : LH} {I J K : Nat → Nat → Int32} {τ : JTn} {r q : JRw} {σ ρ i : Nat} {Q : Type} {x : Int32} {d : Bool} {ω : JLw} {f : Nat → Int32}
theorem s_th_le2 (ho : jTOK τ) {w : Nat} (hw : w < τ 0 1) : s_th τ d r w ≤ 20 := by
  have := (ho.2.2.2.2.2.2.2.1 w hw).2.1
  unfold s_th
  split
  · have := Nat.div_le_self (τ 2 w) 2; omega
  · rw [Nat.div_one]; omega
theorem s_smf_lek (ho : jTOK τ) (hr : jROK τ r) {g : Nat} (hg : g < 9) {n : Nat} (hn : n ≤ r (108 + g)) : s_sum (fun k => s_th τ d r (r (6 * g + k))) n ≤ 120 := by
  have b6 := hr.1 g hg
  have := s_sum_le (f := fun k => s_th τ d r (r (6 * g + k))) (c := 20) n (fun k hk => s_th_le2 ho (hr.2.1 g k hg (by omega)).1)
  omega
theorem c_smokeOfFire (hL : jLay t u l m b c h) (hσ : σ = 85 ∨ σ = 90) (hT : jCT I t τ) (ho : jTOK τ) (hR : jCR I (σ + 1) r) (hw6 : I σ 6 = nB (s_rain τ d (r 133))) (hr : jROK τ r) {g : Nat} (hg : g < 9) : F_Scene_smokeOfFire σ (nI g) (jz_I h I) = some (nI (s_smf τ d r g), jz_I h I) := by
  have b6 := hr.1 g hg
  unfold F_Scene_smokeOfFire s_smf
  refine jz_for (fun fuel k s => F_Scene_smokeOfFire_l4 fuel σ (nI g) (nI s) (nI k) (jz_I h I)) (r (108 + g)) (fun k => s_sum (fun k => s_th τ d r (r (6 * g + k))) k) _ (fun n k hk => ?_) (fun n => ?_) jF (by show _ < 1000; omega)
  · have hw := (hr.2.1 g k hg hk).1
    simp (disch := omega) only [F_Scene_smokeOfFire_l4, F_Scene_smokeOfFire_c4, c_burning hL hσ hR, c_woodOf hL hσ hR hr, c_thickNow hL hσ hT ho (d := d) (r := r) hw6, s_sum, ↓dK_S hL hσ, ↓dG_S hL hσ, ↓dP_S hL hσ, ↓dZ_S hL hσ (x := nI 0) (Or.inl rfl), ↓dZ_S hL hσ (x := nI 1) (Or.inr rfl), ↓dZ_S hL hσ (Or.inl rfl), ↓dZ_S hL hσ (Or.inr rfl), ↓dZ_S hL hσ (nB_01 _), ↓dR_S_1 hL hσ, ↓dR_S_2 hL hσ, ↓reduceIte, ↓kq_bi, ↓kq_let, ↓kq_rz0, ↓kq_rz1, ↓kq_rzB, ↓Option.bind_some, kq_dvn, kt_lt, kf_lt, kt_eq, kf_eq, decide_true, decide_false, eq_self, Bool.false_eq_true, Bool.true_eq_false, not_true_eq_false, not_false_eq_true, jU_eq, jU_ne, jU_U, jV_eq, jV_ne, jV_V, kn_lit, kn_add, kn_mul, kn_sdm, kn_sub, kn_div, kn_nsdm, kn_lt, kn_eq, kn_pred, kn_m1, kn_m1', kn_a31, kn_shl, kn_shr, kn_bit, nB_0, nB_1, nB_t, nB_f, Nat.zero_add, Nat.add_zero, Nat.reduceAdd, Nat.reduceMul, Nat.reduceSub, Nat.reducePow]
  · simp (disch := omega) only [F_Scene_smokeOfFire_l4, F_Scene_smokeOfFire_c4, c_burning hL hσ hR, ↓dK_S hL hσ, ↓dG_S hL hσ, ↓dP_S hL hσ, ↓dZ_S hL hσ (x := nI 0) (Or.inl rfl), ↓dZ_S hL hσ (x := nI 1) (Or.inr rfl), ↓dZ_S hL hσ (Or.inl rfl), ↓dZ_S hL hσ (Or.inr rfl), ↓dZ_S hL hσ (nB_01 _), ↓dR_S_1 hL hσ, ↓dR_S_2 hL hσ, ↓reduceIte, ↓kq_bi, ↓kq_let, ↓kq_rz0, ↓kq_rz1, ↓kq_rzB, ↓Option.bind_some, kq_dvn, kt_lt, kf_lt, kt_eq, kf_eq, decide_true, decide_false, eq_self, Bool.false_eq_true, Bool.true_eq_false, not_true_eq_false, not_false_eq_true, jU_eq, jU_ne, jU_U, jV_eq, jV_ne, jV_V, kn_lit, kn_add, kn_mul, kn_sdm, kn_sub, kn_div, kn_nsdm, kn_lt, kn_eq, kn_pred, kn_m1, kn_m1', kn_a31, kn_shl, kn_shr, kn_bit, nB_0, nB_1, nB_t, nB_f, Nat.zero_add, Nat.add_zero, Nat.reduceAdd, Nat.reduceMul, Nat.reduceSub, Nat.reducePow]
theorem s_lnt_lt (ho : jTOK τ) {g k x : Nat} (hx : x < τ 0 0) : s_lnt τ r g k x < τ 0 0 := by
  unfold s_lnt
  split
  · exact s_st_lt ho r (by omega)
  · exact s_st_lt ho r (by omega)
theorem s_lns_le (ho : jTOK τ) (hr : jROK τ r) {g v k n : Nat} (hn : n ≤ 9) : s_lns τ r g v k n ≤ 1080 := by
  have := s_sum_le (f := fun x => if v / 2 ^ (s_lnt τ r g k x) % 2 = 1 then s_smf τ false r x else 0) (c := 120) n (fun x hx => by
    show (if v / 2 ^ (s_lnt τ r g k x) % 2 = 1 then s_smf τ false r x else 0) ≤ 120
    split
    · exact s_smf_lek ho hr (by omega) (Nat.le_refl _)
    · omega)
  unfold s_lns
  omega
theorem c_smokeByLean (hL : jLay t u l m b c h) (hE : jCE I t l τ ω) (hS : jCS I 85 τ false r) (hr : jROK τ r) {g k v : Nat} (hg : g < τ 0 0) (hk : k ≤ 3) (hv : v < 512) : ∃ J, F_Scene_smokeByLean 85 (nI g) (nI k) (nI v) (jz_I h I) = some (nI (s_lns τ r g v k (τ 0 0)), jz_I h J) ∧ jCS J 85 τ false r ∧ jSc l 85 I J := by
  have ht := jLay_t hL
  have ho := hE.2.1
  have o0 : τ 0 0 ≤ 9 := ho.1
  refine jE_i (fun P hP => ?_)
  unfold F_Scene_smokeByLean
  simp (disch := omega) only [↓dR_64_2 hL, ↓dK_85 hL, ↓dG_85 hL, ↓dP_85 hL, ↓dZ_85 hL (x := nI 0) (Or.inl rfl), ↓dZ_85 hL (x := nI 1) (Or.inr rfl), ↓dZ_85 hL (Or.inl rfl), ↓dZ_85 hL (Or.inr rfl), ↓dZ_85 hL (nB_01 _), ↓reduceIte, ↓kq_bi, ↓kq_let, ↓kq_rz0, ↓kq_rz1, ↓kq_rzB, ↓Option.bind_some, kq_dvn, kt_lt, kf_lt, kt_eq, kf_eq, decide_true, decide_false, eq_self, Bool.false_eq_true, Bool.true_eq_false, not_true_eq_false, not_false_eq_true, jU_eq, jU_ne, jU_U, jV_eq, jV_ne, jV_V, kn_lit, kn_add, kn_mul, kn_sdm, kn_sub, kn_div, kn_nsdm, kn_lt, kn_eq, kn_pred, kn_m1, kn_m1', kn_a31, kn_shl, kn_shr, kn_bit, nB_0, nB_1, nB_t, nB_f, Nat.zero_add, Nat.add_zero, Nat.reduceAdd, Nat.reduceMul, Nat.reduceSub, Nat.reducePow]
  refine jW_bn (c_looks hL hE (Or.inl rfl) hS hr) (fun J hJ => ?_)
  obtain ⟨j1, j2, j3, -⟩ := hJ
  have hE' := jCE_Sc hL (Or.inl rfl) j3 hE
  refine jW_e (jz_for (fun fuel x s => F_Scene_smokeByLean_l10 fuel 85 (nI g) (nI k) (nI v) (nI s) (nI x) (jz_I h J)) (τ 0 0) (fun x => s_lns τ r g v k x) _ (fun n x hx => ?_) (fun n => ?_) jF (by show _ < 1000; omega)) (hP J ⟨j2, j3⟩)
  · have hs := s_lns_le (g := g) (v := v) (k := k) ho hr (show x ≤ 9 by omega)
    have hf : s_smf τ false r x ≤ 120 := s_smf_lek ho hr (show x < 9 by omega) (Nat.le_refl _)
    have hlt := s_lnt_lt (r := r) (g := g) (k := k) ho hx
    have hm := Nat.mod_two_eq_zero_or_one (v / 2 ^ (s_lnt τ r g k x))
    have l3 : τ 1 x ≤ 3 := ho.2.2.2.2.2.2.1 x hx
    show F_Scene_smokeByLean_c10 (F_Scene_smokeByLean_l10 n) 85 (nI g) (nI k) (nI v) (nI (s_lns τ r g v k x)) (nI x) (jz_I h J) = F_Scene_smokeByLean_l10 n 85 (nI g) (nI k) (nI v) (nI (s_lns τ r g v k x + (if v / 2 ^ (s_lnt τ r g k x) % 2 = 1 then s_smf τ false r x else 0))) (nI (x + 1)) (jz_I h J)
    unfold F_Scene_smokeByLean_c10
    have key : ∀ kk, kk ≤ 3 → s_stl τ r x kk = s_lnt τ r g k x → F_Scene_smokeByLean_b45 (F_Scene_smokeByLean_l10 n) 85 (nI g) (nI k) (nI v) (nI (s_lns τ r g v k x)) (nI x) 85 (nI x) (nI kk) (jz_I h J) = F_Scene_smokeByLean_l10 n 85 (nI g) (nI k) (nI v) (nI (s_lns τ r g v k x + (if v / 2 ^ (s_lnt τ r g k x) % 2 = 1 then s_smf τ false r x else 0))) (nI (x + 1)) (jz_I h J) := fun kk h1 h2 => by
      unfold F_Scene_smokeByLean_b45
      rcases hm with hm | hm
      · rw [hm, if_neg (show ¬ (0 : Nat) = 1 by decide)]
        simp (disch := omega) only [c_standsByLean hL (Or.inl rfl) hE'.1 ho (r := r) j1.2.1 hx h1, h2, hm, F_Scene_smokeByLean_b71, ↓dR_64_2 hL, ↓dK_85 hL, ↓dG_85 hL, ↓dP_85 hL, ↓dZ_85 hL (x := nI 0) (Or.inl rfl), ↓dZ_85 hL (x := nI 1) (Or.inr rfl), ↓dZ_85 hL (Or.inl rfl), ↓dZ_85 hL (Or.inr rfl), ↓dZ_85 hL (nB_01 _), ↓reduceIte, ↓kq_bi, ↓kq_let, ↓kq_rz0, ↓kq_rz1, ↓kq_rzB, ↓Option.bind_some, kq_dvn, kt_lt, kf_lt, kt_eq, kf_eq, decide_true, decide_false, eq_self, Bool.false_eq_true, Bool.true_eq_false, not_true_eq_false, not_false_eq_true, jU_eq, jU_ne, jU_U, jV_eq, jV_ne, jV_V, kn_lit, kn_add, kn_mul, kn_sdm, kn_sub, kn_div, kn_nsdm, kn_lt, kn_eq, kn_pred, kn_m1, kn_m1', kn_a31, kn_shl, kn_shr, kn_bit, nB_0, nB_1, nB_t, nB_f, Nat.zero_add, Nat.add_zero, Nat.reduceAdd, Nat.reduceMul, Nat.reduceSub, Nat.reducePow]
      · rw [hm, if_pos (show (1 : Nat) = 1 from rfl)]
        simp (disch := omega) only [c_standsByLean hL (Or.inl rfl) hE'.1 ho (r := r) j1.2.1 hx h1, h2, hm, c_smokeOfFire hL (Or.inl rfl) hE'.1 ho j2.1 j1.2.2.1 hr, F_Scene_smokeByLean_b71, ↓dR_64_2 hL, ↓dK_85 hL, ↓dG_85 hL, ↓dP_85 hL, ↓dZ_85 hL (x := nI 0) (Or.inl rfl), ↓dZ_85 hL (x := nI 1) (Or.inr rfl), ↓dZ_85 hL (Or.inl rfl), ↓dZ_85 hL (Or.inr rfl), ↓dZ_85 hL (nB_01 _), ↓reduceIte, ↓kq_bi, ↓kq_let, ↓kq_rz0, ↓kq_rz1, ↓kq_rzB, ↓Option.bind_some, kq_dvn, kt_lt, kf_lt, kt_eq, kf_eq, decide_true, decide_false, eq_self, Bool.false_eq_true, Bool.true_eq_false, not_true_eq_false, not_false_eq_true, jU_eq, jU_ne, jU_U, jV_eq, jV_ne, jV_V, kn_lit, kn_add, kn_mul, kn_sdm, kn_sub, kn_div, kn_nsdm, kn_lt, kn_eq, kn_pred, kn_m1, kn_m1', kn_a31, kn_shl, kn_shr, kn_bit, nB_0, nB_1, nB_t, nB_f, Nat.zero_add, Nat.add_zero, Nat.reduceAdd, Nat.reduceMul, Nat.reduceSub, Nat.reducePow]
    by_cases hxg : x = g
    · simp (disch := omega) only [↓dR_85_1 hL, cT_f0 hE'.1, hxg, ↓dR_64_2 hL, ↓dK_85 hL, ↓dG_85 hL, ↓dP_85 hL, ↓dZ_85 hL (x := nI 0) (Or.inl rfl), ↓dZ_85 hL (x := nI 1) (Or.inr rfl), ↓dZ_85 hL (Or.inl rfl), ↓dZ_85 hL (Or.inr rfl), ↓dZ_85 hL (nB_01 _), ↓dK_T hL ht, ↓dG_T hL ht, ↓dP_T hL ht, ↓reduceIte, ↓kq_bi, ↓kq_let, ↓kq_rz0, ↓kq_rz1, ↓kq_rzB, ↓Option.bind_some, kq_dvn, kt_lt, kf_lt, kt_eq, kf_eq, decide_true, decide_false, eq_self, Bool.false_eq_true, Bool.true_eq_false, not_true_eq_false, not_false_eq_true, jU_eq, jU_ne, jU_U, jV_eq, jV_ne, jV_V, kn_lit, kn_add, kn_mul, kn_sdm, kn_sub, kn_div, kn_nsdm, kn_lt, kn_eq, kn_pred, kn_m1, kn_m1', kn_a31, kn_shl, kn_shr, kn_bit, nB_0, nB_1, nB_t, nB_f, Nat.zero_add, Nat.add_zero, Nat.reduceAdd, Nat.reduceMul, Nat.reduceSub, Nat.reducePow]
      subst hxg
      exact key k hk (by unfold s_lnt; rw [if_pos rfl])
    · simp (disch := omega) only [↓dR_85_1 hL, cT_f0 hE'.1, cT_a1 hE'.1, ↓dR_64_2 hL, ↓dK_85 hL, ↓dG_85 hL, ↓dP_85 hL, ↓dZ_85 hL (x := nI 0) (Or.inl rfl), ↓dZ_85 hL (x := nI 1) (Or.inr rfl), ↓dZ_85 hL (Or.inl rfl), ↓dZ_85 hL (Or.inr rfl), ↓dZ_85 hL (nB_01 _), ↓dK_T hL ht, ↓dG_T hL ht, ↓dP_T hL ht, ↓dR_T_6 hL ht, dI_T1 hL ht, dS_T1 hL ht, ↓reduceIte, ↓kq_bi, ↓kq_let, ↓kq_rz0, ↓kq_rz1, ↓kq_rzB, ↓Option.bind_some, kq_dvn, kt_lt, kf_lt, kt_eq, kf_eq, decide_true, decide_false, eq_self, Bool.false_eq_true, Bool.true_eq_false, not_true_eq_false, not_false_eq_true, jU_eq, jU_ne, jU_U, jV_eq, jV_ne, jV_V, kn_lit, kn_add, kn_mul, kn_sdm, kn_sub, kn_div, kn_nsdm, kn_lt, kn_eq, kn_pred, kn_m1, kn_m1', kn_a31, kn_shl, kn_shr, kn_bit, nB_0, nB_1, nB_t, nB_f, Nat.zero_add, Nat.add_zero, Nat.reduceAdd, Nat.reduceMul, Nat.reduceSub, Nat.reducePow]
      exact key (τ 1 x) l3 (by unfold s_lnt; rw [if_neg hxg]; rfl)
  · show F_Scene_smokeByLean_c10 (F_Scene_smokeByLean_l10 n) 85 (nI g) (nI k) (nI v) (nI (s_lns τ r g v k (τ 0 0))) (nI (τ 0 0)) (jz_I h J) = some (nI (s_lns τ r g v k (τ 0 0)), jz_I h J)
    unfold F_Scene_smokeByLean_c10
    simp (disch := omega) only [↓dR_85_1 hL, cT_f0 hE'.1, ↓dR_64_2 hL, ↓dK_85 hL, ↓dG_85 hL, ↓dP_85 hL, ↓dZ_85 hL (x := nI 0) (Or.inl rfl), ↓dZ_85 hL (x := nI 1) (Or.inr rfl), ↓dZ_85 hL (Or.inl rfl), ↓dZ_85 hL (Or.inr rfl), ↓dZ_85 hL (nB_01 _), ↓dK_T hL ht, ↓dG_T hL ht, ↓dP_T hL ht, ↓reduceIte, ↓kq_bi, ↓kq_let, ↓kq_rz0, ↓kq_rz1, ↓kq_rzB, ↓Option.bind_some, kq_dvn, kt_lt, kf_lt, kt_eq, kf_eq, decide_true, decide_false, eq_self, Bool.false_eq_true, Bool.true_eq_false, not_true_eq_false, not_false_eq_true, jU_eq, jU_ne, jU_U, jV_eq, jV_ne, jV_V, kn_lit, kn_add, kn_mul, kn_sdm, kn_sub, kn_div, kn_nsdm, kn_lt, kn_eq, kn_pred, kn_m1, kn_m1', kn_a31, kn_shl, kn_shr, kn_bit, nB_0, nB_1, nB_t, nB_f, Nat.zero_add, Nat.add_zero, Nat.reduceAdd, Nat.reduceMul, Nat.reduceSub, Nat.reducePow]
def s_lnr (τ : JTn) (r : JRw) (g v k : Nat) : Nat × Nat := s_lnf (fun k => s_lns τ r g v k (τ 0 0)) k
theorem s_lnr_s {g v k : Nat} : s_lnr τ r g v (k + 1) = if s_lns τ r g v (k + 1) (τ 0 0) < (s_lnr τ r g v k).2 then (k + 1, s_lns τ r g v (k + 1) (τ 0 0)) else s_lnr τ r g v k := rfl
theorem s_lnr_le (ho : jTOK τ) (hr : jROK τ r) {g v : Nat} : ∀ k, (s_lnr τ r g v k).1 ≤ k ∧ (s_lnr τ r g v k).2 ≤ 1080
  | 0 => ⟨Nat.le_refl 0, s_lns_le ho hr ho.1⟩
  | k + 1 => by
    have ih := s_lnr_le ho hr (g := g) (v := v) k
    rw [s_lnr_s]
    split
    · exact ⟨Nat.le_refl _, s_lns_le ho hr ho.1⟩
    · exact ⟨by omega, ih.2⟩
def s_lean (τ : JTn) (r : JRw) (g v : Nat) (w : Bool) : Nat := if w = true then (s_lnr τ r g v 3).2 else (s_lnr τ r g v 3).1
theorem c_lean (hL : jLay t u l m b c h) (hQ : jQC I t l τ ω r) {g v : Nat} (hg : g < τ 0 0) (hv : v < 2 ^ τ 0 0) (w : Bool) : ∃ J, F_SG_lean 64 (nI g) (nI v) (nB w) (jz_I h I) = some (jo_i (nI (s_lean τ r g v w), jz_I h J)) ∧ jCS J 85 τ false r ∧ jSc l 85 I J := by
  have ho := hQ.1.2.1
  have hr := hQ.2.2.1
  have hv9 := s_2p ho hv
  refine jE_o (fun P hP => ?_)
  have key : jW (F_SG_lean_b28 64 (nI g) (nI v) (nB w) 64 (nI 1) (jz_I h I)) P := by
    unfold F_SG_lean_b28
    simp (disch := omega) only [c_need1, kq_th, ↓dK_64 hL, ↓dG_64 hL, ↓dP_64 hL, ↓dR_64_2 hL, ↓dK_85 hL, ↓dG_85 hL, ↓dP_85 hL, ↓dZ_85 hL (x := nI 0) (Or.inl rfl), ↓dZ_85 hL (x := nI 1) (Or.inr rfl), ↓dZ_85 hL (Or.inl rfl), ↓dZ_85 hL (Or.inr rfl), ↓dZ_85 hL (nB_01 _), ↓reduceIte, ↓kq_bi, ↓kq_let, ↓kq_rz0, ↓kq_rz1, ↓kq_rzB, ↓Option.bind_some, kq_dvn, kt_lt, kf_lt, kt_eq, kf_eq, decide_true, decide_false, eq_self, Bool.false_eq_true, Bool.true_eq_false, not_true_eq_false, not_false_eq_true, jU_eq, jU_ne, jU_U, jV_eq, jV_ne, jV_V, kn_lit, kn_add, kn_mul, kn_sdm, kn_sub, kn_div, kn_nsdm, kn_lt, kn_eq, kn_pred, kn_m1, kn_m1', kn_a31, kn_shl, kn_shr, kn_bit, nB_0, nB_1, nB_t, nB_f, Nat.zero_add, Nat.add_zero, Nat.reduceAdd, Nat.reduceMul, Nat.reduceSub, Nat.reducePow]
    refine jW_bi (c_smokeByLean hL hQ.1 hQ.2.1 hr hg (show 0 ≤ 3 by omega) hv9) (fun J hJ => ?_)
    refine jW_for0 (f := fun fuel k (J : Nat → Nat → Int32) => F_SG_lean_l49 fuel 64 (nI g) (nI v) (nB w) (nI (s_lnr τ r g v k).1) (nI (s_lnr τ r g v k).2) (nI (k + 1)) (jz_I h J)) 3 (fun k J => jCS J 85 τ false r ∧ jSc l 85 I J) J hJ (by omega) (fun n k J hk hV ih => ?_) (fun n J hV => ?_)
    · have hE' := jCE_Sc hL (Or.inl rfl) hV.2 hQ.1
      have b1 := s_lnr_le ho hr (g := g) (v := v) k
      show jW (F_SG_lean_c49 (F_SG_lean_l49 n) 64 (nI g) (nI v) (nB w) (nI (s_lnr τ r g v k).1) (nI (s_lnr τ r g v k).2) (nI (k + 1)) (jz_I h J)) P
      unfold F_SG_lean_c49
      simp (disch := omega) only [↓dK_64 hL, ↓dG_64 hL, ↓dP_64 hL, ↓dR_64_2 hL, ↓dK_85 hL, ↓dG_85 hL, ↓dP_85 hL, ↓dZ_85 hL (x := nI 0) (Or.inl rfl), ↓dZ_85 hL (x := nI 1) (Or.inr rfl), ↓dZ_85 hL (Or.inl rfl), ↓dZ_85 hL (Or.inr rfl), ↓dZ_85 hL (nB_01 _), ↓reduceIte, ↓kq_bi, ↓kq_let, ↓kq_rz0, ↓kq_rz1, ↓kq_rzB, ↓Option.bind_some, kq_dvn, kt_lt, kf_lt, kt_eq, kf_eq, decide_true, decide_false, eq_self, Bool.false_eq_true, Bool.true_eq_false, not_true_eq_false, not_false_eq_true, jU_eq, jU_ne, jU_U, jV_eq, jV_ne, jV_V, kn_lit, kn_add, kn_mul, kn_sdm, kn_sub, kn_div, kn_nsdm, kn_lt, kn_eq, kn_pred, kn_m1, kn_m1', kn_a31, kn_shl, kn_shr, kn_bit, nB_0, nB_1, nB_t, nB_f, Nat.zero_add, Nat.add_zero, Nat.reduceAdd, Nat.reduceMul, Nat.reduceSub, Nat.reducePow]
      refine jW_bi (c_smokeByLean hL hE' hV.1 hr hg (show k + 1 ≤ 3 by omega) hv9) (fun J2 hJ2 => ?_)
      have ih' := ih J2 ⟨hJ2.1, jSc_trans hV.2 hJ2.2⟩
      have b2 := s_lns_le (g := g) (v := v) (k := k + 1) ho hr ho.1
      rw [s_lnr_s] at ih'
      by_cases hc : s_lns τ r g v (k + 1) (τ 0 0) < (s_lnr τ r g v k).2
      · rw [if_pos hc] at ih'
        simp (disch := omega) only [F_SG_lean_b83, ↓reduceIte, ↓kq_bi, ↓kq_let, ↓kq_rz0, ↓kq_rz1, ↓kq_rzB, ↓Option.bind_some, kq_dvn, kt_lt, kf_lt, kt_eq, kf_eq, decide_true, decide_false, eq_self, Bool.false_eq_true, Bool.true_eq_false, not_true_eq_false, not_false_eq_true, jU_eq, jU_ne, jU_U, jV_eq, jV_ne, jV_V, kn_lit, kn_add, kn_mul, kn_sdm, kn_sub, kn_div, kn_nsdm, kn_lt, kn_eq, kn_pred, kn_m1, kn_m1', kn_a31, kn_shl, kn_shr, kn_bit, nB_0, nB_1, nB_t, nB_f, Nat.zero_add, Nat.add_zero, Nat.reduceAdd, Nat.reduceMul, Nat.reduceSub, Nat.reducePow]
        exact ih'
      · rw [if_neg hc] at ih'
        simp (disch := omega) only [F_SG_lean_b83, ↓reduceIte, ↓kq_bi, ↓kq_let, ↓kq_rz0, ↓kq_rz1, ↓kq_rzB, ↓Option.bind_some, kq_dvn, kt_lt, kf_lt, kt_eq, kf_eq, decide_true, decide_false, eq_self, Bool.false_eq_true, Bool.true_eq_false, not_true_eq_false, not_false_eq_true, jU_eq, jU_ne, jU_U, jV_eq, jV_ne, jV_V, kn_lit, kn_add, kn_mul, kn_sdm, kn_sub, kn_div, kn_nsdm, kn_lt, kn_eq, kn_pred, kn_m1, kn_m1', kn_a31, kn_shl, kn_shr, kn_bit, nB_0, nB_1, nB_t, nB_f, Nat.zero_add, Nat.add_zero, Nat.reduceAdd, Nat.reduceMul, Nat.reduceSub, Nat.reducePow]
        exact ih'
    · show jW (F_SG_lean_c49 (F_SG_lean_l49 n) 64 (nI g) (nI v) (nB w) (nI (s_lnr τ r g v 3).1) (nI (s_lnr τ r g v 3).2) (nI (3 + 1)) (jz_I h J)) P
      unfold F_SG_lean_c49
      have go := hP J hV
      unfold s_lean at go
      generalize s_lnr τ r g v 3 = y at go ⊢
      cases w
      · rw [if_neg (show ¬ false = true by decide)] at go
        simp (disch := omega) only [F_SG_lean_b100, ↓reduceIte, ↓kq_bi, ↓kq_let, ↓kq_rz0, ↓kq_rz1, ↓kq_rzB, ↓Option.bind_some, kq_dvn, kt_lt, kf_lt, kt_eq, kf_eq, decide_true, decide_false, eq_self, Bool.false_eq_true, Bool.true_eq_false, not_true_eq_false, not_false_eq_true, jU_eq, jU_ne, jU_U, jV_eq, jV_ne, jV_V, kn_lit, kn_add, kn_mul, kn_sdm, kn_sub, kn_div, kn_nsdm, kn_lt, kn_eq, kn_pred, kn_m1, kn_m1', kn_a31, kn_shl, kn_shr, kn_bit, nB_0, nB_1, nB_t, nB_f, Nat.zero_add, Nat.add_zero, Nat.reduceAdd, Nat.reduceMul, Nat.reduceSub, Nat.reducePow]
        exact jW_s go
      · rw [if_pos (show true = true from rfl)] at go
        simp (disch := omega) only [F_SG_lean_b100, ↓reduceIte, ↓kq_bi, ↓kq_let, ↓kq_rz0, ↓kq_rz1, ↓kq_rzB, ↓Option.bind_some, kq_dvn, kt_lt, kf_lt, kt_eq, kf_eq, decide_true, decide_false, eq_self, Bool.false_eq_true, Bool.true_eq_false, not_true_eq_false, not_false_eq_true, jU_eq, jU_ne, jU_U, jV_eq, jV_ne, jV_V, kn_lit, kn_add, kn_mul, kn_sdm, kn_sub, kn_div, kn_nsdm, kn_lt, kn_eq, kn_pred, kn_m1, kn_m1', kn_a31, kn_shl, kn_shr, kn_bit, nB_0, nB_1, nB_t, nB_f, Nat.zero_add, Nat.add_zero, Nat.reduceAdd, Nat.reduceMul, Nat.reduceSub, Nat.reducePow]
        exact jW_s go
  unfold F_SG_lean
  cases w
  · simp (disch := omega) only [c_needGate hL hQ.1.1 ho hg, c_areGates hL hQ hv, kq_th, show nB false = nI 0 from rfl, F_SG_lean_b23, ↓dK_64 hL, ↓dG_64 hL, ↓dP_64 hL, ↓reduceIte, ↓kq_bi, ↓kq_let, ↓kq_rz0, ↓kq_rz1, ↓kq_rzB, ↓Option.bind_some, kq_dvn, kt_lt, kf_lt, kt_eq, kf_eq, decide_true, decide_false, eq_self, Bool.false_eq_true, Bool.true_eq_false, not_true_eq_false, not_false_eq_true, jU_eq, jU_ne, jU_U, jV_eq, jV_ne, jV_V, kn_lit, kn_add, kn_mul, kn_sdm, kn_sub, kn_div, kn_nsdm, kn_lt, kn_eq, kn_pred, kn_m1, kn_m1', kn_a31, kn_shl, kn_shr, kn_bit, nB_0, nB_1, nB_t, nB_f, Nat.zero_add, Nat.add_zero, Nat.reduceAdd, Nat.reduceMul, Nat.reduceSub, Nat.reducePow]
    exact key
  · simp (disch := omega) only [c_needGate hL hQ.1.1 ho hg, c_areGates hL hQ hv, kq_th, show nB true = nI 1 from rfl, F_SG_lean_b23, ↓dK_64 hL, ↓dG_64 hL, ↓dP_64 hL, ↓reduceIte, ↓kq_bi, ↓kq_let, ↓kq_rz0, ↓kq_rz1, ↓kq_rzB, ↓Option.bind_some, kq_dvn, kt_lt, kf_lt, kt_eq, kf_eq, decide_true, decide_false, eq_self, Bool.false_eq_true, Bool.true_eq_false, not_true_eq_false, not_false_eq_true, jU_eq, jU_ne, jU_U, jV_eq, jV_ne, jV_V, kn_lit, kn_add, kn_mul, kn_sdm, kn_sub, kn_div, kn_nsdm, kn_lt, kn_eq, kn_pred, kn_m1, kn_m1', kn_a31, kn_shl, kn_shr, kn_bit, nB_0, nB_1, nB_t, nB_f, Nat.zero_add, Nat.add_zero, Nat.reduceAdd, Nat.reduceMul, Nat.reduceSub, Nat.reducePow]
    exact key
/-- the reference's least: none yet at first -/
def s_lnq (τ : JTn) (r : JRw) (g v : Nat) : Nat → Nat × Option Nat
  | 0 => (0, none)
  | k + 1 => ((s_lnr τ r g v k).1, some (s_lnr τ r g v k).2)
theorem m_lean (hL : jLay t u l m b c h) (hQ : jQM I τ ω r) {g v : Nat} (hg : g < τ 0 0) (hv : v < 2 ^ τ 0 0) (w : Bool) : ∃ J, F_Mod_lean 205 (nI g) (nI v) (nB w) (jz_I h I) = some (nI (s_lean τ r g v w), jz_I h J) ∧ jN I J := by
  have N0 := jN_0 hQ
  have hQ0 := jN_QM N0 hQ
  have ho := hQ.1.2.1
  have hr := hQ.2.2.1
  have o0 : τ 0 0 ≤ 9 := ho.1
  have hv9 := s_2p ho hv
  refine ⟨_, ?_, N0⟩
  have key : F_Mod_lean_b50 205 (nI g) (nI v) (nB w) 205 (nI 0) (jz_I h (jU I 205 (jV (I 205) 0 (nI 0)))) = some (nI (s_lean τ r g v w), jz_I h (jU I 205 (jV (I 205) 0 (nI 0)))) := by
    unfold F_Mod_lean_b50
    simp (disch := omega) only [m_bad0 hL N0.2.2.2, ↓dK_205 hL, ↓dG_205 hL, ↓dP_205 hL, ↓dZ_205 hL (x := nI 0) (Or.inl rfl), ↓dZ_205 hL (x := nI 1) (Or.inr rfl), ↓dZ_205 hL (Or.inl rfl), ↓dZ_205 hL (Or.inr rfl), ↓dZ_205 hL (nB_01 _), ↓reduceIte, ↓kq_bi, ↓kq_let, ↓kq_rz0, ↓kq_rz1, ↓kq_rzB, ↓Option.bind_some, kq_dvn, kt_lt, kf_lt, kt_eq, kf_eq, decide_true, decide_false, eq_self, Bool.false_eq_true, Bool.true_eq_false, not_true_eq_false, not_false_eq_true, jU_eq, jU_ne, jU_U, jV_eq, jV_ne, jV_V, kn_lit, kn_add, kn_mul, kn_sdm, kn_sub, kn_div, kn_nsdm, kn_lt, kn_eq, kn_pred, kn_m1, kn_m1', kn_a31, kn_shl, kn_shr, kn_bit, nB_0, nB_1, nB_t, nB_f, Nat.zero_add, Nat.add_zero, Nat.reduceAdd, Nat.reduceMul, Nat.reduceSub, Nat.reducePow]
    generalize jU I 205 (jV (I 205) 0 (nI 0)) = I' at N0 hQ0
    refine jz_forI (fun fuel k (s : Nat × Option Nat) => F_Mod_lean_l69 fuel 205 (nI g) (nI v) (nB w) (nI s.1) (nO s.2) (nI k) (jz_I h I')) 4 (fun k => s_lnq τ r g v k) _ (s0 := (0, none)) rfl (fun n k hk => ?_) (fun n => ?_) jF (by show _ < 1000; omega)
    · simp (disch := omega) only [F_Mod_lean_l69, F_Mod_lean_c69, ↓reduceIte, ↓kq_bi, ↓kq_let, ↓kq_rz0, ↓kq_rz1, ↓kq_rzB, ↓Option.bind_some, kq_dvn, kt_lt, kf_lt, kt_eq, kf_eq, decide_true, decide_false, eq_self, Bool.false_eq_true, Bool.true_eq_false, not_true_eq_false, not_false_eq_true, jU_eq, jU_ne, jU_U, jV_eq, jV_ne, jV_V, kn_lit, kn_add, kn_mul, kn_sdm, kn_sub, kn_div, kn_nsdm, kn_lt, kn_eq, kn_pred, kn_m1, kn_m1', kn_a31, kn_shl, kn_shr, kn_bit, nB_0, nB_1, nB_t, nB_f, Nat.zero_add, Nat.add_zero, Nat.reduceAdd, Nat.reduceMul, Nat.reduceSub, Nat.reducePow]
      refine jz_for (fun fuel x s => F_Mod_lean_l81 (F_Mod_lean_l69 n) fuel 205 (nI g) (nI v) (nB w) (nI (s_lnq τ r g v k).1) (nO (s_lnq τ r g v k).2) (nI k) (nI s) (nI x) (jz_I h I')) (τ 0 0) (fun x => s_lns τ r g v k x) _ (fun n2 x hx => ?_) (fun n2 => ?_) jF (by show _ < 1000; omega)
      · have hs := s_lns_le (g := g) (v := v) (k := k) ho hr (show x ≤ 9 by omega)
        have hf : s_smf τ false r x ≤ 120 := s_smf_lek ho hr (show x < 9 by omega) (Nat.le_refl _)
        have hlt := s_lnt_lt (r := r) (g := g) (k := k) ho hx
        have hm := Nat.mod_two_eq_zero_or_one (v / 2 ^ (s_lnt τ r g k x))
        show F_Mod_lean_c81 (F_Mod_lean_l69 n) (F_Mod_lean_l81 (F_Mod_lean_l69 n) n2) 205 (nI g) (nI v) (nB w) (nI (s_lnq τ r g v k).1) (nO (s_lnq τ r g v k).2) (nI k) (nI (s_lns τ r g v k x)) (nI x) (jz_I h I') = F_Mod_lean_l81 (F_Mod_lean_l69 n) n2 205 (nI g) (nI v) (nB w) (nI (s_lnq τ r g v k).1) (nO (s_lnq τ r g v k).2) (nI k) (nI (s_lns τ r g v k x + (if v / 2 ^ (s_lnt τ r g k x) % 2 = 1 then s_smf τ false r x else 0))) (nI (x + 1)) (jz_I h I')
        unfold F_Mod_lean_c81
        have key2 : F_Mod_lean_b126 (F_Mod_lean_l69 n) (F_Mod_lean_l81 (F_Mod_lean_l69 n) n2) 205 (nI g) (nI v) (nB w) (nI (s_lnq τ r g v k).1) (nO (s_lnq τ r g v k).2) (nI k) (nI x) (nI (s_lns τ r g v k x)) (nI v) (nI (s_lnt τ r g k x)) (jz_I h I') = F_Mod_lean_l81 (F_Mod_lean_l69 n) n2 205 (nI g) (nI v) (nB w) (nI (s_lnq τ r g v k).1) (nO (s_lnq τ r g v k).2) (nI k) (nI (s_lns τ r g v k x + (if v / 2 ^ (s_lnt τ r g k x) % 2 = 1 then s_smf τ false r x else 0))) (nI (x + 1)) (jz_I h I') := by
          unfold F_Mod_lean_b126
          rcases hm with hm | hm
          · rw [hm, if_neg (show ¬ (0 : Nat) = 1 by decide)]
            simp (disch := omega) only [m_has, hm, F_Mod_lean_b146, ↓dK_205 hL, ↓dG_205 hL, ↓dP_205 hL, ↓dZ_205 hL (x := nI 0) (Or.inl rfl), ↓dZ_205 hL (x := nI 1) (Or.inr rfl), ↓dZ_205 hL (Or.inl rfl), ↓dZ_205 hL (Or.inr rfl), ↓dZ_205 hL (nB_01 _), ↓reduceIte, ↓kq_bi, ↓kq_let, ↓kq_rz0, ↓kq_rz1, ↓kq_rzB, ↓Option.bind_some, kq_dvn, kt_lt, kf_lt, kt_eq, kf_eq, decide_true, decide_false, eq_self, Bool.false_eq_true, Bool.true_eq_false, not_true_eq_false, not_false_eq_true, jU_eq, jU_ne, jU_U, jV_eq, jV_ne, jV_V, kn_lit, kn_add, kn_mul, kn_sdm, kn_sub, kn_div, kn_nsdm, kn_lt, kn_eq, kn_pred, kn_m1, kn_m1', kn_a31, kn_shl, kn_shr, kn_bit, nB_0, nB_1, nB_t, nB_f, Nat.zero_add, Nat.add_zero, Nat.reduceAdd, Nat.reduceMul, Nat.reduceSub, Nat.reducePow]
          · rw [hm, if_pos (show (1 : Nat) = 1 from rfl)]
            simp (disch := omega) only [m_has, hm, m_smokeFrom hL hQ0.1.1 ho hQ0.1.2.2.2.2 (Or.inl rfl) hQ0.2.1 hr, F_Mod_lean_b146, ↓dK_205 hL, ↓dG_205 hL, ↓dP_205 hL, ↓dZ_205 hL (x := nI 0) (Or.inl rfl), ↓dZ_205 hL (x := nI 1) (Or.inr rfl), ↓dZ_205 hL (Or.inl rfl), ↓dZ_205 hL (Or.inr rfl), ↓dZ_205 hL (nB_01 _), ↓dR_205_35 hL, dI_691 hL, dS_691 hL, ↓reduceIte, ↓kq_bi, ↓kq_let, ↓kq_rz0, ↓kq_rz1, ↓kq_rzB, ↓Option.bind_some, kq_dvn, kt_lt, kf_lt, kt_eq, kf_eq, decide_true, decide_false, eq_self, Bool.false_eq_true, Bool.true_eq_false, not_true_eq_false, not_false_eq_true, jU_eq, jU_ne, jU_U, jV_eq, jV_ne, jV_V, kn_lit, kn_add, kn_mul, kn_sdm, kn_sub, kn_div, kn_nsdm, kn_lt, kn_eq, kn_pred, kn_m1, kn_m1', kn_a31, kn_shl, kn_shr, kn_bit, nB_0, nB_1, nB_t, nB_f, Nat.zero_add, Nat.add_zero, Nat.reduceAdd, Nat.reduceMul, Nat.reduceSub, Nat.reducePow]
        by_cases hxg : x = g
        · have e : s_lnt τ r g k x = s_stl τ r x k := by unfold s_lnt; rw [if_pos hxg]
          rw [e] at key2
          subst hxg
          simp (disch := omega) only [hQ0.1.1.1, m_standsBy hL hQ0.1.1 ho (Or.inl rfl) hQ0.2.1 hr hx (show k ≤ 3 by omega), ↓dK_205 hL, ↓dG_205 hL, ↓dP_205 hL, ↓dZ_205 hL (x := nI 0) (Or.inl rfl), ↓dZ_205 hL (x := nI 1) (Or.inr rfl), ↓dZ_205 hL (Or.inl rfl), ↓dZ_205 hL (Or.inr rfl), ↓dZ_205 hL (nB_01 _), ↓dR_205_12 hL, dI_209 hL, dS_209 hL, ↓dR_205_35 hL, dI_691 hL, dS_691 hL, ↓reduceIte, ↓kq_bi, ↓kq_let, ↓kq_rz0, ↓kq_rz1, ↓kq_rzB, ↓Option.bind_some, kq_dvn, kt_lt, kf_lt, kt_eq, kf_eq, decide_true, decide_false, eq_self, Bool.false_eq_true, Bool.true_eq_false, not_true_eq_false, not_false_eq_true, jU_eq, jU_ne, jU_U, jV_eq, jV_ne, jV_V, kn_lit, kn_add, kn_mul, kn_sdm, kn_sub, kn_div, kn_nsdm, kn_lt, kn_eq, kn_pred, kn_m1, kn_m1', kn_a31, kn_shl, kn_shr, kn_bit, nB_0, nB_1, nB_t, nB_f, Nat.zero_add, Nat.add_zero, Nat.reduceAdd, Nat.reduceMul, Nat.reduceSub, Nat.reducePow]
          rw [e]
          exact key2
        · have e : s_lnt τ r g k x = s_st τ r x := by unfold s_lnt; rw [if_neg hxg]
          rw [e] at key2
          simp (disch := omega) only [hQ0.1.1.1, m_standsOf hL hQ0.1.1 ho (Or.inl rfl) hQ0.2.1 hr hx, ↓dK_205 hL, ↓dG_205 hL, ↓dP_205 hL, ↓dZ_205 hL (x := nI 0) (Or.inl rfl), ↓dZ_205 hL (x := nI 1) (Or.inr rfl), ↓dZ_205 hL (Or.inl rfl), ↓dZ_205 hL (Or.inr rfl), ↓dZ_205 hL (nB_01 _), ↓dR_205_12 hL, dI_209 hL, dS_209 hL, ↓dR_205_35 hL, dI_691 hL, dS_691 hL, ↓reduceIte, ↓kq_bi, ↓kq_let, ↓kq_rz0, ↓kq_rz1, ↓kq_rzB, ↓Option.bind_some, kq_dvn, kt_lt, kf_lt, kt_eq, kf_eq, decide_true, decide_false, eq_self, Bool.false_eq_true, Bool.true_eq_false, not_true_eq_false, not_false_eq_true, jU_eq, jU_ne, jU_U, jV_eq, jV_ne, jV_V, kn_lit, kn_add, kn_mul, kn_sdm, kn_sub, kn_div, kn_nsdm, kn_lt, kn_eq, kn_pred, kn_m1, kn_m1', kn_a31, kn_shl, kn_shr, kn_bit, nB_0, nB_1, nB_t, nB_f, Nat.zero_add, Nat.add_zero, Nat.reduceAdd, Nat.reduceMul, Nat.reduceSub, Nat.reducePow]
          rw [e]
          exact key2
      · have b2 := s_lns_le (g := g) (v := v) (k := k) ho hr ho.1
        show F_Mod_lean_c81 (F_Mod_lean_l69 n) (F_Mod_lean_l81 (F_Mod_lean_l69 n) n2) 205 (nI g) (nI v) (nB w) (nI (s_lnq τ r g v k).1) (nO (s_lnq τ r g v k).2) (nI k) (nI (s_lns τ r g v k (τ 0 0))) (nI (τ 0 0)) (jz_I h I') = F_Mod_lean_l69 n 205 (nI g) (nI v) (nB w) (nI (s_lnr τ r g v k).1) (nI (s_lnr τ r g v k).2) (nI (k + 1)) (jz_I h I')
        unfold F_Mod_lean_c81
        cases k with
        | zero =>
          have e1 : (s_lnq τ r g v 0).2 = none := rfl
          rw [e1]
          simp only [nO, Option.elim_none]
          simp (disch := omega) only [hQ0.1.1.1, F_Mod_lean_b171, F_Mod_lean_b179, ↓dK_205 hL, ↓dG_205 hL, ↓dP_205 hL, ↓dZ_205 hL (x := nI 0) (Or.inl rfl), ↓dZ_205 hL (x := nI 1) (Or.inr rfl), ↓dZ_205 hL (Or.inl rfl), ↓dZ_205 hL (Or.inr rfl), ↓dZ_205 hL (nB_01 _), ↓dR_205_12 hL, dI_209 hL, dS_209 hL, ↓reduceIte, ↓kq_bi, ↓kq_let, ↓kq_rz0, ↓kq_rz1, ↓kq_rzB, ↓Option.bind_some, kq_dvn, kt_lt, kf_lt, kt_eq, kf_eq, decide_true, decide_false, eq_self, Bool.false_eq_true, Bool.true_eq_false, not_true_eq_false, not_false_eq_true, jU_eq, jU_ne, jU_U, jV_eq, jV_ne, jV_V, kn_lit, kn_add, kn_mul, kn_sdm, kn_sub, kn_div, kn_nsdm, kn_lt, kn_eq, kn_pred, kn_m1, kn_m1', kn_a31, kn_shl, kn_shr, kn_bit, nB_0, nB_1, nB_t, nB_f, Nat.zero_add, Nat.add_zero, Nat.reduceAdd, Nat.reduceMul, Nat.reduceSub, Nat.reducePow]
          rfl
        | succ k =>
          have e1 : (s_lnq τ r g v (k + 1)).2 = some (s_lnr τ r g v k).2 := rfl
          have e2 : (s_lnq τ r g v (k + 1)).1 = (s_lnr τ r g v k).1 := rfl
          have b1 := s_lnr_le ho hr (g := g) (v := v) k
          rw [e1, e2, s_lnr_s]
          simp only [nO, Option.elim_some]
          by_cases hc : s_lns τ r g v (k + 1) (τ 0 0) < (s_lnr τ r g v k).2
          · rw [if_pos hc]
            simp (disch := omega) only [hQ0.1.1.1, F_Mod_lean_b171, F_Mod_lean_b179, ↓dK_205 hL, ↓dG_205 hL, ↓dP_205 hL, ↓dZ_205 hL (x := nI 0) (Or.inl rfl), ↓dZ_205 hL (x := nI 1) (Or.inr rfl), ↓dZ_205 hL (Or.inl rfl), ↓dZ_205 hL (Or.inr rfl), ↓dZ_205 hL (nB_01 _), ↓dR_205_12 hL, dI_209 hL, dS_209 hL, ↓reduceIte, ↓kq_bi, ↓kq_let, ↓kq_rz0, ↓kq_rz1, ↓kq_rzB, ↓Option.bind_some, kq_dvn, kt_lt, kf_lt, kt_eq, kf_eq, decide_true, decide_false, eq_self, Bool.false_eq_true, Bool.true_eq_false, not_true_eq_false, not_false_eq_true, jU_eq, jU_ne, jU_U, jV_eq, jV_ne, jV_V, kn_lit, kn_add, kn_mul, kn_sdm, kn_sub, kn_div, kn_nsdm, kn_lt, kn_eq, kn_pred, kn_m1, kn_m1', kn_a31, kn_shl, kn_shr, kn_bit, nB_0, nB_1, nB_t, nB_f, Nat.zero_add, Nat.add_zero, Nat.reduceAdd, Nat.reduceMul, Nat.reduceSub, Nat.reducePow]
          · rw [if_neg hc]
            simp (disch := omega) only [hQ0.1.1.1, F_Mod_lean_b171, F_Mod_lean_b179, ↓dK_205 hL, ↓dG_205 hL, ↓dP_205 hL, ↓dZ_205 hL (x := nI 0) (Or.inl rfl), ↓dZ_205 hL (x := nI 1) (Or.inr rfl), ↓dZ_205 hL (Or.inl rfl), ↓dZ_205 hL (Or.inr rfl), ↓dZ_205 hL (nB_01 _), ↓dR_205_12 hL, dI_209 hL, dS_209 hL, ↓reduceIte, ↓kq_bi, ↓kq_let, ↓kq_rz0, ↓kq_rz1, ↓kq_rzB, ↓Option.bind_some, kq_dvn, kt_lt, kf_lt, kt_eq, kf_eq, decide_true, decide_false, eq_self, Bool.false_eq_true, Bool.true_eq_false, not_true_eq_false, not_false_eq_true, jU_eq, jU_ne, jU_U, jV_eq, jV_ne, jV_V, kn_lit, kn_add, kn_mul, kn_sdm, kn_sub, kn_div, kn_nsdm, kn_lt, kn_eq, kn_pred, kn_m1, kn_m1', kn_a31, kn_shl, kn_shr, kn_bit, nB_0, nB_1, nB_t, nB_f, Nat.zero_add, Nat.add_zero, Nat.reduceAdd, Nat.reduceMul, Nat.reduceSub, Nat.reducePow]
    · show F_Mod_lean_c69 (F_Mod_lean_l69 n) 205 (nI g) (nI v) (nB w) (nI (s_lnr τ r g v 3).1) (nI (s_lnr τ r g v 3).2) (nI 4) (jz_I h I') = _
      unfold F_Mod_lean_c69 s_lean
      generalize s_lnr τ r g v 3 = y
      cases w
      · rw [if_neg (show ¬ false = true by decide)]
        simp (disch := omega) only [F_Mod_lean_b196, ↓reduceIte, ↓kq_bi, ↓kq_let, ↓kq_rz0, ↓kq_rz1, ↓kq_rzB, ↓Option.bind_some, kq_dvn, kt_lt, kf_lt, kt_eq, kf_eq, decide_true, decide_false, eq_self, Bool.false_eq_true, Bool.true_eq_false, not_true_eq_false, not_false_eq_true, jU_eq, jU_ne, jU_U, jV_eq, jV_ne, jV_V, kn_lit, kn_add, kn_mul, kn_sdm, kn_sub, kn_div, kn_nsdm, kn_lt, kn_eq, kn_pred, kn_m1, kn_m1', kn_a31, kn_shl, kn_shr, kn_bit, nB_0, nB_1, nB_t, nB_f, Nat.zero_add, Nat.add_zero, Nat.reduceAdd, Nat.reduceMul, Nat.reduceSub, Nat.reducePow]
      · rw [if_pos (show true = true from rfl)]
        simp (disch := omega) only [F_Mod_lean_b196, ↓reduceIte, ↓kq_bi, ↓kq_let, ↓kq_rz0, ↓kq_rz1, ↓kq_rzB, ↓Option.bind_some, kq_dvn, kt_lt, kf_lt, kt_eq, kf_eq, decide_true, decide_false, eq_self, Bool.false_eq_true, Bool.true_eq_false, not_true_eq_false, not_false_eq_true, jU_eq, jU_ne, jU_U, jV_eq, jV_ne, jV_V, kn_lit, kn_add, kn_mul, kn_sdm, kn_sub, kn_div, kn_nsdm, kn_lt, kn_eq, kn_pred, kn_m1, kn_m1', kn_a31, kn_shl, kn_shr, kn_bit, nB_0, nB_1, nB_t, nB_f, Nat.zero_add, Nat.add_zero, Nat.reduceAdd, Nat.reduceMul, Nat.reduceSub, Nat.reducePow]
  unfold F_Mod_lean
  cases w
  · simp (disch := omega) only [m_isGate hL hQ0.1.1 ho hg, m_areGates hL hQ0 hv, m_in1, m_bad0 hL N0.2.2.2, F_Mod_lean_b19, show nB false = nI 0 from rfl, ↓dK_205 hL, ↓dG_205 hL, ↓dP_205 hL, ↓dZ_205 hL (x := nI 0) (Or.inl rfl), ↓dZ_205 hL (x := nI 1) (Or.inr rfl), ↓dZ_205 hL (Or.inl rfl), ↓dZ_205 hL (Or.inr rfl), ↓dZ_205 hL (nB_01 _), ↓reduceIte, ↓kq_bi, ↓kq_let, ↓kq_rz0, ↓kq_rz1, ↓kq_rzB, ↓Option.bind_some, kq_dvn, kt_lt, kf_lt, kt_eq, kf_eq, decide_true, decide_false, eq_self, Bool.false_eq_true, Bool.true_eq_false, not_true_eq_false, not_false_eq_true, jU_eq, jU_ne, jU_U, jV_eq, jV_ne, jV_V, kn_lit, kn_add, kn_mul, kn_sdm, kn_sub, kn_div, kn_nsdm, kn_lt, kn_eq, kn_pred, kn_m1, kn_m1', kn_a31, kn_shl, kn_shr, kn_bit, nB_0, nB_1, nB_t, nB_f, Nat.zero_add, Nat.add_zero, Nat.reduceAdd, Nat.reduceMul, Nat.reduceSub, Nat.reducePow]
    exact key
  · simp (disch := omega) only [m_isGate hL hQ0.1.1 ho hg, m_areGates hL hQ0 hv, m_in1, m_bad0 hL N0.2.2.2, F_Mod_lean_b19, show nB true = nI 1 from rfl, ↓dK_205 hL, ↓dG_205 hL, ↓dP_205 hL, ↓dZ_205 hL (x := nI 0) (Or.inl rfl), ↓dZ_205 hL (x := nI 1) (Or.inr rfl), ↓dZ_205 hL (Or.inl rfl), ↓dZ_205 hL (Or.inr rfl), ↓dZ_205 hL (nB_01 _), ↓reduceIte, ↓kq_bi, ↓kq_let, ↓kq_rz0, ↓kq_rz1, ↓kq_rzB, ↓Option.bind_some, kq_dvn, kt_lt, kf_lt, kt_eq, kf_eq, decide_true, decide_false, eq_self, Bool.false_eq_true, Bool.true_eq_false, not_true_eq_false, not_false_eq_true, jU_eq, jU_ne, jU_U, jV_eq, jV_ne, jV_V, kn_lit, kn_add, kn_mul, kn_sdm, kn_sub, kn_div, kn_nsdm, kn_lt, kn_eq, kn_pred, kn_m1, kn_m1', kn_a31, kn_shl, kn_shr, kn_bit, nB_0, nB_1, nB_t, nB_f, Nat.zero_add, Nat.add_zero, Nat.reduceAdd, Nat.reduceMul, Nat.reduceSub, Nat.reducePow]
    exact key
end

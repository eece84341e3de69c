/-! PLAIN LEAN: work; both sides read all steps -/
section
variable {t u l m b c : Nat} {h : LH} {I J K L : Nat → Nat → Int32} {tp : Nat → Nat} {n o k : Nat} {y z : JTs} {x : Int32} {s s' s3 : JLs} {π : JLw} {τ : JTn} {R RR : Nat → LH → Option LH} {Rc : Nat → Nat → Nat → Int32 → LH → Option LH}
theorem s_stp_nc (hy : jTy n y) (hc : s_nc tp n y = none ∨ s_nc tp n y = some 93) : s_stp tp n y = none := by
  have f : ∀ k, 1 ≤ k → k < 16 → s_isk tp n y k = false := fun k h1 h2 => by
    cases e : s_isk tp n y k
    · rfl
    · obtain ⟨⟨v, e1, e2⟩, -⟩ := s_isk_nc h1 h2 hy e
      rcases hc with hc | hc
      · rw [hc] at e1; cases e1
      · rw [hc] at e1; cases e1; omega
  unfold s_stp
  rw [f 13 (by omega) (by omega), f 14 (by omega) (by omega), f 11 (by omega) (by omega), f 15 (by omega) (by omega)]
  rfl
theorem m_step0 (hL : jLay t u l m b c h) (hJ : jTM J tp n y) (h0 : y.2.1 = 0) (hs : s_stp tp n y = none) : ∃ K, E_Mod_readsStep R 205 (jz_I h J) = some (jz_I h K) ∧ jTM K tp n (y.1, 1, s_skp c_bl tp n y.1) ∧ jM1 J K := by
  have hsk := (s_skp_ge (c := c_bl) (tp := tp) hJ.2.1.1).2
  refine jE_n (fun P hP => ?_)
  unfold E_Mod_readsStep
  rw [dK_205 hL]
  refine jW_bi (m_stepHere hL hJ) (fun K hK => ?_)
  obtain ⟨k1, k4, kM⟩ := hK
  have k4 := k4 h0
  rw [hs, nO_none, if_pos (show -nI 1 = (-1 : Int32) from rfl)]
  simp (disch := omega) only [↓dK_205 hL, ↓dG_205 hL, ↓dP_205 hL, ↓dZ_205 hL (x := nI 0) (Or.inl rfl), ↓dZ_205 hL (x := nI 1) (Or.inr rfl), ↓dZ_205 hL (Or.inl rfl), ↓dZ_205 hL (Or.inr rfl), ↓dZ_205 hL (nB_01 _), k4, kn_lit]
  refine jW_bn (m_wrong hL k1 (show 1 ≤ 1 by omega) (by omega) hsk) (fun M hM => ?_)
  obtain ⟨m1, -, mM⟩ := hM
  rw [show s_fa 1 (s_skp c_bl tp n y.1) y = (y.1, 1, s_skp c_bl tp n y.1) from if_pos h0] at m1
  have m5 : M 205 5 = nI 1 := m1.2.2.1.1
  unfold F_Mod_readsStep_b19
  rw [if_neg (show ¬ -nI 1 = (3 : Int32) by decide)]
  unfold F_Mod_readsStep_b32
  simp (disch := omega) only [m5, ↓dK_205 hL, ↓dG_205 hL, ↓dP_205 hL, ↓dZ_205 hL (x := nI 0) (Or.inl rfl), ↓dZ_205 hL (x := nI 1) (Or.inr rfl), ↓dZ_205 hL (Or.inl rfl), ↓dZ_205 hL (Or.inr rfl), ↓dZ_205 hL (nB_01 _), ↓reduceIte, ↓kq_bi, ↓kq_let, ↓kq_rz0, ↓kq_rz1, ↓kq_rzB, ↓Option.bind_some, kq_dvn, kt_lt, kf_lt, kt_eq, kf_eq, decide_true, decide_false, eq_self, Bool.false_eq_true, Bool.true_eq_false, not_true_eq_false, not_false_eq_true, jU_eq, jU_ne, jU_U, jV_eq, jV_ne, jV_V, kn_lit, kn_add, kn_mul, kn_sdm, kn_sub, kn_div, kn_nsdm, kn_lt, kn_eq, kn_pred, kn_m1, kn_m1', kn_a31, kn_shl, kn_shr, kn_bit, nB_0, nB_1, nB_t, nB_f, Nat.zero_add, Nat.add_zero, Nat.reduceAdd, Nat.reduceMul, Nat.reduceSub, Nat.reducePow]
  exact jW_s (hP M ⟨m1, jM1_trans kM mM⟩)
theorem jPG_nx (hG : jPG τ n (y, π)) : jPG τ n (s_nx tp n y, π) := by
  have hy : jTy n y := hG.1
  refine ⟨s_nx_y hy, hG.2.1, fun e => ?_⟩
  have e : (s_nx tp n y).2.1 = 0 := e
  rw [s_nx_2] at e
  obtain ⟨a1, a2⟩ := hG.2.2 e
  have := s_nx_ge (tp := tp) hy
  exact ⟨Nat.le_trans a1 this, a2⟩
theorem jPU_nx (hy : jTy n y) : jPU o (y, π) (s_nx tp n y, π) := fun e => by
  have e : (s_nx tp n y).2.1 = 0 := e
  rw [s_nx_2] at e
  have := s_nx_ge (tp := tp) hy
  exact ⟨e, Nat.le_refl _, by show 3 * π.1 + y.1 ≤ (s_nx tp n y).1 + 3 * π.1; omega, this, fun _ _ _ => rfl, fun i i1 i2 => by have i1 : π.1 ≤ i := i1; have i2 : i < π.1 := i2; omega⟩
/-- a step that both sides read -/
def jSt1 (tp : Nat → Nat) (n : Nat) (τ : JTn) (o : Nat) (Rc : Nat → Nat → Nat → Int32 → LH → Option LH) (RR : Nat → LH → Option LH) : Prop := ∀ y π, jPG τ n (y, π) → y.2.1 = 0 → ∃ s1, (∀ t u l m b c h, jLay t u l m b c h → ∀ J, jCT J t τ → jPC h J tp n (y, π) → ∃ K, F_Prog_readStep Rc 67 65 t (nI o) (jz_I h J) = some (jz_I h K) ∧ jPC h K tp n s1 ∧ jPFc J K) ∧ (∀ t u l m b c h, jLay t u l m b c h → ∀ J, jMT J τ → jPM J tp n o (y, π) → ∃ K, RR 205 (jz_I h J) = some (jz_I h K) ∧ jPM K tp n o (s_nd tp n 59 s1.1, s1.2) ∧ jPFm J K) ∧ jPG τ n (s_nd tp n 59 s1.1, s1.2) ∧ jPU o (y, π) (s_nd tp n 59 s1.1, s1.2) ∧ ((s_nd tp n 59 s1.1).2.1 = 0 → π.1 + 1 ≤ s1.2.1)
def jSt0 (tp : Nat → Nat) (n : Nat) (RR : Nat → LH → Option LH) : Prop := ∀ t u l m b c h, jLay t u l m b c h → ∀ J y, jTM J tp n y → y.2.1 = 0 → s_stp tp n y = none → ∃ K, RR 205 (jz_I h J) = some (jz_I h K) ∧ jTM K tp n (y.1, 1, s_skp c_bl tp n y.1) ∧ jM1 J K
theorem x_loop (ho : jTOK τ) (hS : jSt1 tp n τ o Rc RR) (hN : jSt0 tp n RR) : ∀ N T y π, jPG τ n (y, π) → T ≤ 150 → (y.2.1 = 0 → T ≤ y.1 ∧ n - y.1 < N) → ∃ s3,
    (∀ t u l m b c h, jLay t u l m b c h → ∀ J, jCT J t τ → jPC h J tp n (y, π) → ∀ F1, N < F1 → ∃ K, F_Prog_readSteps_l3 Rc F1 67 65 t (nI o) (nI T) (jz_I h J) = some (jz_I h K) ∧ jPC h K tp n s3 ∧ jPFc J K) ∧
    (∀ t u l m b c h, jLay t u l m b c h → ∀ J, jMT J τ → jPM J tp n o (y, π) → (y.2.1 = 0 → J 205 4 = nI (s_skp c_bl tp n y.1)) → ∀ F2, N < F2 → ∀ l2 (P : LH → Prop), (∀ K, jPM K tp n o (s_nd tp n 93 s3.1, s3.2) → jPFm J K → jW (jf_gi (jz_I h K) 205 11 8 fun v2 => jf_pi (jz_I h K) 205 11 8 (v2 - (1 : Int32)) fun h3 => F_Mod_readsStep_b181 RR 205 l2 h3) P) → jW (F_Mod_readsStep_l134 RR F2 205 l2 (jz_I h J)) P) ∧
    (RR = F_Mod_readsStep jE → ∀ t u l m b c h, jLay t u l m b c h → ∀ J, jMT J τ → jPM J tp n o (y, π) → (y.2.1 = 0 → J 205 4 = nI (s_skp c_bl tp n y.1)) → ∀ F2, N < F2 → ∀ (P : Int32 × LH → Prop), (∀ K, jPM K tp n o (s_end tp n s3.1, s3.2) → jPFm J K → jW (F_Mod_work_b101 205 (jz_I h K)) P) → jW (F_Mod_work_l72 F2 205 (jz_I h J)) P) ∧ jPG τ n s3 ∧ jPU o (y, π) s3 := by
  intro N
  induction N with
  | zero => ?_
  | succ N ih => ?_
  all_goals
    intro T y π hG hT9 hT
    have hy : jTy n y := hG.1
    have hn : n ≤ 150 := hG.2.1
    have y2 := hy.2.1
    have b165 : ∀ {t u l m b c : Nat} {h : LH}, jLay t u l m b c h → ∀ {J K : Nat → Nat → Int32} {z : JTs} {l2 : Nat} {P : LH → Prop}, jTM K tp n z → (z.2.1 = 0 → jPM K tp n o (z, π)) → jPFm J K → (∀ K, jPM K tp n o (s_nd tp n 93 z, π) → jPFm J K → jW (jf_gi (jz_I h K) 205 11 8 fun v2 => jf_pi (jz_I h K) 205 11 8 (v2 - (1 : Int32)) fun h3 => F_Mod_readsStep_b181 RR 205 l2 h3) P) → jW (F_Mod_readsStep_b165 RR 205 l2 (jz_I h K)) P := by
      intro t u l m b c h hL J K z l2 P a1 a2 a3 hP
      unfold F_Mod_readsStep_b165
      rw [dK_205 hL]
      refine jW_bn (m_sign hL a1 (ch := 93) (by omega)) (fun M hM => ?_)
      refine hP M ⟨hM.1, fun e => ?_⟩ (jPFm_trans a3 (jPFm_M1 hM.2))
      exact (jPM_M1 (a2 (s_nd_0 e)) hM.1 hM.2 (fun e => s_nd_0 e)).2 e
    by_cases h0 : ¬ y.2.1 = 0
    case pos =>
      have hnc : s_nc tp n y = none := if_neg (fun a => h0 a.1)
      have hid : s_nx tp n y = y := if_neg h0
      refine ⟨(y, π), fun t u l m b c h hL J hC hJ F1 f1 => jE_n (fun P hP => ?_), fun t u l m b c h hL J hM hJ h4 F2 f2 l2 P hP => ?_, fun hE t u l m b c h hL J hM hJ h4 F2 f2 P hP => ?_, hG, jPU_0 h0⟩
      · obtain ⟨F, rfl⟩ : ∃ F, F1 = F + 1 := ⟨F1 - 1, by omega⟩
        show jW (F_Prog_readSteps_c3 Rc (F_Prog_readSteps_l3 Rc F) 67 65 t (nI o) (nI T) (jz_I h J)) P
        unfold F_Prog_readSteps_c3
        by_cases t9 : T < 150
        · simp (disch := omega) only [↓dR_64_0 hL, ↓dK_65 hL, ↓dG_65 hL, ↓dP_65 hL, ↓reduceIte, ↓kq_bi, ↓kq_let, ↓kq_rz0, ↓kq_rz1, ↓kq_rzB, ↓Option.bind_some, kq_dvn, kt_lt, kf_lt, kt_eq, kf_eq, decide_true, decide_false, eq_self, Bool.false_eq_true, Bool.true_eq_false, not_true_eq_false, not_false_eq_true, jU_eq, jU_ne, jU_U, jV_eq, jV_ne, jV_V, kn_lit, kn_add, kn_mul, kn_sdm, kn_sub, kn_div, kn_nsdm, kn_lt, kn_eq, kn_pred, kn_m1, kn_m1', kn_a31, kn_shl, kn_shr, kn_bit, nB_0, nB_1, nB_t, nB_f, Nat.zero_add, Nat.add_zero, Nat.reduceAdd, Nat.reduceMul, Nat.reduceSub, Nat.reducePow]
          refine jW_bi (c_next hL hJ.2.1) (fun M hM => ?_)
          have m1 := hM.1
          have m1 : jTX M tp n (s_nx tp n y) := m1
          rw [hid] at m1
          show jW (if nO (s_nc tp n y) = -nI 1 then _ else _) P
          rw [hnc, nO_none, if_pos rfl]
          exact jW_s (hP M ⟨jPC_T1 hJ m1 hM.2.2 (fun e => e), jPFc_T1 hM.2.2⟩)
        · simp (disch := omega) only [↓dR_64_0 hL, ↓dK_65 hL, ↓dG_65 hL, ↓dP_65 hL, ↓reduceIte, ↓kq_bi, ↓kq_let, ↓kq_rz0, ↓kq_rz1, ↓kq_rzB, ↓Option.bind_some, kq_dvn, kt_lt, kf_lt, kt_eq, kf_eq, decide_true, decide_false, eq_self, Bool.false_eq_true, Bool.true_eq_false, not_true_eq_false, not_false_eq_true, jU_eq, jU_ne, jU_U, jV_eq, jV_ne, jV_V, kn_lit, kn_add, kn_mul, kn_sdm, kn_sub, kn_div, kn_nsdm, kn_lt, kn_eq, kn_pred, kn_m1, kn_m1', kn_a31, kn_shl, kn_shr, kn_bit, nB_0, nB_1, nB_t, nB_f, Nat.zero_add, Nat.add_zero, Nat.reduceAdd, Nat.reduceMul, Nat.reduceSub, Nat.reducePow]
          exact jW_s (hP J ⟨hJ, jPFc_r⟩)
      · obtain ⟨F, rfl⟩ : ∃ F, F2 = F + 1 := ⟨F2 - 1, by omega⟩
        have h5 : J 205 5 = nI y.2.1 := hJ.1.2.2.1.1
        show jW (F_Mod_readsStep_c134 RR (F_Mod_readsStep_l134 RR F) 205 l2 (jz_I h J)) P
        unfold F_Mod_readsStep_c134
        simp (disch := omega) only [h5, ↓dK_205 hL, ↓dG_205 hL, ↓dP_205 hL, ↓dZ_205 hL (x := nI 0) (Or.inl rfl), ↓dZ_205 hL (x := nI 1) (Or.inr rfl), ↓dZ_205 hL (Or.inl rfl), ↓dZ_205 hL (Or.inr rfl), ↓dZ_205 hL (nB_01 _), ↓reduceIte, ↓kq_bi, ↓kq_let, ↓kq_rz0, ↓kq_rz1, ↓kq_rzB, ↓Option.bind_some, kq_dvn, kt_lt, kf_lt, kt_eq, kf_eq, decide_true, decide_false, eq_self, Bool.false_eq_true, Bool.true_eq_false, not_true_eq_false, not_false_eq_true, jU_eq, jU_ne, jU_U, jV_eq, jV_ne, jV_V, kn_lit, kn_add, kn_mul, kn_sdm, kn_sub, kn_div, kn_nsdm, kn_lt, kn_eq, kn_pred, kn_m1, kn_m1', kn_a31, kn_shl, kn_shr, kn_bit, nB_0, nB_1, nB_t, nB_f, Nat.zero_add, Nat.add_zero, Nat.reduceAdd, Nat.reduceMul, Nat.reduceSub, Nat.reducePow]
        exact b165 hL hJ.1 (fun e => absurd e h0) jPFm_r hP
      · obtain ⟨F, rfl⟩ : ∃ F, F2 = F + 1 := ⟨F2 - 1, by omega⟩
        have h5 : J 205 5 = nI y.2.1 := hJ.1.2.2.1.1
        show jW (F_Mod_work_c72 (F_Mod_work_l72 F) 205 (jz_I h J)) P
        unfold F_Mod_work_c72
        simp (disch := omega) only [h5, ↓dK_205 hL, ↓dG_205 hL, ↓dP_205 hL, ↓dZ_205 hL (x := nI 0) (Or.inl rfl), ↓dZ_205 hL (x := nI 1) (Or.inr rfl), ↓dZ_205 hL (Or.inl rfl), ↓dZ_205 hL (Or.inr rfl), ↓dZ_205 hL (nB_01 _), ↓reduceIte, ↓kq_bi, ↓kq_let, ↓kq_rz0, ↓kq_rz1, ↓kq_rzB, ↓Option.bind_some, kq_dvn, kt_lt, kf_lt, kt_eq, kf_eq, decide_true, decide_false, eq_self, Bool.false_eq_true, Bool.true_eq_false, not_true_eq_false, not_false_eq_true, jU_eq, jU_ne, jU_U, jV_eq, jV_ne, jV_V, kn_lit, kn_add, kn_mul, kn_sdm, kn_sub, kn_div, kn_nsdm, kn_lt, kn_eq, kn_pred, kn_m1, kn_m1', kn_a31, kn_shl, kn_shr, kn_bit, nB_0, nB_1, nB_t, nB_f, Nat.zero_add, Nat.add_zero, Nat.reduceAdd, Nat.reduceMul, Nat.reduceSub, Nat.reducePow]
        refine hP J ?_ jPFm_r
        show jPM J tp n o (s_end tp n y, π)
        rw [s_end_no h0]
        exact hJ
    have h0 : y.2.1 = 0 := Decidable.not_not.mp h0
    obtain ⟨hTy, hTN⟩ := hT h0
  · omega
  · have hyn := hy.1
    have enx : s_nx tp n y = (s_skp c_bl tp n y.1, y.2) := if_pos h0
    obtain ⟨sk1, sk2⟩ := s_skp_ge (c := c_bl) (tp := tp) hyn
    have zid := s_nx_id (tp := tp) hy
    have hzy := s_nx_y (tp := tp) hy
    have z0 : (s_nx tp n y).2.1 = 0 := by rw [s_nx_2]; exact h0
    have znc := s_nc_nx (tp := tp) hy
    have hGz : jPG τ n (s_nx tp n y, π) := jPG_nx hG
    have hUz : jPU o (y, π) (s_nx tp n y, π) := jPU_nx hy
    -- the class looks at what is next
    have cB : ∀ t u l m b c h, jLay t u l m b c h → ∀ J, jPC h J tp n (y, π) → ∀ F (P : LH → Prop), (∀ K, jPC h K tp n (s_nx tp n y, π) → jPFc J K → jW (if nO (s_nc tp n y) = -nI 1 then F_Prog_readSteps_b30 Rc (jz_I h K) else if nO (s_nc tp n y) = nI 93 then F_Prog_readSteps_b30 Rc (jz_I h K) else (F_Prog_readStep Rc 67 65 t (nI o) (jz_I h K)).bind fun h3 => jf_kd h3 65 7 ((F_Text_need 65 (59 : Int32) h3).bind fun h4 => F_Prog_readSteps_l3 Rc F 67 65 t (nI o) (nI (T + 1)) h4)) P) → T < 150 → jW (F_Prog_readSteps_l3 Rc (F + 1) 67 65 t (nI o) (nI T) (jz_I h J)) P := by
      intro t u l m b c h hL J hJ F P hP t9
      show jW (F_Prog_readSteps_c3 Rc (F_Prog_readSteps_l3 Rc F) 67 65 t (nI o) (nI T) (jz_I h J)) P
      unfold F_Prog_readSteps_c3
      rw [if_pos (show nI T < (150 : Int32) by show nI T < nI 150; rw [kn_lt (by omega) (by omega)]; exact t9), dK_65 hL]
      refine jW_bi (c_next hL hJ.2.1) (fun M hM => ?_)
      have := hP M (jPC_T1 hJ hM.1 hM.2.2 (fun e => by rw [s_nx_2] at e; exact e)) (jPFc_T1 hM.2.2)
      rw [dK_67 hL, show nI T + (1 : Int32) = nI (T + 1) from kn_add T 1]
      exact this
    -- the reference at a place where no step begins
    have m0 : ∀ t u l m b c h, jLay t u l m b c h → ∀ J, jPM J tp n o (y, π) → (s_nc tp n y = none ∨ s_nc tp n y = some 93) → ∃ K, RR 205 (jz_I h J) = some (jz_I h K) ∧ jTM K tp n (s_skp c_bl tp n y.1, 1, s_skp c_bl tp n y.1) ∧ jM1 J K := by
      intro t u l m b c h hL J hJ hc
      obtain ⟨K, e, k1, kM⟩ := hN t u l m b c h hL J y hJ.1 h0 (s_stp_nc hy hc)
      exact ⟨K, e, jTM_fl k1 (by omega) sk2, kM⟩
    cases hc : s_nc tp n y with
    | none =>
      have hge : ¬ s_skp c_bl tp n y.1 < n := fun a => by
        rw [s_nc0 h0, show s_byt tp n (s_skp c_bl tp n y.1) = some _ from if_pos a] at hc
        cases hc
      have ez : s_skp c_bl tp n y.1 = n := by omega
      refine ⟨(s_nx tp n y, π), fun t u l m b c h hL J hC hJ F1 f1 => jE_n (fun P hP => ?_), fun t u l m b c h hL J hM hJ h4 F2 f2 l2 P hP => ?_, fun hE t u l m b c h hL J hM hJ h4 F2 f2 P hP => ?_, hGz, hUz⟩
      · obtain ⟨F, rfl⟩ : ∃ F, F1 = F + 1 := ⟨F1 - 1, by omega⟩
        by_cases t9 : T < 150
        · refine cB t u l m b c h hL J hJ F P (fun K k1 kF => ?_) t9
          rw [hc, nO_none, if_pos rfl]
          exact jW_s (hP K ⟨k1, kF⟩)
        · have eyn : y.1 = n := by omega
          have eyy : s_nx tp n y = y := by rw [enx, ez, ← eyn]
          show jW (F_Prog_readSteps_c3 Rc (F_Prog_readSteps_l3 Rc F) 67 65 t (nI o) (nI T) (jz_I h J)) P
          unfold F_Prog_readSteps_c3
          simp (disch := omega) only [↓dR_64_0 hL, ↓dK_65 hL, ↓dG_65 hL, ↓dP_65 hL, ↓reduceIte, ↓kq_bi, ↓kq_let, ↓kq_rz0, ↓kq_rz1, ↓kq_rzB, ↓Option.bind_some, kq_dvn, kt_lt, kf_lt, kt_eq, kf_eq, decide_true, decide_false, eq_self, Bool.false_eq_true, Bool.true_eq_false, not_true_eq_false, not_false_eq_true, jU_eq, jU_ne, jU_U, jV_eq, jV_ne, jV_V, kn_lit, kn_add, kn_mul, kn_sdm, kn_sub, kn_div, kn_nsdm, kn_lt, kn_eq, kn_pred, kn_m1, kn_m1', kn_a31, kn_shl, kn_shr, kn_bit, nB_0, nB_1, nB_t, nB_f, Nat.zero_add, Nat.add_zero, Nat.reduceAdd, Nat.reduceMul, Nat.reduceSub, Nat.reducePow]
          exact jW_s (hP J ⟨by rw [eyy]; exact hJ, jPFc_r⟩)
      · obtain ⟨F, rfl⟩ : ∃ F, F2 = F + 1 + 1 := ⟨F2 - 2, by omega⟩
        have h5 : J 205 5 = nI y.2.1 := hJ.1.2.2.1.1
        rw [h0] at h5
        have h4 := h4 h0
        have hby := m_byteAt hL hJ.1.1 (p := s_skp c_bl tp n y.1) (by omega)
        rw [show s_byt tp n (s_skp c_bl tp n y.1) = none from if_neg hge, nO_none] at hby
        obtain ⟨K1, e1, k1, kM1⟩ := m0 t u l m b c h hL J hJ (Or.inl hc)
        show jW (F_Mod_readsStep_c134 RR (F_Mod_readsStep_l134 RR (F + 1)) 205 l2 (jz_I h J)) P
        unfold F_Mod_readsStep_c134
        have ne : (-nI 1 = nI 93) = False := by decide
        simp (disch := omega) only [h5, h4, hby, ne, e1, ↓dK_205 hL, ↓dG_205 hL, ↓dP_205 hL, ↓dZ_205 hL (x := nI 0) (Or.inl rfl), ↓dZ_205 hL (x := nI 1) (Or.inr rfl), ↓dZ_205 hL (Or.inl rfl), ↓dZ_205 hL (Or.inr rfl), ↓dZ_205 hL (nB_01 _), ↓reduceIte, ↓kq_bi, ↓kq_let, ↓kq_rz0, ↓kq_rz1, ↓kq_rzB, ↓Option.bind_some, kq_dvn, kt_lt, kf_lt, kt_eq, kf_eq, decide_true, decide_false, eq_self, Bool.false_eq_true, Bool.true_eq_false, not_true_eq_false, not_false_eq_true, jU_eq, jU_ne, jU_U, jV_eq, jV_ne, jV_V, kn_lit, kn_add, kn_mul, kn_sdm, kn_sub, kn_div, kn_nsdm, kn_lt, kn_eq, kn_pred, kn_m1, kn_m1', kn_a31, kn_shl, kn_shr, kn_bit, nB_0, nB_1, nB_t, nB_f, Nat.zero_add, Nat.add_zero, Nat.reduceAdd, Nat.reduceMul, Nat.reduceSub, Nat.reducePow]
        refine jW_bn (m_bl2 hL k1) (fun K2 hK2 => ?_)
        obtain ⟨k2, -, kM2⟩ := hK2
        have k5 : K2 205 5 = nI 1 := k2.2.2.1.1
        show jW (F_Mod_readsStep_c134 RR (F_Mod_readsStep_l134 RR F) 205 l2 (jz_I h K2)) P
        unfold F_Mod_readsStep_c134
        simp (disch := omega) only [k5, ↓dK_205 hL, ↓dG_205 hL, ↓dP_205 hL, ↓dZ_205 hL (x := nI 0) (Or.inl rfl), ↓dZ_205 hL (x := nI 1) (Or.inr rfl), ↓dZ_205 hL (Or.inl rfl), ↓dZ_205 hL (Or.inr rfl), ↓dZ_205 hL (nB_01 _), ↓reduceIte, ↓kq_bi, ↓kq_let, ↓kq_rz0, ↓kq_rz1, ↓kq_rzB, ↓Option.bind_some, kq_dvn, kt_lt, kf_lt, kt_eq, kf_eq, decide_true, decide_false, eq_self, Bool.false_eq_true, Bool.true_eq_false, not_true_eq_false, not_false_eq_true, jU_eq, jU_ne, jU_U, jV_eq, jV_ne, jV_V, kn_lit, kn_add, kn_mul, kn_sdm, kn_sub, kn_div, kn_nsdm, kn_lt, kn_eq, kn_pred, kn_m1, kn_m1', kn_a31, kn_shl, kn_shr, kn_bit, nB_0, nB_1, nB_t, nB_f, Nat.zero_add, Nat.add_zero, Nat.reduceAdd, Nat.reduceMul, Nat.reduceSub, Nat.reducePow]
        refine b165 hL (J := J) (z := (s_skp c_bl tp n y.1, 1, s_skp c_bl tp n y.1)) k2 (fun e => by cases e) (jPFm_trans (jPFm_M1 kM1) (jPFm_M1 kM2)) (fun K k kF => hP K ?_ kF)
        have e1 : s_nd tp n 93 (s_nx tp n y) = (s_skp c_bl tp n y.1, 1, s_skp c_bl tp n y.1) := by
          unfold s_nd
          rw [if_neg (show ¬ s_tk tp n 93 (s_nx tp n y) = true from fun a => by have := of_decide_eq_true a; rw [znc, hc] at this; cases this), zid, enx]
          exact if_pos h0
        have e2 : s_nd tp n 93 ((s_skp c_bl tp n y.1, 1, s_skp c_bl tp n y.1) : JTs) = (s_skp c_bl tp n y.1, 1, s_skp c_bl tp n y.1) := s_nd_no (by show ¬ 1 = 0; omega)
        rw [e2] at k
        show jPM K tp n o (s_nd tp n 93 (s_nx tp n y), π)
        rw [e1]; exact k
      · obtain ⟨F, rfl⟩ : ∃ F, F2 = F + 1 := ⟨F2 - 1, by omega⟩
        have h5 : J 205 5 = nI y.2.1 := hJ.1.2.2.1.1
        have hs : J 205 2 = nI n := hJ.1.1.1
        rw [h0] at h5
        have h4 := h4 h0
        show jW (F_Mod_work_c72 (F_Mod_work_l72 F) 205 (jz_I h J)) P
        unfold F_Mod_work_c72
        simp (disch := omega) only [h5, h4, hs, ↓dK_205 hL, ↓dG_205 hL, ↓dP_205 hL, ↓dZ_205 hL (x := nI 0) (Or.inl rfl), ↓dZ_205 hL (x := nI 1) (Or.inr rfl), ↓dZ_205 hL (Or.inl rfl), ↓dZ_205 hL (Or.inr rfl), ↓dZ_205 hL (nB_01 _), ↓reduceIte, ↓kq_bi, ↓kq_let, ↓kq_rz0, ↓kq_rz1, ↓kq_rzB, ↓Option.bind_some, kq_dvn, kt_lt, kf_lt, kt_eq, kf_eq, decide_true, decide_false, eq_self, Bool.false_eq_true, Bool.true_eq_false, not_true_eq_false, not_false_eq_true, jU_eq, jU_ne, jU_U, jV_eq, jV_ne, jV_V, kn_lit, kn_add, kn_mul, kn_sdm, kn_sub, kn_div, kn_nsdm, kn_lt, kn_eq, kn_pred, kn_m1, kn_m1', kn_a31, kn_shl, kn_shr, kn_bit, nB_0, nB_1, nB_t, nB_f, Nat.zero_add, Nat.add_zero, Nat.reduceAdd, Nat.reduceMul, Nat.reduceSub, Nat.reducePow]
        refine hP J ?_ jPFm_r
        show jPM J tp n o (s_end tp n (s_nx tp n y), π)
        rw [show s_end tp n (s_nx tp n y) = s_nx tp n y from (if_pos (by rw [znc]; exact hc)).trans zid]
        exact jPM_nx hJ
    | some v =>
      obtain ⟨-, -, hlt, htp⟩ := s_nc_ex hc
      have t9 : T < 150 := by omega
      have hbv : s_byt tp n (s_skp c_bl tp n y.1) = some v := by rw [← s_nc0 h0]; exact hc
      by_cases hv : v = 93
      · subst hv
        refine ⟨(s_nx tp n y, π), fun t u l m b c h hL J hC hJ F1 f1 => jE_n (fun P hP => ?_), fun t u l m b c h hL J hM hJ h4 F2 f2 l2 P hP => ?_, fun hE t u l m b c h hL J hM hJ h4 F2 f2 P hP => ?_, hGz, hUz⟩
        · obtain ⟨F, rfl⟩ : ∃ F, F1 = F + 1 := ⟨F1 - 1, by omega⟩
          refine cB t u l m b c h hL J hJ F P (fun K k1 kF => ?_) t9
          rw [hc, nO_some, if_neg (show ¬ nI 93 = -nI 1 by decide), if_pos rfl]
          exact jW_s (hP K ⟨k1, kF⟩)
        · obtain ⟨F, rfl⟩ : ∃ F, F2 = F + 1 := ⟨F2 - 1, by omega⟩
          have h5 : J 205 5 = nI y.2.1 := hJ.1.2.2.1.1
          rw [h0] at h5
          have h4 := h4 h0
          have hby := m_byteAt hL hJ.1.1 (p := s_skp c_bl tp n y.1) (by omega)
          rw [hbv, nO_some] at hby
          show jW (F_Mod_readsStep_c134 RR (F_Mod_readsStep_l134 RR F) 205 l2 (jz_I h J)) P
          unfold F_Mod_readsStep_c134
          simp (disch := omega) only [h5, h4, hby, ↓dK_205 hL, ↓dG_205 hL, ↓dP_205 hL, ↓dZ_205 hL (x := nI 0) (Or.inl rfl), ↓dZ_205 hL (x := nI 1) (Or.inr rfl), ↓dZ_205 hL (Or.inl rfl), ↓dZ_205 hL (Or.inr rfl), ↓dZ_205 hL (nB_01 _), ↓reduceIte, ↓kq_bi, ↓kq_let, ↓kq_rz0, ↓kq_rz1, ↓kq_rzB, ↓Option.bind_some, kq_dvn, kt_lt, kf_lt, kt_eq, kf_eq, decide_true, decide_false, eq_self, Bool.false_eq_true, Bool.true_eq_false, not_true_eq_false, not_false_eq_true, jU_eq, jU_ne, jU_U, jV_eq, jV_ne, jV_V, kn_lit, kn_add, kn_mul, kn_sdm, kn_sub, kn_div, kn_nsdm, kn_lt, kn_eq, kn_pred, kn_m1, kn_m1', kn_a31, kn_shl, kn_shr, kn_bit, nB_0, nB_1, nB_t, nB_f, Nat.zero_add, Nat.add_zero, Nat.reduceAdd, Nat.reduceMul, Nat.reduceSub, Nat.reducePow]
          exact b165 hL (J := J) (z := s_nx tp n y) (jTM_nx hJ.1) (fun _ => jPM_nx hJ) jPFm_r hP
        · obtain ⟨F, rfl⟩ : ∃ F, F2 = F + 1 + 1 := ⟨F2 - 2, by omega⟩
          have h5 : J 205 5 = nI y.2.1 := hJ.1.2.2.1.1
          have hs : J 205 2 = nI n := hJ.1.1.1
          rw [h0] at h5
          have h4 := h4 h0
          obtain ⟨K1, e1, k1, kM1⟩ := m0 t u l m b c h hL J hJ (Or.inr hc)
          rw [hE] at e1
          show jW (F_Mod_work_c72 (F_Mod_work_l72 (F + 1)) 205 (jz_I h J)) P
          unfold F_Mod_work_c72
          simp (disch := omega) only [h5, h4, hs, e1, ↓dK_205 hL, ↓dG_205 hL, ↓dP_205 hL, ↓dZ_205 hL (x := nI 0) (Or.inl rfl), ↓dZ_205 hL (x := nI 1) (Or.inr rfl), ↓dZ_205 hL (Or.inl rfl), ↓dZ_205 hL (Or.inr rfl), ↓dZ_205 hL (nB_01 _), ↓reduceIte, ↓kq_bi, ↓kq_let, ↓kq_rz0, ↓kq_rz1, ↓kq_rzB, ↓Option.bind_some, kq_dvn, kt_lt, kf_lt, kt_eq, kf_eq, decide_true, decide_false, eq_self, Bool.false_eq_true, Bool.true_eq_false, not_true_eq_false, not_false_eq_true, jU_eq, jU_ne, jU_U, jV_eq, jV_ne, jV_V, kn_lit, kn_add, kn_mul, kn_sdm, kn_sub, kn_div, kn_nsdm, kn_lt, kn_eq, kn_pred, kn_m1, kn_m1', kn_a31, kn_shl, kn_shr, kn_bit, nB_0, nB_1, nB_t, nB_f, Nat.zero_add, Nat.add_zero, Nat.reduceAdd, Nat.reduceMul, Nat.reduceSub, Nat.reducePow]
          refine jW_bn (m_bl2 hL k1) (fun K2 hK2 => ?_)
          obtain ⟨k2, -, kM2⟩ := hK2
          have k5 : K2 205 5 = nI 1 := k2.2.2.1.1
          show jW (F_Mod_work_c72 (F_Mod_work_l72 F) 205 (jz_I h K2)) P
          unfold F_Mod_work_c72
          simp (disch := omega) only [k5, ↓dK_205 hL, ↓dG_205 hL, ↓dP_205 hL, ↓dZ_205 hL (x := nI 0) (Or.inl rfl), ↓dZ_205 hL (x := nI 1) (Or.inr rfl), ↓dZ_205 hL (Or.inl rfl), ↓dZ_205 hL (Or.inr rfl), ↓dZ_205 hL (nB_01 _), ↓reduceIte, ↓kq_bi, ↓kq_let, ↓kq_rz0, ↓kq_rz1, ↓kq_rzB, ↓Option.bind_some, kq_dvn, kt_lt, kf_lt, kt_eq, kf_eq, decide_true, decide_false, eq_self, Bool.false_eq_true, Bool.true_eq_false, not_true_eq_false, not_false_eq_true, jU_eq, jU_ne, jU_U, jV_eq, jV_ne, jV_V, kn_lit, kn_add, kn_mul, kn_sdm, kn_sub, kn_div, kn_nsdm, kn_lt, kn_eq, kn_pred, kn_m1, kn_m1', kn_a31, kn_shl, kn_shr, kn_bit, nB_0, nB_1, nB_t, nB_f, Nat.zero_add, Nat.add_zero, Nat.reduceAdd, Nat.reduceMul, Nat.reduceSub, Nat.reducePow]
          refine hP K2 ?_ (jPFm_trans (jPFm_M1 kM1) (jPFm_M1 kM2))
          have ee : s_end tp n (s_nx tp n y) = (s_skp c_bl tp n y.1, 1, s_skp c_bl tp n y.1) := by
            unfold s_end
            rw [if_neg (show ¬ s_nc tp n (s_nx tp n y) = none by rw [znc, hc]; intro a; cases a), zid, enx]
            exact if_pos h0
          show jPM K2 tp n o (s_end tp n (s_nx tp n y), π)
          rw [ee]
          exact ⟨k2, fun e => by cases e⟩
      · obtain ⟨s1, stC, stM, g1, u1, p1⟩ := hS _ _ hGz z0
        obtain ⟨s3, lC, lM, lT, g3, u3⟩ := ih (T + 1) (s_nd tp n 59 s1.1) s1.2 g1 (by omega) (fun e => by
          obtain ⟨d1, d2, d3, d4, d5, d6⟩ := u1 e
          have q1 := p1 e
          have d3 : 3 * s1.2.1 + (s_nx tp n y).1 ≤ (s_nd tp n 59 s1.1).1 + 3 * π.1 := d3
          have := s_nx_ge (tp := tp) hy
          omega)
        refine ⟨s3, fun t u l m b c h hL J hC hJ F1 f1 => jE_n (fun P hP => ?_), fun t u l m b c h hL J hM hJ h4 F2 f2 l2 P hP => ?_, fun hE t u l m b c h hL J hM hJ h4 F2 f2 P hP => ?_, g3, jPU_trans hUz (jPU_trans u1 u3)⟩
        · obtain ⟨F, rfl⟩ : ∃ F, F1 = F + 1 := ⟨F1 - 1, by omega⟩
          have ht := jLay_t hL
          have hv2 : v < 256 := s_nc_lt hJ.2.1.2.2.2 hc
          refine cB t u l m b c h hL J hJ F P (fun K k1 kF => ?_) t9
          rw [hc, nO_some, if_neg (show ¬ nI v = -nI 1 by rw [kn_m1 (by omega)]; exact id), if_neg (show ¬ nI v = nI 93 by rw [kn_eq (by omega) (by omega)]; exact hv)]
          have cK : jCT K t τ := jCT_congr (fun i hi => kF.2 _ (by omega) (by omega) (by omega)) hC
          refine jW_bn (stC t u l m b c h hL K cK k1) (fun K2 hK2 => ?_)
          rw [dK_65 hL]
          refine jW_bn (c_need hL hK2.1.2.1 (ch := 59) (by omega)) (fun K3 hK3 => ?_)
          have P3 := jPC_T1 (y := s1.1) (π := s1.2) hK2.1 hK3.1 hK3.2 (fun e => s_nd_0 e)
          have F3 := jPFc_trans kF (jPFc_trans hK2.2 (jPFc_T1 hK3.2))
          obtain ⟨K4, e4, k4, kF4⟩ := lC t u l m b c h hL K3 (jCT_congr (fun i hi => F3.2 _ (by omega) (by omega) (by omega)) hC) P3 F (by omega)
          exact jW_e e4 (hP K4 ⟨k4, jPFc_trans F3 kF4⟩)
        · obtain ⟨F, rfl⟩ : ∃ F, F2 = F + 1 := ⟨F2 - 1, by omega⟩
          have hv2 : v < 256 := s_nc_lt hJ.1.1.2.2.2 hc
          have h5 : J 205 5 = nI y.2.1 := hJ.1.2.2.1.1
          rw [h0] at h5
          have h4 := h4 h0
          have hby := m_byteAt hL hJ.1.1 (p := s_skp c_bl tp n y.1) (by omega)
          rw [hbv, nO_some] at hby
          obtain ⟨K1, e1, k1, kF1⟩ := stM t u l m b c h hL J hM (jPM_nx hJ)
          show jW (F_Mod_readsStep_c134 RR (F_Mod_readsStep_l134 RR F) 205 l2 (jz_I h J)) P
          unfold F_Mod_readsStep_c134
          simp (disch := omega) only [h5, h4, hby, e1, ↓dK_205 hL, ↓dG_205 hL, ↓dP_205 hL, ↓dZ_205 hL (x := nI 0) (Or.inl rfl), ↓dZ_205 hL (x := nI 1) (Or.inr rfl), ↓dZ_205 hL (Or.inl rfl), ↓dZ_205 hL (Or.inr rfl), ↓dZ_205 hL (nB_01 _), ↓reduceIte, ↓kq_bi, ↓kq_let, ↓kq_rz0, ↓kq_rz1, ↓kq_rzB, ↓Option.bind_some, kq_dvn, kt_lt, kf_lt, kt_eq, kf_eq, decide_true, decide_false, eq_self, Bool.false_eq_true, Bool.true_eq_false, not_true_eq_false, not_false_eq_true, jU_eq, jU_ne, jU_U, jV_eq, jV_ne, jV_V, kn_lit, kn_add, kn_mul, kn_sdm, kn_sub, kn_div, kn_nsdm, kn_lt, kn_eq, kn_pred, kn_m1, kn_m1', kn_a31, kn_shl, kn_shr, kn_bit, nB_0, nB_1, nB_t, nB_f, Nat.zero_add, Nat.add_zero, Nat.reduceAdd, Nat.reduceMul, Nat.reduceSub, Nat.reducePow]
          refine jW_bn (m_bl2 hL k1.1) (fun K2 hK2 => ?_)
          have F2' := jPFm_trans kF1 (jPFm_M1 hK2.2.2)
          exact lM t u l m b c h hL K2 (jMT_congr (fun a x1 x2 => F2'.2 a (by omega) (by omega)) ho hM) (jPM_M1 k1 hK2.1 hK2.2.2 (fun e => e)) hK2.2.1 F (by omega) l2 P (fun K k kF => hP K k (jPFm_trans F2' kF))
        · obtain ⟨F, rfl⟩ : ∃ F, F2 = F + 1 := ⟨F2 - 1, by omega⟩
          have h5 : J 205 5 = nI y.2.1 := hJ.1.2.2.1.1
          have hs : J 205 2 = nI n := hJ.1.1.1
          rw [h0] at h5
          have h4 := h4 h0
          obtain ⟨K1, e1, k1, kF1⟩ := stM t u l m b c h hL J hM (jPM_nx hJ)
          rw [hE] at e1
          show jW (F_Mod_work_c72 (F_Mod_work_l72 F) 205 (jz_I h J)) P
          unfold F_Mod_work_c72
          simp (disch := omega) only [h5, h4, hs, e1, ↓dK_205 hL, ↓dG_205 hL, ↓dP_205 hL, ↓dZ_205 hL (x := nI 0) (Or.inl rfl), ↓dZ_205 hL (x := nI 1) (Or.inr rfl), ↓dZ_205 hL (Or.inl rfl), ↓dZ_205 hL (Or.inr rfl), ↓dZ_205 hL (nB_01 _), ↓reduceIte, ↓kq_bi, ↓kq_let, ↓kq_rz0, ↓kq_rz1, ↓kq_rzB, ↓Option.bind_some, kq_dvn, kt_lt, kf_lt, kt_eq, kf_eq, decide_true, decide_false, eq_self, Bool.false_eq_true, Bool.true_eq_false, not_true_eq_false, not_false_eq_true, jU_eq, jU_ne, jU_U, jV_eq, jV_ne, jV_V, kn_lit, kn_add, kn_mul, kn_sdm, kn_sub, kn_div, kn_nsdm, kn_lt, kn_eq, kn_pred, kn_m1, kn_m1', kn_a31, kn_shl, kn_shr, kn_bit, nB_0, nB_1, nB_t, nB_f, Nat.zero_add, Nat.add_zero, Nat.reduceAdd, Nat.reduceMul, Nat.reduceSub, Nat.reducePow]
          refine jW_bn (m_bl2 hL k1.1) (fun K2 hK2 => ?_)
          have F2' := jPFm_trans kF1 (jPFm_M1 hK2.2.2)
          exact lT hE t u l m b c h hL K2 (jMT_congr (fun a x1 x2 => F2'.2 a (by omega) (by omega)) ho hM) (jPM_M1 k1 hK2.1 hK2.2.2 (fun e => e)) hK2.2.1 F (by omega) P (fun K k kF => hP K k (jPFm_trans F2' kF))
end

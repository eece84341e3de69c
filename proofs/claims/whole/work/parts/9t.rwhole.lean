/-! PLAIN LEAN: work; both sides read a text -/
section
variable {t u l m b c : Nat} {h : LH} {I J K L : Nat → Nat → Int32} {tp : Nat → Nat} {n o k : Nat} {y z : JTs} {x : Int32} {s s' s3 : JLs} {π : JLw} {τ : JTn}
theorem jSt0_r {d : Nat} : jSt0 tp n (F_Mod_readsStep (d + 1)) := fun t u l m b c h hL J y hJ h0 hs => m_step0 (R := F_Mod_readsStep d) hL hJ h0 hs
theorem jIn1_l {d : Nat} (ho : jTOK τ) (hS : jSt1 tp n τ o (F_Prog_readSteps d) (F_Mod_readsStep (d + 1))) : jIn1 tp n τ o (F_Prog_readSteps (d + 1)) (F_Mod_readsStep (d + 1)) := by
  intro s hG
  obtain ⟨y, π⟩ := s
  have hn : n ≤ 150 := hG.2.1
  obtain ⟨s3, lC, lM, -, g3, u3⟩ := x_loop ho hS jSt0_r (n + 1) 0 y π hG (by omega) (fun _ => ⟨Nat.zero_le _, by omega⟩)
  exact ⟨s3, fun t u l m b c h hL J hC hJ => lC t u l m b c h hL J hC hJ jF (by show n + 1 < 1000; omega), fun t u l m b c h hL J hM hJ h4 l2 P hP => lM t u l m b c h hL J hM hJ h4 jF (by show n + 1 < 1000; omega) l2 P hP, g3, u3⟩
theorem x_psteps (ho : jTOK τ) : ∀ d o, o ≤ 6 → 6 ≤ o + d → jSt1 tp n τ o (F_Prog_readSteps d) (F_Mod_readsStep (d + 1))
  | 0, o, h1, h2 => fun y π hG h0 => x_step (Rc := F_Prog_readSteps 0) (R := F_Mod_readsStep 0) h1 ho hG h0 (fun h6 => by omega)
  | d + 1, o, h1, h2 => fun y π hG h0 => x_step (Rc := F_Prog_readSteps (d + 1)) (R := F_Mod_readsStep (d + 1)) h1 ho hG h0 (fun h6 => jIn1_l ho (x_psteps ho d (o + 1) (by omega) (by omega)))
theorem x_prog (ho : jTOK τ) (hn : n ≤ 150) : ∃ y π, (y.2.1 = 0 → π.1 ≤ 50 ∧ ∀ i, i < π.1 → ¬ π.2 i 3 = 0 ∧ jPok τ π.2 π.1 i) ∧ jTy n y ∧
    (∀ t u l m b c h, jLay t u l m b c h → ∀ J, jStr h J → jCT J t τ → jTX J tp n (0, 0, 0) → ∃ K, F_Prog_readFrom 67 65 t (jz_I h J) = some (jz_I h K) ∧ jPC h K tp n (y, π) ∧ jPFc J K) ∧
    ∀ t u l m b c h, jLay t u l m b c h → ∀ J, jMT J τ → jTM J tp n (0, 0, 0) → J 205 8 = nI 0 → J 205 34 = nI 0 → J 205 4 = nI (s_skp c_bl tp n 0) → ∀ (P : Int32 × LH → Prop), (∀ K, jPM K tp n 0 (y, π) → jPFm J K → jW (F_Mod_work_b101 205 (jz_I h K)) P) → jW (F_Mod_work_l72 jF 205 (jz_I h J)) P := by
  have hG : jPG τ n ((0, 0, 0), (0, fun _ _ => 0)) := ⟨⟨Nat.zero_le _, by show 0 ≤ 3; omega, Nat.zero_le _, by omega⟩, hn, fun _ => ⟨Nat.zero_le _, fun i hi => absurd hi (Nat.not_lt_zero i)⟩⟩
  obtain ⟨s3, lC, -, lT, g3, u3⟩ := x_loop (tp := tp) ho (x_psteps ho 19 0 (by omega) (by omega)) jSt0_r (n + 1) 0 _ _ hG (by omega) (fun _ => ⟨Nat.zero_le _, by show n - 0 < n + 1; omega⟩)
  have hy3 : jTy n s3.1 := g3.1
  refine ⟨s_end tp n s3.1, s3.2, fun e => ?_, s_end_y hy3, fun t u l m b c h hL J hS hT hX => jE_n (fun P hP => ?_), fun t u l m b c h hL J hT hX h8 h34 h4 P hP => ?_⟩
  · obtain ⟨-, b2, b3, b4, b5, b6⟩ := u3 (s_end_0 e)
    obtain ⟨q1, q2⟩ := g3.2.2 (s_end_0 e)
    have := hy3.1
    refine ⟨by omega, fun i hi => ?_⟩
    have h3 := (b6 i (Nat.zero_le i) hi).1
    exact ⟨h3, q2 i hi h3⟩
  · have ht := jLay_t hL
    unfold F_Prog_readFrom
    simp (disch := omega) only [↓dR_64_1 hL, ↓dK_67 hL, ↓dG_67 hL, ↓dP_67 hL, kn_lit]
    have J0 : jPC h (jU J 67 (jV (J 67) 1 (nI 0))) tp n ((0, 0, 0), (0, fun _ _ => 0)) := ⟨jStr_eq hS (fun a ha => jU_ne (by omega)), jTX_U hX (by omega), 0, by omega, by rw [jU_eq, jV_eq], fun _ => ⟨rfl, fun i hi => absurd hi (Nat.not_lt_zero i)⟩⟩
    have F0 : jPFc J (jU J 67 (jV (J 67) 1 (nI 0))) := ⟨by rw [jU_ne (by omega)], fun a _ a2 _ => jU_ne a2⟩
    refine jW_bn (h := h) (R := fun K => jPC h K tp n s3 ∧ jPFc J K) ?_ (fun K hK => ?_)
    · obtain ⟨K, e, k1, k2⟩ := lC t u l m b c h hL _ (jCT_congr (fun i hi => jU_ne (by omega)) hT) J0 jF (by show n + 1 < 1000; omega)
      exact ⟨K, e, k1, jPFc_trans F0 k2⟩
    obtain ⟨k1, kF⟩ := hK
    obtain ⟨y1, π⟩ := s3
    have k1' : jTX K tp n y1 := k1.2.1
    simp (disch := omega) only [↓dR_64_0 hL, ↓dK_65 hL, ↓dG_65 hL, ↓dP_65 hL, kn_lit]
    refine jW_bi (c_next hL k1') (fun K2 hK2 => ?_)
    obtain ⟨k2, -, kM2⟩ := hK2
    have h256' := k1'.2.2.2
    cases hc : s_nc tp n y1 with
    | none =>
      have ee : s_end tp n y1 = s_nx tp n y1 := if_pos hc
      have fin := hP K2 ⟨by show jPC h K2 tp n (s_end tp n y1, π); rw [ee]; exact jPC_T1 k1 k2 kM2 (fun e => by rw [s_nx_2] at e; exact e), jPFc_trans kF (jPFc_T1 kM2)⟩
      simp (disch := omega) only [nO_none, F_Prog_readFrom_b25, ↓reduceIte, ↓kq_bi, ↓kq_let, ↓kq_rz0, ↓kq_rz1, ↓kq_rzB, ↓Option.bind_some, kq_dvn, kt_lt, kf_lt, kt_eq, kf_eq, decide_true, decide_false, eq_self, Bool.false_eq_true, Bool.true_eq_false, not_true_eq_false, not_false_eq_true, jU_eq, jU_ne, jU_U, jV_eq, jV_ne, jV_V, kn_lit, kn_add, kn_mul, kn_sdm, kn_sub, kn_div, kn_nsdm, kn_lt, kn_eq, kn_pred, kn_m1, kn_m1', kn_a31, kn_shl, kn_shr, kn_bit, nB_0, nB_1, nB_t, nB_f, Nat.zero_add, Nat.add_zero, Nat.reduceAdd, Nat.reduceMul, Nat.reduceSub, Nat.reducePow]
      exact jW_s fin
    | some v =>
      have hv := s_nc_lt h256' hc
      have ee : s_end tp n y1 = s_fa 1 (s_nx tp n y1).1 (s_nx tp n y1) := if_neg (by rw [hc]; intro a; cases a)
      simp (disch := omega) only [nO_some, ↓dR_64_0 hL, ↓dK_65 hL, ↓dG_65 hL, ↓dP_65 hL, ↓reduceIte, ↓kq_bi, ↓kq_let, ↓kq_rz0, ↓kq_rz1, ↓kq_rzB, ↓Option.bind_some, kq_dvn, kt_lt, kf_lt, kt_eq, kf_eq, decide_true, decide_false, eq_self, Bool.false_eq_true, Bool.true_eq_false, not_true_eq_false, not_false_eq_true, jU_eq, jU_ne, jU_U, jV_eq, jV_ne, jV_V, kn_lit, kn_add, kn_mul, kn_sdm, kn_sub, kn_div, kn_nsdm, kn_lt, kn_eq, kn_pred, kn_m1, kn_m1', kn_a31, kn_shl, kn_shr, kn_bit, nB_0, nB_1, nB_t, nB_f, Nat.zero_add, Nat.add_zero, Nat.reduceAdd, Nat.reduceMul, Nat.reduceSub, Nat.reducePow]
      refine jW_bn (c_failNext hL k2 (k := 1) (by omega) (by omega)) (fun K3 hK3 => ?_)
      obtain ⟨k3, -, kM3⟩ := hK3
      rw [s_nx_id hy3] at k3
      simp (disch := omega) only [F_Prog_readFrom_b25, ↓reduceIte, ↓kq_bi, ↓kq_let, ↓kq_rz0, ↓kq_rz1, ↓kq_rzB, ↓Option.bind_some, kq_dvn, kt_lt, kf_lt, kt_eq, kf_eq, decide_true, decide_false, eq_self, Bool.false_eq_true, Bool.true_eq_false, not_true_eq_false, not_false_eq_true, jU_eq, jU_ne, jU_U, jV_eq, jV_ne, jV_V, kn_lit, kn_add, kn_mul, kn_sdm, kn_sub, kn_div, kn_nsdm, kn_lt, kn_eq, kn_pred, kn_m1, kn_m1', kn_a31, kn_shl, kn_shr, kn_bit, nB_0, nB_1, nB_t, nB_f, Nat.zero_add, Nat.add_zero, Nat.reduceAdd, Nat.reduceMul, Nat.reduceSub, Nat.reducePow]
      exact jW_s (hP K3 ⟨by show jPC h K3 tp n (s_end tp n y1, π); rw [ee]; exact jPC_T1 k1 k3 (jT1_trans kM2 kM3) (fun e => absurd e (s_fa_0 (by omega))), jPFc_trans kF (jPFc_T1 (jT1_trans kM2 kM3))⟩)
  · exact lT rfl t u l m b c h hL J hT ⟨hX, fun _ => ⟨⟨h34, h8⟩, fun i hi => absurd hi (Nat.not_lt_zero i)⟩⟩ (fun _ => h4) jF (by show n + 1 < 1000; omega) P hP
end

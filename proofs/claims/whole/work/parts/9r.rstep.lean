/-! PLAIN LEAN: work; both sides read a step -/
section
variable {t u l m b c : Nat} {h : LH} {I J K L : Nat → Nat → Int32} {tp : Nat → Nat} {n o k : Nat} {y z : JTs} {x : Int32} {s s' s3 : JLs} {π : JLw} {τ : JTn} {R : Nat → LH → Option LH} {Rc : Nat → Nat → Nat → Int32 → LH → Option LH}
theorem jPok_mono {f f' : Nat → Nat → Nat} {k k' i : Nat} (hk : k ≤ k') (hf : ∀ i j, i < k → f' i j = f i j) (hi : i < k) (hp : jPok τ f k i) : jPok τ f' k' i := by
  obtain ⟨a1, a2, a3, a4, a5, a6, a7⟩ := hp
  unfold jPok
  rw [hf i 0 hi, hf i 1 hi, hf i 2 hi, hf i 3 hi, hf i 4 hi]
  refine ⟨a1, by omega, a3, a4, a5, a6, fun e => ?_⟩
  obtain ⟨b1, b2, b3⟩ := a7 e
  exact ⟨b1, b2, fun j j1 j2 => by rw [hf j 4 (by omega)]; exact b3 j j1 j2⟩
theorem jPG_0 {s : JLs} (hy : jTy n s.1) (hn : n ≤ 150) (h0 : ¬ s.1.2.1 = 0) : jPG τ n s := ⟨hy, hn, fun e => absurd e h0⟩
theorem jPU_0 {s s' : JLs} (h0 : ¬ s'.1.2.1 = 0) : jPU o s s' := fun e => absurd e h0
theorem jPU_trans {s1 : JLs} (h1 : jPU o s s1) (h2 : jPU o s1 s') : jPU o s s' := fun e => by
  obtain ⟨b1, b2, b3, b4, b5, b6⟩ := h2 e
  obtain ⟨d1, d2, d3, d4, d5, d6⟩ := h1 b1
  refine ⟨d1, by omega, by omega, by omega, fun i j hi => (b5 i j (by omega)).trans (d5 i j hi), fun i i1 i2 => ?_⟩
  by_cases z : i < s1.2.1
  · rw [b5 i 3 z, b5 i 4 z]; exact d6 i i1 z
  · exact b6 i (by omega) i2
theorem jPG_psh {kd a b' x3 : Nat} (hG : jPG τ n (y, π)) (h0 : y.2.1 = 0) (hz : jTy n z) (hx : z.2.1 = 0 → y.1 + 3 ≤ z.1 ∧ (¬ x3 = 0 → x3 = π.1 + 1 ∧ kd ≤ 2 ∧ o ≤ 6 ∧ (kd < 2 → a < τ 0 0) ∧ (kd = 0 → b' < τ 0 1))) : jPG τ n (z, s_psh (s_pv kd a b' x3 o) π) := by
  obtain ⟨g1, g2, g3⟩ := hG
  obtain ⟨g3, g4⟩ := g3 h0
  have g3 : 3 * π.1 ≤ y.1 := g3
  refine ⟨hz, g2, fun e => ?_⟩
  obtain ⟨x1, x2⟩ := hx e
  refine ⟨by show 3 * (π.1 + 1) ≤ z.1; omega, fun i hi h3 => ?_⟩
  have hi : i < π.1 + 1 := hi
  by_cases e1 : i = π.1
  · have h3 : ¬ (s_psh (s_pv kd a b' x3 o) π).2 i 3 = 0 := h3
    rw [e1, s_psh_eq] at h3
    obtain ⟨q1, q2, q3, q4, q5⟩ := x2 h3
    show jPok τ (s_psh (s_pv kd a b' x3 o) π).2 (π.1 + 1) i
    unfold jPok
    rw [e1, s_psh_eq, s_psh_eq, s_psh_eq, s_psh_eq, s_psh_eq]
    exact ⟨⟨by show π.1 < x3; omega, fun _ => by show x3 = π.1 + 1; omega⟩, by show x3 ≤ π.1 + 1; omega, by show kd ≤ 3; omega, q3, q4, q5, fun e9 => by have e9 : kd = 3 := e9; omega⟩
  · have h3 : ¬ (s_psh (s_pv kd a b' x3 o) π).2 i 3 = 0 := h3
    rw [s_psh_ne e1] at h3
    exact jPok_mono (f := π.2) (k := π.1) (Nat.le_succ _) (fun i j hi => s_psh_ne (by omega)) (by omega) (g4 i (by show i < π.1; omega) h3)
theorem jPU_psh {kd a b' : Nat} (h0 : y.2.1 = 0) (hx : z.2.1 = 0 → y.1 + 3 ≤ z.1) : jPU o (y, π) (z, s_psh (s_pv kd a b' (π.1 + 1) o) π) := fun e => by
  have x1 := hx e
  refine ⟨h0, Nat.le_succ _, by show 3 * (π.1 + 1) + y.1 ≤ z.1 + 3 * π.1; omega, by show y.1 ≤ z.1; omega, fun i j hi => s_psh_ne (by have hi : i < π.1 := hi; omega), fun i i1 i2 => ?_⟩
  have i1 : π.1 ≤ i := i1
  have i2 : i < π.1 + 1 := i2
  have e1 : i = π.1 := by omega
  show ¬ (s_psh (s_pv kd a b' (π.1 + 1) o) π).2 i 3 = 0 ∧ o ≤ (s_psh (s_pv kd a b' (π.1 + 1) o) π).2 i 4
  rw [e1, s_psh_eq, s_psh_eq]
  exact ⟨by show ¬ π.1 + 1 = 0; omega, Nat.le_refl o⟩
/-- the reference begins a step: its row -/
theorem m_b32 (hL : jLay t u l m b c h) {kd : Nat} (hkd : kd ≤ 3) (hJ : jPM J tp n o (y, π)) (h0 : y.2.1 = 0) (h4 : J 205 4 = nI (s_skp c_bl tp n y.1)) (hk : π.1 < 80) {P : LH → Prop} (hP : ∀ K r0, jTM K tp n (s_wd tp n y) → jRk J K π.1 (jV r0 0 (nI kd)) → jW (if kd < 2 then (jf_gr (jz_I h K) 205 11 12 fun v9 => jf_ia (jz_I h K) v9 (nI 0) fun v10 => jf_bi (F_Mod_number 205 (nI 0) (v10 - nI 1) (jz_I h K)) fun v11 h12 => jf_is h12 (611 + π.1) (nI 1) v11 fun h13 => F_Mod_readsStep_b89 R 205 (nI kd) (611 + π.1) h13) else F_Mod_readsStep_b89 R 205 (nI kd) (611 + π.1) (jz_I h K)) P) : jW (F_Mod_readsStep_b32 R 205 (nI kd) (jz_I h J)) P := by
  have h5 : J 205 5 = nI y.2.1 := hJ.1.2.2.1.1
  rw [h0] at h5
  obtain ⟨⟨b1, b2⟩, b3⟩ := hJ.2 h0
  have b1 : J 205 34 = nI π.1 := b1
  unfold F_Mod_readsStep_b32
  simp (disch := omega) only [h5, ↓dK_205 hL, ↓dG_205 hL, ↓dP_205 hL, ↓dZ_205 hL (x := nI 0) (Or.inl rfl), ↓dZ_205 hL (x := nI 1) (Or.inr rfl), ↓dZ_205 hL (Or.inl rfl), ↓dZ_205 hL (Or.inr rfl), ↓dZ_205 hL (nB_01 _), ↓reduceIte, ↓kq_bi, ↓kq_let, ↓kq_rz0, ↓kq_rz1, ↓kq_rzB, ↓Option.bind_some, kq_dvn, kt_lt, kf_lt, kt_eq, kf_eq, decide_true, decide_false, eq_self, Bool.false_eq_true, Bool.true_eq_false, not_true_eq_false, not_false_eq_true, jU_eq, jU_ne, jU_U, jV_eq, jV_ne, jV_V, kn_lit, kn_add, kn_mul, kn_sdm, kn_sub, kn_div, kn_nsdm, kn_lt, kn_eq, kn_pred, kn_m1, kn_m1', kn_a31, kn_shl, kn_shr, kn_bit, nB_0, nB_1, nB_t, nB_f, Nat.zero_add, Nat.add_zero, Nat.reduceAdd, Nat.reduceMul, Nat.reduceSub, Nat.reducePow]
  refine jW_bn (m_skipWord hL hJ.1 h0 h4) (fun K hK => ?_)
  obtain ⟨k1, kM⟩ := hK
  have k34 : K 205 34 = nI π.1 := by rw [kM.1 34 (by omega) (by omega) (by omega)]; exact b1
  have fin := hP (jU (jU K 205 (jV (K 205) 34 (nI (π.1 + 1)))) (611 + π.1) (jV (K (611 + π.1)) 0 (nI kd))) (K (611 + π.1)) (jTM_U (jTM_eq k1 (fun f hf => by rw [jU_eq, jV_ne (by omega)]) (jU_ne (by omega))) (by omega)) ⟨by rw [jU_ne (by omega), jU_eq, jV_eq], by rw [jU_ne (by omega), jU_eq, jV_ne (by omega)]; exact kM.1 8 (by omega) (by omega) (by omega), by rw [jU_eq], fun i hi => by rw [jU_ne (by omega), jU_ne (by omega)]; exact kM.2 _ (by omega), fun f x1 x2 x3 x4 x5 => by rw [jU_ne (by omega), jU_eq, jV_ne x5]; exact kM.1 f x1 x2 x3, fun a x1 x2 => by rw [jU_ne (by omega), jU_ne x1]; exact kM.2 a x1⟩
  simp (disch := omega) only [↓dK_205 hL, ↓dG_205 hL, ↓dP_205 hL, ↓dZ_205 hL (x := nI 0) (Or.inl rfl), ↓dZ_205 hL (x := nI 1) (Or.inr rfl), ↓dZ_205 hL (Or.inl rfl), ↓dZ_205 hL (Or.inr rfl), ↓dZ_205 hL (nB_01 _), ↓dR_205_33 hL, dA_610 hL, dI_611 hL, dS_611 hL, kn_lit, k34, jU_eq, jU_ne, jV_ne, kn_add, Nat.reduceAdd]
  exact fin
/-- the reference ends a step -/
theorem m_b181 (hL : jLay t u l m b c h) {kd a b' : Nat} {row : Nat → Int32} (hk : π.1 < 80) (hJ : jPM J tp n o (y, π)) (h0 : y.2.1 = 0) (hR : jRk J K π.1 row) (hT : jTM K tp n z) (hx : z.2.1 = 0 → row 0 = nI kd ∧ (¬ kd = 2 → row 1 = nI a) ∧ (kd = 0 → row 2 = nI b')) : ∃ L, F_Mod_readsStep_b181 R 205 (611 + π.1) (jz_I h K) = some (jz_I h L) ∧ jPM L tp n o (s_nd tp n 59 z, s_psh (s_pv kd a b' (π.1 + 1) o) π) ∧ jPFm J L := by
  refine jE_n (fun P hP => ?_)
  unfold F_Mod_readsStep_b181
  have k34 := hR.1
  simp (disch := omega) only [↓dK_205 hL, ↓dG_205 hL, ↓dP_205 hL, ↓dZ_205 hL (x := nI 0) (Or.inl rfl), ↓dZ_205 hL (x := nI 1) (Or.inr rfl), ↓dZ_205 hL (Or.inl rfl), ↓dZ_205 hL (Or.inr rfl), ↓dZ_205 hL (nB_01 _), ↓dR_205_33 hL, dA_610 hL, dI_611 hL, dS_611 hL, kn_lit, k34]
  have R2 := jRk_set (x := nI (π.1 + 1)) (i := 3) hk hR
  refine jW_bn (m_sign hL (jTM_U hT (by omega)) (ch := 59) (by omega)) (fun M hM => ?_)
  have R3 := jRk_M1 hk R2 hM.2
  refine jW_s (hP M ⟨jRk_done hJ h0 R3 hM.1 (fun e => ?_), R3.2.2.2.2⟩)
  obtain ⟨q1, q2, q3⟩ := hx (s_nd_0 e)
  exact ⟨by rw [jV_ne (by omega)]; exact q1, fun w => by rw [jV_ne (by omega)]; exact q2 w, fun w => by rw [jV_ne (by omega)]; exact q3 w, fun _ => by rw [jV_eq]⟩
def jIn1 (tp : Nat → Nat) (n : Nat) (τ : JTn) (o : Nat) (Rc : Nat → Nat → Nat → Int32 → LH → Option LH) (R : Nat → LH → Option LH) : Prop := ∀ s, jPG τ n s → ∃ s3, (∀ t u l m b c h, jLay t u l m b c h → ∀ J, jCT J t τ → jPC h J tp n s → ∃ K, Rc 67 65 t (nI o) (jz_I h J) = some (jz_I h K) ∧ jPC h K tp n s3 ∧ jPFc J K) ∧ (∀ t u l m b c h, jLay t u l m b c h → ∀ J, jMT J τ → jPM J tp n o s → (s.1.2.1 = 0 → J 205 4 = nI (s_skp c_bl tp n s.1.1)) → ∀ l2 (P : LH → Prop), (∀ K, jPM K tp n o (s_nd tp n 93 s3.1, s3.2) → jPFm J K → jW (jf_gi (jz_I h K) 205 11 8 fun v2 => jf_pi (jz_I h K) 205 11 8 (v2 - (1 : Int32)) fun h3 => F_Mod_readsStep_b181 R 205 l2 h3) P) → jW (F_Mod_readsStep_l134 R jF 205 l2 (jz_I h J)) P) ∧ jPG τ n s3 ∧ jPU o s s3
theorem x_step (ho6 : o ≤ 6) (ho : jTOK τ) (hG : jPG τ n (y, π)) (h0 : y.2.1 = 0) (hIn : o < 6 → jIn1 tp n τ (o + 1) Rc R) : ∃ s1, (∀ t u l m b c h, jLay t u l m b c h → ∀ J, jCT J t τ → jPC h J tp n (y, π) → ∃ K, F_Prog_readStep Rc 67 65 t (nI o) (jz_I h J) = some (jz_I h K) ∧ jPC h K tp n s1 ∧ jPFc J K) ∧ (∀ t u l m b c h, jLay t u l m b c h → ∀ J, jMT J τ → jPM J tp n o (y, π) → ∃ K, E_Mod_readsStep R 205 (jz_I h J) = some (jz_I h K) ∧ jPM K tp n o (s_nd tp n 59 s1.1, s1.2) ∧ jPFm J K) ∧ jPG τ n (s_nd tp n 59 s1.1, s1.2) ∧ jPU o (y, π) (s_nd tp n 59 s1.1, s1.2) ∧ ((s_nd tp n 59 s1.1).2.1 = 0 → π.1 + 1 ≤ s1.2.1) := by
  have hy : jTy n y := hG.1
  have hn : n ≤ 150 := hG.2.1
  have hkk : 3 * π.1 ≤ y.1 := (hG.2.2 h0).1
  have hyn := hy.1
  have o0 : τ 0 0 ≤ 9 := ho.1
  have o1 : τ 0 1 ≤ 6 := ho.2.1
  have hk : π.1 < 80 := by omega
  have hwy := s_wd_y (tp := tp) hy
  have hnx := (s_nx_y (tp := tp) hy).1
  have w0 : (s_wd tp n y).2.1 = 0 := by rw [s_wd_2]; exact h0
  have enx : s_nx tp n y = (s_skp c_bl tp n y.1, y.2) := if_pos h0
  have hsk := (s_skp_ge (c := c_bl) (tp := tp) hyn).2
  -- the reference, up to the kind
  have mB : ∀ t u l m b c h, jLay t u l m b c h → ∀ J, jPM J tp n o (y, π) → ∀ P : LH → Prop, (∀ K, jPM K tp n o (y, π) → K 205 4 = nI (s_skp c_bl tp n y.1) → jPFm J K → jW (if nO (s_stp tp n y) = -nI 1 then (jf_gi (jz_I h K) 205 11 4 fun v3 => jf_kd (jz_I h K) 205 11 ((F_Mod_wrong 205 (1 : Int32) v3 (jz_I h K)).bind fun h4 => F_Mod_readsStep_b19 R 205 (nO (s_stp tp n y)) h4)) else F_Mod_readsStep_b19 R 205 (nO (s_stp tp n y)) (jz_I h K)) P) → jW (E_Mod_readsStep R 205 (jz_I h J)) P := by
    intro t u l m b c h hL J hJ P hP
    unfold E_Mod_readsStep
    rw [dK_205 hL]
    refine jW_bi (m_stepHere hL hJ.1) (fun K hK => ?_)
    exact hP K (jPM_M1 hJ hK.1 hK.2.2 (fun e => e)) (hK.2.1 h0) (jPFm_M1 hK.2.2)
  cases hs : s_stp tp n y with
  | none =>
    have hf : ¬ (s_fa 1 (s_nx tp n y).1 (s_wd tp n y)).2.1 = 0 := s_fa_0 (by omega)
    have efa : s_fa 1 (s_nx tp n y).1 (s_wd tp n y) = ((s_wd tp n y).1, 1, s_skp c_bl tp n y.1) := by rw [enx]; exact if_pos w0
    have end9 : s_nd tp n 59 (s_fa 1 (s_nx tp n y).1 (s_wd tp n y)) = s_fa 1 (s_nx tp n y).1 (s_wd tp n y) := s_nd_no hf
    refine ⟨(s_fa 1 (s_nx tp n y).1 (s_wd tp n y), π), fun t u l m b c h hL J hT hJ => jE_n (fun P hP => ?_), fun t u l m b c h hL J hT hJ => jE_n (fun P hP => ?_), ?_, ?_, fun e => absurd (s_nd_0 e) hf⟩
    · refine c_stW hL hy hJ (fun K k1 k6 kF => ?_)
      rw [hs]
      refine jW_bn (c_fail hL k1.2.1 (k := 1) (by omega) (by omega) hnx k6) (fun M hM => ?_)
      exact jW_s (hP M ⟨jPC_T1 k1 hM.1 hM.2.2 (fun e => absurd e (s_fa_0 (by omega))), jPFc_trans kF (jPFc_T1 hM.2.2)⟩)
    · refine mB t u l m b c h hL J hJ _ (fun K k1 k4 kF => ?_)
      rw [hs, nO_none, if_pos rfl]
      simp (disch := omega) only [↓dK_205 hL, ↓dG_205 hL, ↓dP_205 hL, ↓dZ_205 hL (x := nI 0) (Or.inl rfl), ↓dZ_205 hL (x := nI 1) (Or.inr rfl), ↓dZ_205 hL (Or.inl rfl), ↓dZ_205 hL (Or.inr rfl), ↓dZ_205 hL (nB_01 _), k4, kn_lit]
      refine jW_bn (m_wrong hL k1.1 (show 1 ≤ 1 by omega) (by omega) hsk) (fun M hM => ?_)
      obtain ⟨m1, -, mM⟩ := hM
      rw [show s_fa 1 (s_skp c_bl tp n y.1) (y, π).1 = (y.1, 1, s_skp c_bl tp n y.1) from if_pos h0] at m1
      have m5 : M 205 5 = nI 1 := m1.2.2.1.1
      unfold F_Mod_readsStep_b19
      rw [if_neg (show ¬ -nI 1 = (3 : Int32) by decide)]
      unfold F_Mod_readsStep_b32
      simp (disch := omega) only [m5, ↓dK_205 hL, ↓dG_205 hL, ↓dP_205 hL, ↓dZ_205 hL (x := nI 0) (Or.inl rfl), ↓dZ_205 hL (x := nI 1) (Or.inr rfl), ↓dZ_205 hL (Or.inl rfl), ↓dZ_205 hL (Or.inr rfl), ↓dZ_205 hL (nB_01 _), ↓reduceIte, ↓kq_bi, ↓kq_let, ↓kq_rz0, ↓kq_rz1, ↓kq_rzB, ↓Option.bind_some, kq_dvn, kt_lt, kf_lt, kt_eq, kf_eq, decide_true, decide_false, eq_self, Bool.false_eq_true, Bool.true_eq_false, not_true_eq_false, not_false_eq_true, jU_eq, jU_ne, jU_U, jV_eq, jV_ne, jV_V, kn_lit, kn_add, kn_mul, kn_sdm, kn_sub, kn_div, kn_nsdm, kn_lt, kn_eq, kn_pred, kn_m1, kn_m1', kn_a31, kn_shl, kn_shr, kn_bit, nB_0, nB_1, nB_t, nB_f, Nat.zero_add, Nat.add_zero, Nat.reduceAdd, Nat.reduceMul, Nat.reduceSub, Nat.reducePow]
      refine jW_s (hP M ⟨?_, jPFm_trans kF (jPFm_M1 mM)⟩)
      show jPM M tp n o (s_nd tp n 59 (s_fa 1 (s_nx tp n y).1 (s_wd tp n y)), π)
      rw [end9, efa]
      exact jPM_fl m1 (by omega) hwy.1
    · show jPG τ n (s_nd tp n 59 (s_fa 1 (s_nx tp n y).1 (s_wd tp n y)), π)
      rw [end9]
      exact jPG_0 (s_fa_y hwy (by omega) hnx) hn hf
    · show jPU o (y, π) (s_nd tp n 59 (s_fa 1 (s_nx tp n y).1 (s_wd tp n y)), π)
      rw [end9]
      exact jPU_0 hf
  | some j =>
    obtain ⟨hj, -⟩ := s_stp_lt hs
    have hge := s_stp_ge hy hs
    have mK : ∀ {kd : Nat}, nO (some kd) = nI kd := fun {kd} => rfl
    rcases (show j = 0 ∨ j = 1 ∨ j = 2 ∨ j = 3 by omega) with rfl | rfl | rfl | rfl
    · -- log
      have hy1 := s_num_y (tp := tp) (lo := 0) (hi := τ 0 0) hwy
      have hy2 := s_num_y (tp := tp) (lo := 0) (hi := τ 0 1) hy1
      have hx9 : (s_nd tp n 59 (s_num tp n 0 (τ 0 1) (s_num tp n 0 (τ 0 0) (s_wd tp n y)))).2.1 = 0 → y.1 + 3 ≤ (s_nd tp n 59 (s_num tp n 0 (τ 0 1) (s_num tp n 0 (τ 0 0) (s_wd tp n y)))).1 ∧ s_nuv tp n (s_wd tp n y) < τ 0 0 ∧ s_nuv tp n (s_num tp n 0 (τ 0 0) (s_wd tp n y)) < τ 0 1 := fun e => by
        have e2 := s_nd_ge hy2 e
        have e3 := s_num_ge hy1 (s_nd_0 e)
        have e4 := s_num_ok (s_nd_0 e)
        have e5 := s_num_ge hwy e4.1
        have e6 := s_num_ok e4.1
        omega
      refine ⟨(s_num tp n 0 (τ 0 1) (s_num tp n 0 (τ 0 0) (s_wd tp n y)), s_psh (s_pv 0 (s_nuv tp n (s_wd tp n y)) (s_nuv tp n (s_num tp n 0 (τ 0 0) (s_wd tp n y))) (π.1 + 1) o) π), fun t u l m b c h hL J hT hJ => jE_n (fun P hP => ?_), fun t u l m b c h hL J hT hJ => jE_n (fun P hP => ?_), jPG_psh hG h0 (s_nd_y hy2) (fun e => ⟨(hx9 e).1, fun _ => ⟨rfl, by omega, ho6, fun _ => (hx9 e).2.1, fun _ => (hx9 e).2.2⟩⟩), jPU_psh h0 (fun e => (hx9 e).1), fun _ => Nat.le_refl _⟩
      · have ht := jLay_t hL
        refine c_stW hL hy hJ (fun K k1 k6 kF => ?_)
        rw [hs]
        have t0 : K t 0 = nI (τ 0 0) := by rw [kF.2 t (by omega) (by omega) (by omega)]; exact hT.1
        simp (disch := omega) only [↓dR_64_0 hL, ↓dK_65 hL, ↓dG_65 hL, ↓dP_65 hL, ↓dG_T hL ht, t0, kn_lit]
        refine jW_bi (c_number hL k1.2.1 (lo := 0) (hi := τ 0 0) (by omega) (hH_pred (by omega))) (fun M hM => ?_)
        obtain ⟨m1, -, mT⟩ := hM
        have M1 := jPC_T1 k1 m1 mT (fun e => (s_num_ok e).1)
        have t1 : M t 1 = nI (τ 0 1) := by rw [mT.2 t (by omega), kF.2 t (by omega) (by omega) (by omega)]; exact hT.2.1
        simp (disch := omega) only [↓dR_64_0 hL, ↓dK_65 hL, ↓dG_65 hL, ↓dP_65 hL, ↓dG_T hL ht, t1, kn_lit]
        refine jW_bi (c_number hL m1 (lo := 0) (hi := τ 0 1) (by omega) (hH_pred (by omega))) (fun M2 hM2 => ?_)
        obtain ⟨n1, -, nT⟩ := hM2
        have M3 := jPC_T1 M1 n1 nT (fun e => (s_num_ok e).1)
        simp (disch := omega) only [↓dR_64_1 hL, ↓dK_67 hL, ↓dG_67 hL, ↓dP_67 hL, kn_lit]
        refine jW_bn (c_pput hL M3 (kd := 0) (a := s_nuv tp n (s_wd tp n y)) (b' := s_nuv tp n (s_num tp n 0 (τ 0 0) (s_wd tp n y))) (x3' := π.1 + 1) (o' := o) (fun e => ⟨by show π.1 < 150; omega, rfl, fun _ => rfl, fun _ => rfl, fun w => by omega⟩)) (fun M4 hM4 => ?_)
        exact jW_s (hP M4 ⟨hM4.1, jPFc_trans kF (jPFc_trans (jPFc_T1 mT) (jPFc_trans (jPFc_T1 nT) hM4.2))⟩)
      · refine mB t u l m b c h hL J hJ _ (fun K k1 k4 kF => ?_)
        rw [hs, mK, if_neg (show ¬ nI 0 = -nI 1 by decide)]
        unfold F_Mod_readsStep_b19
        rw [if_neg (show ¬ nI 0 = (3 : Int32) by decide)]
        refine m_b32 hL (by omega) k1 h0 k4 hk (fun K2 r0 a1 a2 => ?_)
        have T0 : K2 209 0 = nI (τ 0 0) := by rw [a2.2.2.2.2.2 209 (by omega) (by omega), kF.2 209 (by omega) (by omega)]; exact hT.1 0 (by omega)
        rw [if_pos (show 0 < 2 by decide)]
        simp (disch := omega) only [↓dK_205 hL, ↓dG_205 hL, ↓dP_205 hL, ↓dZ_205 hL (x := nI 0) (Or.inl rfl), ↓dZ_205 hL (x := nI 1) (Or.inr rfl), ↓dZ_205 hL (Or.inl rfl), ↓dZ_205 hL (Or.inr rfl), ↓dZ_205 hL (nB_01 _), ↓dR_205_12 hL, dI_209 hL, dS_209 hL, T0]
        refine jW_bi (m_number hL a1 (lo := 0) (hi := τ 0 0) (by omega) (hH_pred (by omega))) (fun K3 hK3 => ?_)
        have R3 := jRk_M1 hk a2 hK3.2
        have R4 := jRk_set (x := nI (s_nur tp n 0 (τ 0 0) (s_wd tp n y))) (i := 1) hk R3
        have T4 := jTM_U hK3.1 (a := 611 + π.1) (by omega) (f := jV (K3 (611 + π.1)) 1 (nI (s_nur tp n 0 (τ 0 0) (s_wd tp n y))))
        simp (disch := omega) only [↓dK_205 hL, ↓dG_205 hL, ↓dP_205 hL, ↓dZ_205 hL (x := nI 0) (Or.inl rfl), ↓dZ_205 hL (x := nI 1) (Or.inr rfl), ↓dZ_205 hL (Or.inl rfl), ↓dZ_205 hL (Or.inr rfl), ↓dZ_205 hL (nB_01 _), ↓dR_205_33 hL, dA_610 hL, dI_611 hL, dS_611 hL]
        generalize jU K3 (611 + π.1) (jV (K3 (611 + π.1)) 1 (nI (s_nur tp n 0 (τ 0 0) (s_wd tp n y)))) = K4 at R4 T4
        unfold F_Mod_readsStep_b89
        rw [if_pos (show nI 0 = (0 : Int32) from rfl)]
        have T1 : K4 209 1 = nI (τ 0 1) := by rw [R4.2.2.2.2.2 209 (by omega) (by omega), kF.2 209 (by omega) (by omega)]; exact hT.1 1 (by omega)
        simp (disch := omega) only [↓dK_205 hL, ↓dG_205 hL, ↓dP_205 hL, ↓dZ_205 hL (x := nI 0) (Or.inl rfl), ↓dZ_205 hL (x := nI 1) (Or.inr rfl), ↓dZ_205 hL (Or.inl rfl), ↓dZ_205 hL (Or.inr rfl), ↓dZ_205 hL (nB_01 _), ↓dR_205_12 hL, dI_209 hL, dS_209 hL, T1, kn_lit]
        refine jW_bi (m_number hL T4 (lo := 0) (hi := τ 0 1) (by omega) (hH_pred (by omega))) (fun K5 hK5 => ?_)
        have R5 := jRk_M1 hk R4 hK5.2
        have R6 := jRk_set (x := nI (s_nur tp n 0 (τ 0 1) (s_num tp n 0 (τ 0 0) (s_wd tp n y)))) (i := 2) hk R5
        have T6 := jTM_U hK5.1 (a := 611 + π.1) (by omega) (f := jV (K5 (611 + π.1)) 2 (nI (s_nur tp n 0 (τ 0 1) (s_num tp n 0 (τ 0 0) (s_wd tp n y)))))
        simp (disch := omega) only [↓dK_205 hL, ↓dG_205 hL, ↓dP_205 hL, ↓dZ_205 hL (x := nI 0) (Or.inl rfl), ↓dZ_205 hL (x := nI 1) (Or.inr rfl), ↓dZ_205 hL (Or.inl rfl), ↓dZ_205 hL (Or.inr rfl), ↓dZ_205 hL (nB_01 _), ↓dR_205_33 hL, dA_610 hL, dI_611 hL, dS_611 hL]
        generalize jU K5 (611 + π.1) (jV (K5 (611 + π.1)) 2 (nI (s_nur tp n 0 (τ 0 1) (s_num tp n 0 (τ 0 0) (s_wd tp n y))))) = K6 at R6 T6
        unfold F_Mod_readsStep_b109
        rw [if_neg (show ¬ nI 0 = (3 : Int32) by decide)]
        obtain ⟨K7, e7, k7, kF7⟩ := m_b181 (R := R) hL (kd := 0) (a := s_nuv tp n (s_wd tp n y)) (b' := s_nuv tp n (s_num tp n 0 (τ 0 0) (s_wd tp n y))) hk k1 h0 R6 T6 (fun e => by
          have e4 := s_num_ok e
          refine ⟨by rw [jV_ne (by omega), jV_ne (by omega), jV_eq], fun _ => ?_, fun _ => ?_⟩
          · rw [jV_ne (by omega), jV_eq]; unfold s_nur; rw [if_pos e4.1]
          · rw [jV_eq]; unfold s_nur; rw [if_pos e])
        exact jW_e e7 (hP K7 ⟨k7, jPFm_trans kF kF7⟩)
    · -- douse
      have hy1 := s_num_y (tp := tp) (lo := 0) (hi := τ 0 0) hwy
      have hx9 : (s_nd tp n 59 (s_num tp n 0 (τ 0 0) (s_wd tp n y))).2.1 = 0 → y.1 + 3 ≤ (s_nd tp n 59 (s_num tp n 0 (τ 0 0) (s_wd tp n y))).1 ∧ s_nuv tp n (s_wd tp n y) < τ 0 0 := fun e => by
        have e2 := s_nd_ge hy1 e
        have e5 := s_num_ge hwy (s_nd_0 e)
        have e6 := s_num_ok (s_nd_0 e)
        omega
      refine ⟨(s_num tp n 0 (τ 0 0) (s_wd tp n y), s_psh (s_pv 1 (s_nuv tp n (s_wd tp n y)) 0 (π.1 + 1) o) π), fun t u l m b c h hL J hT hJ => jE_n (fun P hP => ?_), fun t u l m b c h hL J hT hJ => jE_n (fun P hP => ?_), jPG_psh hG h0 (s_nd_y hy1) (fun e => ⟨(hx9 e).1, fun _ => ⟨rfl, by omega, ho6, fun _ => (hx9 e).2, fun w => by omega⟩⟩), jPU_psh h0 (fun e => (hx9 e).1), fun _ => Nat.le_refl _⟩
      · have ht := jLay_t hL
        refine c_stW hL hy hJ (fun K k1 k6 kF => ?_)
        rw [hs]
        have t0 : K t 0 = nI (τ 0 0) := by rw [kF.2 t (by omega) (by omega) (by omega)]; exact hT.1
        simp (disch := omega) only [↓dR_64_0 hL, ↓dK_65 hL, ↓dG_65 hL, ↓dP_65 hL, ↓dG_T hL ht, t0, kn_lit]
        refine jW_bi (c_number hL k1.2.1 (lo := 0) (hi := τ 0 0) (by omega) (hH_pred (by omega))) (fun M hM => ?_)
        obtain ⟨m1, -, mT⟩ := hM
        have M1 := jPC_T1 k1 m1 mT (fun e => (s_num_ok e).1)
        simp (disch := omega) only [↓dR_64_1 hL, ↓dK_67 hL, ↓dG_67 hL, ↓dP_67 hL, kn_lit]
        refine jW_bn (c_pput hL M1 (kd := 1) (a := s_nuv tp n (s_wd tp n y)) (b' := 0) (x3' := π.1 + 1) (o' := o) (fun e => ⟨by show π.1 < 150; omega, rfl, fun _ => rfl, fun w => by omega, fun w => by omega⟩)) (fun M4 hM4 => ?_)
        exact jW_s (hP M4 ⟨hM4.1, jPFc_trans kF (jPFc_trans (jPFc_T1 mT) hM4.2)⟩)
      · refine mB t u l m b c h hL J hJ _ (fun K k1 k4 kF => ?_)
        rw [hs, mK, if_neg (show ¬ nI 1 = -nI 1 by decide)]
        unfold F_Mod_readsStep_b19
        rw [if_neg (show ¬ nI 1 = (3 : Int32) by decide)]
        refine m_b32 hL (by omega) k1 h0 k4 hk (fun K2 r0 a1 a2 => ?_)
        have T0 : K2 209 0 = nI (τ 0 0) := by rw [a2.2.2.2.2.2 209 (by omega) (by omega), kF.2 209 (by omega) (by omega)]; exact hT.1 0 (by omega)
        rw [if_pos (show 1 < 2 by decide)]
        simp (disch := omega) only [↓dK_205 hL, ↓dG_205 hL, ↓dP_205 hL, ↓dZ_205 hL (x := nI 0) (Or.inl rfl), ↓dZ_205 hL (x := nI 1) (Or.inr rfl), ↓dZ_205 hL (Or.inl rfl), ↓dZ_205 hL (Or.inr rfl), ↓dZ_205 hL (nB_01 _), ↓dR_205_12 hL, dI_209 hL, dS_209 hL, T0]
        refine jW_bi (m_number hL a1 (lo := 0) (hi := τ 0 0) (by omega) (hH_pred (by omega))) (fun K3 hK3 => ?_)
        have R3 := jRk_M1 hk a2 hK3.2
        have R4 := jRk_set (x := nI (s_nur tp n 0 (τ 0 0) (s_wd tp n y))) (i := 1) hk R3
        have T4 := jTM_U hK3.1 (a := 611 + π.1) (by omega) (f := jV (K3 (611 + π.1)) 1 (nI (s_nur tp n 0 (τ 0 0) (s_wd tp n y))))
        simp (disch := omega) only [↓dK_205 hL, ↓dG_205 hL, ↓dP_205 hL, ↓dZ_205 hL (x := nI 0) (Or.inl rfl), ↓dZ_205 hL (x := nI 1) (Or.inr rfl), ↓dZ_205 hL (Or.inl rfl), ↓dZ_205 hL (Or.inr rfl), ↓dZ_205 hL (nB_01 _), ↓dR_205_33 hL, dA_610 hL, dI_611 hL, dS_611 hL]
        generalize jU K3 (611 + π.1) (jV (K3 (611 + π.1)) 1 (nI (s_nur tp n 0 (τ 0 0) (s_wd tp n y)))) = K4 at R4 T4
        unfold F_Mod_readsStep_b89
        rw [if_neg (show ¬ nI 1 = (0 : Int32) by decide)]
        unfold F_Mod_readsStep_b109
        rw [if_neg (show ¬ nI 1 = (3 : Int32) by decide)]
        obtain ⟨K7, e7, k7, kF7⟩ := m_b181 (R := R) hL (kd := 1) (a := s_nuv tp n (s_wd tp n y)) (b' := 0) hk k1 h0 R4 T4 (fun e => by
          refine ⟨by rw [jV_ne (by omega), jV_eq], fun _ => ?_, fun w => by omega⟩
          rw [jV_eq]; unfold s_nur; rw [if_pos e])
        exact jW_e e7 (hP K7 ⟨k7, jPFm_trans kF kF7⟩)
    · -- hour
      have hx9 : (s_nd tp n 59 (s_wd tp n y)).2.1 = 0 → y.1 + 3 ≤ (s_nd tp n 59 (s_wd tp n y)).1 := fun e => by
        have e2 := s_nd_ge hwy e
        omega
      refine ⟨(s_wd tp n y, s_psh (s_pv 2 0 0 (π.1 + 1) o) π), fun t u l m b c h hL J hT hJ => jE_n (fun P hP => ?_), fun t u l m b c h hL J hT hJ => jE_n (fun P hP => ?_), jPG_psh hG h0 (s_nd_y hwy) (fun e => ⟨hx9 e, fun _ => ⟨rfl, by omega, ho6, fun w => by omega, fun w => by omega⟩⟩), jPU_psh h0 hx9, fun _ => Nat.le_refl _⟩
      · refine c_stW hL hy hJ (fun K k1 k6 kF => ?_)
        rw [hs]
        simp (disch := omega) only [kn_lit]
        refine jW_bn (c_pput hL k1 (kd := 2) (a := 0) (b' := 0) (x3' := π.1 + 1) (o' := o) (fun e => ⟨by show π.1 < 150; omega, rfl, fun w => absurd rfl w, fun w => by omega, fun w => by omega⟩)) (fun M4 hM4 => ?_)
        exact jW_s (hP M4 ⟨hM4.1, jPFc_trans kF hM4.2⟩)
      · refine mB t u l m b c h hL J hJ _ (fun K k1 k4 kF => ?_)
        rw [hs, mK, if_neg (show ¬ nI 2 = -nI 1 by decide)]
        unfold F_Mod_readsStep_b19
        rw [if_neg (show ¬ nI 2 = (3 : Int32) by decide)]
        refine m_b32 hL (by omega) k1 h0 k4 hk (fun K2 r0 a1 a2 => ?_)
        rw [if_neg (show ¬ 2 < 2 by decide)]
        unfold F_Mod_readsStep_b89
        rw [if_neg (show ¬ nI 2 = (0 : Int32) by decide)]
        unfold F_Mod_readsStep_b109
        rw [if_neg (show ¬ nI 2 = (3 : Int32) by decide)]
        obtain ⟨K7, e7, k7, kF7⟩ := m_b181 (R := R) hL (kd := 2) (a := 0) (b' := 0) hk k1 h0 a2 a1 (fun e => ⟨by rw [jV_eq], fun w => absurd rfl w, fun w => by omega⟩)
        exact jW_e e7 (hP K7 ⟨k7, jPFm_trans kF kF7⟩)
    · -- again
      by_cases hlt : o < 6
      · have hy1 := s_num_y (tp := tp) (lo := 0) (hi := 31) hwy
        have hGp : jPG τ n (s_nd tp n 91 (s_num tp n 0 31 (s_wd tp n y)), s_psh (s_pv 3 (s_nuv tp n (s_wd tp n y)) 0 0 o) π) := jPG_psh hG h0 (s_nd_y hy1) (fun e => ⟨by
          have e2 := s_nd_ge hy1 e
          have e5 := s_num_ge hwy (s_nd_0 e)
          omega, fun w => absurd rfl w⟩)
        obtain ⟨s3, simC, simM, g3, u3⟩ := hIn hlt _ hGp
        have hy3 : jTy n s3.1 := g3.1
        have fx : (s_nd tp n 93 s3.1).2.1 = 0 → π.1 + 1 ≤ s3.2.1 ∧ 3 * s3.2.1 + y.1 ≤ s3.1.1 + 3 * π.1 ∧ y.1 ≤ s3.1.1 ∧ s_nuv tp n (s_wd tp n y) ≤ 30 ∧ (∀ i j, i < π.1 → s3.2.2 i j = π.2 i j) ∧ (∀ j, s3.2.2 π.1 j = s_pv 3 (s_nuv tp n (s_wd tp n y)) 0 0 o j) ∧ ∀ i, π.1 + 1 ≤ i → i < s3.2.1 → ¬ s3.2.2 i 3 = 0 ∧ o + 1 ≤ s3.2.2 i 4 := fun e => by
          obtain ⟨b1, b2, b3, b4, b5, b6⟩ := u3 (s_nd_0 e)
          have e2 := s_nd_ge hy1 b1
          have e5 := s_num_ge hwy (s_nd_0 b1)
          have e6 := s_num_ok (s_nd_0 b1)
          have b2 : π.1 + 1 ≤ s3.2.1 := b2
          have b3 : 3 * s3.2.1 + (s_nd tp n 91 (s_num tp n 0 31 (s_wd tp n y))).1 ≤ s3.1.1 + 3 * (π.1 + 1) := b3
          have b4 : (s_nd tp n 91 (s_num tp n 0 31 (s_wd tp n y))).1 ≤ s3.1.1 := b4
          have b5 : ∀ i j, i < π.1 + 1 → s3.2.2 i j = (s_psh (s_pv 3 (s_nuv tp n (s_wd tp n y)) 0 0 o) π).2 i j := b5
          exact ⟨b2, by omega, by omega, by omega, fun i j hi => by rw [b5 i j (by omega), s_psh_ne (by omega)], fun j => by rw [b5 π.1 j (by omega), s_psh_eq], b6⟩
        refine ⟨(s_nd tp n 93 s3.1, s_sn π.1 s3.2.1 s3.2), fun t u l m b c h hL J hT hJ => jE_n (fun P hP => ?_), fun t u l m b c h hL J hT hJ => jE_n (fun P hP => ?_), ⟨s_nd_y (s_nd_y hy3), hn, fun e => ?_⟩, fun e => ?_, fun e => (fx (s_nd_0 e)).1⟩
        · have ht := jLay_t hL
          refine c_stW hL hy hJ (fun K k1 k6 kF => ?_)
          rw [hs]
          refine jW_bn (h := h) (R := fun M => jPC h M tp n (s_nd tp n 93 s3.1, s_sn π.1 s3.2.1 s3.2) ∧ jPFc K M) ?_ (fun M hM => jW_s (hP M ⟨hM.1, jPFc_trans kF hM.2⟩))
          refine jE_n (fun P2 hP2 => ?_)
          have k1' := k1
          obtain ⟨-, -, k0, -, k02, k03⟩ := k1'
          have k03 : k0 = π.1 := (k03 w0).1
          rw [k03] at k02
          unfold F_Prog_readAgain
          simp (disch := omega) only [k02, ↓dR_64_1 hL, ↓dK_67 hL, ↓dG_67 hL, ↓dP_67 hL, ↓dR_64_0 hL, ↓dK_65 hL, ↓dG_65 hL, ↓dP_65 hL, ↓reduceIte, ↓kq_bi, ↓kq_let, ↓kq_rz0, ↓kq_rz1, ↓kq_rzB, ↓Option.bind_some, kq_dvn, kt_lt, kf_lt, kt_eq, kf_eq, decide_true, decide_false, eq_self, Bool.false_eq_true, Bool.true_eq_false, not_true_eq_false, not_false_eq_true, jU_eq, jU_ne, jU_U, jV_eq, jV_ne, jV_V, kn_lit, kn_add, kn_mul, kn_sdm, kn_sub, kn_div, kn_nsdm, kn_lt, kn_eq, kn_pred, kn_m1, kn_m1', kn_a31, kn_shl, kn_shr, kn_bit, nB_0, nB_1, nB_t, nB_f, Nat.zero_add, Nat.add_zero, Nat.reduceAdd, Nat.reduceMul, Nat.reduceSub, Nat.reducePow]
          refine jW_bi (c_number hL k1.2.1 (lo := 0) (hi := 31) (by omega) (hH_lit (a := 30) (by omega))) (fun M hM => ?_)
          obtain ⟨m1, -, mT⟩ := hM
          have M1 := jPC_T1 k1 m1 mT (fun e => (s_num_ok e).1)
          simp (disch := omega) only [↓dR_64_1 hL, ↓dK_67 hL, ↓dG_67 hL, ↓dP_67 hL, kn_lit]
          refine jW_bn (c_pput hL M1 (kd := 3) (a := s_nuv tp n (s_wd tp n y)) (b' := 0) (x3' := 0) (o' := o) (fun e => ⟨by show π.1 < 150; omega, rfl, fun _ => rfl, fun w => by omega, fun _ => rfl⟩)) (fun M2 hM2 => ?_)
          simp (disch := omega) only [↓dR_64_0 hL, ↓dK_65 hL, ↓dG_65 hL, ↓dP_65 hL, kn_lit]
          refine jW_bn (c_need hL hM2.1.2.1 (ch := 91) (by omega)) (fun M3 hM3 => ?_)
          have P3 := jPC_T1 hM2.1 hM3.1 hM3.2 (fun e => s_nd_0 e)
          have F3 := jPFc_trans (jPFc_T1 mT) (jPFc_trans hM2.2 (jPFc_T1 hM3.2))
          have T3 : jCT M3 t τ := jCT_congr (fun i hi => by rw [F3.2 _ (by omega) (by omega) (by omega)]; exact kF.2 _ (by omega) (by omega) (by omega)) hT
          simp (disch := omega) only [↓dR_64_1 hL, ↓dK_67 hL, ↓dG_67 hL, ↓dP_67 hL, kn_lit, kn_add]
          refine jW_bn (simC t u l m b c h hL M3 T3 P3) (fun M4 hM4 => ?_)
          simp (disch := omega) only [↓dR_64_0 hL, ↓dK_65 hL, ↓dG_65 hL, ↓dP_65 hL, kn_lit]
          refine jW_bn (c_need hL hM4.1.2.1 (ch := 93) (by omega)) (fun M5 hM5 => ?_)
          have P5 := jPC_T1 hM4.1 hM5.1 hM5.2 (fun e => s_nd_0 e)
          have hset := c_setn hL (k0 := π.1) (i := π.1) P5 (by omega) (fun e => ⟨rfl, by have := (fx e).1; show π.1 < s3.2.1; omega, by have := (fx e).2.2.2.2.2.1 0; show s3.2.2 π.1 0 = 3; rw [this]; rfl⟩)
          have nlt : ¬ 450 < 3 * π.1 + 3 := by omega
          simp (disch := omega) only [↓dR_64_1 hL, ↓dK_67 hL, ↓dG_67 hL, ↓dP_67 hL, ↓dR_67_0 hL, dI_68 hL, dS_68 hL, dL_68 hL, kn_lit, kn_add, kn_lt, nlt, ↓reduceIte]
          exact jW_s (hP2 _ ⟨hset.1, jPFc_trans F3 (jPFc_trans hM4.2 (jPFc_trans (jPFc_T1 hM5.2) hset.2))⟩)
        · refine mB t u l m b c h hL J hJ _ (fun K k1 k4 kF => ?_)
          rw [hs, mK, if_neg (show ¬ nI 3 = -nI 1 by decide)]
          unfold F_Mod_readsStep_b19
          rw [if_pos (show nI 3 = (3 : Int32) from rfl), dK_205 hL]
          refine jW_bi (m_popens hL k1 h0 hlt) (fun K2 hK2 => ?_)
          obtain ⟨q1, q4, qF⟩ := hK2
          rw [if_neg (show ¬ nB true = (0 : Int32) by decide)]
          refine m_b32 hL (by omega) q1 h0 (q4.trans k4) hk (fun K3 r0 a1 a2 => ?_)
          rw [if_neg (show ¬ 3 < 2 by decide)]
          unfold F_Mod_readsStep_b89
          rw [if_neg (show ¬ nI 3 = (0 : Int32) by decide)]
          unfold F_Mod_readsStep_b109
          rw [if_pos (show nI 3 = (3 : Int32) from rfl), dK_205 hL]
          refine jW_bi (m_number hL a1 (lo := 0) (hi := 31) (by omega) (hH_lit (a := 30) (by omega))) (fun K4 hK4 => ?_)
          have R4 := jRk_set (x := nI (s_nur tp n 0 31 (s_wd tp n y))) (i := 1) hk (jRk_M1 hk a2 hK4.2)
          have T4 := jTM_U hK4.1 (a := 611 + π.1) (by omega) (f := jV (K4 (611 + π.1)) 1 (nI (s_nur tp n 0 31 (s_wd tp n y))))
          simp (disch := omega) only [↓dK_205 hL, ↓dG_205 hL, ↓dP_205 hL, ↓dZ_205 hL (x := nI 0) (Or.inl rfl), ↓dZ_205 hL (x := nI 1) (Or.inr rfl), ↓dZ_205 hL (Or.inl rfl), ↓dZ_205 hL (Or.inr rfl), ↓dZ_205 hL (nB_01 _), ↓dR_205_33 hL, dA_610 hL, dI_611 hL, dS_611 hL, kn_lit]
          generalize jU K4 (611 + π.1) (jV (K4 (611 + π.1)) 1 (nI (s_nur tp n 0 31 (s_wd tp n y)))) = K5 at R4 T4
          refine jW_bn (m_sign hL T4 (ch := 91) (by omega)) (fun K6 hK6 => ?_)
          rw [dK_205 hL]
          refine jW_bn (m_bl2 hL hK6.1) (fun K7 hK7 => ?_)
          obtain ⟨w1, w4, wM⟩ := hK7
          have R7 := jRk_M1 hk (jRk_M1 hk R4 hK6.2) wM
          have P7 : jPM K7 tp n (o + 1) (s_nd tp n 91 (s_num tp n 0 31 (s_wd tp n y)), s_psh (s_pv 3 (s_nuv tp n (s_wd tp n y)) 0 0 o) π) := jRk_done q1 h0 R7 w1 (fun e => ⟨by rw [jV_ne (by omega), jV_eq], fun _ => by rw [jV_eq]; unfold s_nur; rw [if_pos (s_nd_0 e)], fun w => by omega, fun w => absurd rfl w⟩)
          have F7 : jPFm K K7 := jPFm_trans qF R7.2.2.2.2
          have T7 : jMT K7 τ := jMT_congr (fun a x1 x2 => by rw [F7.2 a (by omega) (by omega)]; exact kF.2 a (by omega) (by omega)) ho hT
          refine simM t u l m b c h hL K7 T7 P7 w4 (611 + π.1) P (fun K8 k8 kF8 => ?_)
          obtain ⟨z1, z2⟩ := jPM_close k8
          simp (disch := omega) only [↓dK_205 hL, ↓dG_205 hL, ↓dP_205 hL, ↓dZ_205 hL (x := nI 0) (Or.inl rfl), ↓dZ_205 hL (x := nI 1) (Or.inr rfl), ↓dZ_205 hL (Or.inl rfl), ↓dZ_205 hL (Or.inr rfl), ↓dZ_205 hL (nB_01 _), kn_lit]
          generalize jU K8 205 (jV (K8 205) 8 (K8 205 8 - nI 1)) = K9 at z1 z2
          obtain ⟨y9, y10⟩ := m_setn (i := π.1) hk z1
          unfold F_Mod_readsStep_b181
          simp (disch := omega) only [↓dK_205 hL, ↓dG_205 hL, ↓dP_205 hL, ↓dZ_205 hL (x := nI 0) (Or.inl rfl), ↓dZ_205 hL (x := nI 1) (Or.inr rfl), ↓dZ_205 hL (Or.inl rfl), ↓dZ_205 hL (Or.inr rfl), ↓dZ_205 hL (nB_01 _), ↓dR_205_33 hL, dA_610 hL, dI_611 hL, dS_611 hL, kn_lit]
          generalize jU K9 (611 + π.1) (jV (K9 (611 + π.1)) 3 (K9 205 34)) = K10 at y9 y10
          refine jW_bn (m_sign hL y9.1 (ch := 59) (by omega)) (fun K11 hK11 => ?_)
          exact jW_s (hP K11 ⟨jPM_M1 y9 hK11.1 hK11.2 (fun e => s_nd_0 e), jPFm_trans kF (jPFm_trans F7 (jPFm_trans kF8 (jPFm_trans z2 (jPFm_trans y10 (jPFm_M1 hK11.2)))))⟩)
        · obtain ⟨f1, f2, f3, f4, f5, f6, f7⟩ := fx (s_nd_0 e)
          have e1 := s_nd_ge (s_nd_y hy3) e
          have e2 := s_nd_ge hy3 (s_nd_0 e)
          obtain ⟨q1, q2⟩ := g3.2.2 (s_nd_0 (s_nd_0 e))
          refine ⟨by show 3 * s3.2.1 ≤ _; (try dsimp only); omega, fun i hi h3 => ?_⟩
          have hi : i < s3.2.1 := hi
          have h3 : ¬ (s_sn π.1 s3.2.1 s3.2).2 i 3 = 0 := h3
          show jPok τ (s_sn π.1 s3.2.1 s3.2).2 s3.2.1 i
          by_cases z : i = π.1
          · unfold jPok
            rw [z, s_sn_eq, s_sn_j (show ¬ 0 = 3 by omega), s_sn_j (show ¬ 1 = 3 by omega), s_sn_j (show ¬ 2 = 3 by omega), s_sn_j (show ¬ 4 = 3 by omega), f6, f6, f6, f6]
            refine ⟨⟨by omega, fun w => absurd (show s_pv 3 (s_nuv tp n (s_wd tp n y)) 0 0 o 0 = 3 from rfl) w⟩, Nat.le_refl _, by show 3 ≤ 3; omega, ho6, fun w => by have w : 3 < 2 := w; omega, fun w => by have w : 3 = 0 := w; omega, fun _ => ⟨f4, by show o ≤ 5; omega, fun j j1 j2 => ?_⟩⟩
            rw [s_sn_j (show ¬ 4 = 3 by omega)]
            exact (f7 j (by omega) j2).2
          · rw [s_sn_i z] at h3
            have := q2 i hi h3
            unfold jPok at this ⊢
            rw [s_sn_i z, s_sn_i z, s_sn_i z, s_sn_i z, s_sn_i z]
            obtain ⟨a1, a2, a3, a4, a5, a6, a7⟩ := this
            refine ⟨a1, a2, a3, a4, a5, a6, fun w => ?_⟩
            obtain ⟨v1, v2, v3⟩ := a7 w
            exact ⟨v1, v2, fun j j1 j2 => by rw [s_sn_j (show ¬ 4 = 3 by omega)]; exact v3 j j1 j2⟩
        · obtain ⟨f1, f2, f3, f4, f5, f6, f7⟩ := fx (s_nd_0 e)
          have e1 := s_nd_ge (s_nd_y hy3) e
          have e2 := s_nd_ge hy3 (s_nd_0 e)
          refine ⟨h0, by show π.1 ≤ s3.2.1; omega, by show 3 * s3.2.1 + y.1 ≤ _ + 3 * π.1; (try dsimp only); omega, by show y.1 ≤ _; (try dsimp only); omega, fun i j hi => ?_, fun i i1 i2 => ?_⟩
          · have hi : i < π.1 := hi
            show (s_sn π.1 s3.2.1 s3.2).2 i j = π.2 i j
            rw [s_sn_i (by omega)]; exact f5 i j hi
          · have i1 : π.1 ≤ i := i1
            have i2 : i < s3.2.1 := i2
            show ¬ (s_sn π.1 s3.2.1 s3.2).2 i 3 = 0 ∧ o ≤ (s_sn π.1 s3.2.1 s3.2).2 i 4
            by_cases z : i = π.1
            · rw [z, s_sn_eq, s_sn_j (show ¬ 4 = 3 by omega), f6]
              exact ⟨by omega, Nat.le_refl o⟩
            · rw [s_sn_i z, s_sn_i z]
              have := f7 i (by omega) i2
              exact ⟨this.1, by omega⟩
      · have e6 : o = 6 := by omega
        subst e6
        have hf : ¬ (s_fa 3 (s_nx tp n y).1 (s_wd tp n y)).2.1 = 0 := s_fa_0 (by omega)
        have efa : s_fa 3 (s_nx tp n y).1 (s_wd tp n y) = ((s_wd tp n y).1, 3, s_skp c_bl tp n y.1) := by rw [enx]; exact if_pos w0
        have end9 : s_nd tp n 59 (s_fa 3 (s_nx tp n y).1 (s_wd tp n y)) = s_fa 3 (s_nx tp n y).1 (s_wd tp n y) := s_nd_no hf
        refine ⟨(s_fa 3 (s_nx tp n y).1 (s_wd tp n y), π), fun t u l m b c h hL J hT hJ => jE_n (fun P hP => ?_), fun t u l m b c h hL J hT hJ => jE_n (fun P hP => ?_), ?_, ?_, fun e => absurd (s_nd_0 e) hf⟩
        · refine c_stW hL hy hJ (fun K k1 k6 kF => ?_)
          rw [hs]
          refine jW_bn (h := h) (R := fun M => jPC h M tp n (s_fa 3 (s_nx tp n y).1 (s_wd tp n y), π) ∧ jPFc K M) ?_ (fun M hM => jW_s (hP M ⟨hM.1, jPFc_trans kF hM.2⟩))
          refine jE_n (fun P2 hP2 => ?_)
          unfold F_Prog_readAgain
          simp (disch := omega) only [↓dR_64_1 hL, ↓dK_67 hL, ↓dG_67 hL, ↓dP_67 hL, ↓dR_64_0 hL, ↓dK_65 hL, ↓dG_65 hL, ↓dP_65 hL, ↓reduceIte, ↓kq_bi, ↓kq_let, ↓kq_rz0, ↓kq_rz1, ↓kq_rzB, ↓Option.bind_some, kq_dvn, kt_lt, kf_lt, kt_eq, kf_eq, decide_true, decide_false, eq_self, Bool.false_eq_true, Bool.true_eq_false, not_true_eq_false, not_false_eq_true, jU_eq, jU_ne, jU_U, jV_eq, jV_ne, jV_V, kn_lit, kn_add, kn_mul, kn_sdm, kn_sub, kn_div, kn_nsdm, kn_lt, kn_eq, kn_pred, kn_m1, kn_m1', kn_a31, kn_shl, kn_shr, kn_bit, nB_0, nB_1, nB_t, nB_f, Nat.zero_add, Nat.add_zero, Nat.reduceAdd, Nat.reduceMul, Nat.reduceSub, Nat.reducePow]
          refine jW_bn (c_fail hL k1.2.1 (k := 3) (by omega) (by omega) hnx k6) (fun M hM => ?_)
          exact jW_s (hP2 M ⟨jPC_T1 k1 hM.1 hM.2.2 (fun e => absurd e (s_fa_0 (by omega))), jPFc_T1 hM.2.2⟩)
        · refine mB t u l m b c h hL J hJ _ (fun K k1 k4 kF => ?_)
          rw [hs, mK, if_neg (show ¬ nI 3 = -nI 1 by decide)]
          unfold F_Mod_readsStep_b19
          rw [if_pos (show nI 3 = (3 : Int32) from rfl), dK_205 hL]
          refine jW_bi (m_popens6 hL k1 h0 hsk k4) (fun K2 hK2 => ?_)
          rw [if_pos (show nB false = (0 : Int32) from rfl)]
          refine jW_s (hP K2 ⟨?_, jPFm_trans kF hK2.2⟩)
          have m1 := hK2.1
          rw [show s_fa 3 (s_skp c_bl tp n y.1) (y, π).1 = (y.1, 3, s_skp c_bl tp n y.1) from if_pos h0] at m1
          show jPM K2 tp n 6 (s_nd tp n 59 (s_fa 3 (s_nx tp n y).1 (s_wd tp n y)), π)
          rw [end9, efa]
          exact jPM_fl m1 (by omega) hwy.1
        · show jPG τ n (s_nd tp n 59 (s_fa 3 (s_nx tp n y).1 (s_wd tp n y)), π)
          rw [end9]
          exact jPG_0 (s_fa_y hwy (by omega) hnx) hn hf
        · show jPU 6 (y, π) (s_nd tp n 59 (s_fa 3 (s_nx tp n y).1 (s_wd tp n y)), π)
          rw [end9]
          exact jPU_0 hf
end

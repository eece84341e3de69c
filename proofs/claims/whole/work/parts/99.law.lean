/-! PLAIN LEAN, 65: laws; both sides read a law -/
section
variable {t u l m b c t' u' l' m' b' c' : Nat} {h h' : LH} {I J K : Nat → Nat → Int32} {tp : Nat → Nat} {n o q j k : Nat} {y z : JTs} {x : Int32} {s s2 s4 : JLs} {ω : JLw} {w v : Nat}
theorem m_lays_427 (hL : jLay t u l m b c h) (hq : q ≤ 160) : ∃ K, F_Mod_lays 427 266 (nI q) (jz_I h J) = some (jz_I h K) ∧ (∀ w i, w < q → i < 2 → K (267 + w) i = J (428 + w) i) ∧ ∀ a, ¬ (267 ≤ a ∧ a < 427) → K a = J a := by
  refine jE_n (fun P hP => ?_)
  unfold F_Mod_lays
  refine jW_for0 (A := Nat → Nat → Int32) (f := fun fuel w s => F_Mod_lays_l2 fuel 427 266 (nI q) (nI w) (jz_I h s)) q (fun w s => (∀ w' i, w' < w → i < 2 → s (267 + w') i = J (428 + w') i) ∧ ∀ a, ¬ (267 ≤ a ∧ a < 427) → s a = J a) J ⟨fun w' _ hw _ => absurd hw (Nat.not_lt_zero w'), fun _ _ => rfl⟩ (by omega) (fun F w s hw hV ih => ?_) (fun F s hV => ?_)
  · show jW (F_Mod_lays_c2 (F_Mod_lays_l2 F) 427 266 (nI q) (nI w) (jz_I h s)) P
    unfold F_Mod_lays_c2
    simp (disch := omega) only [↓reduceIte, ↓kq_bi, ↓kq_let, ↓kq_rz0, ↓kq_rz1, ↓kq_rzB, ↓Option.bind_some, kq_dvn, kt_lt, kf_lt, kt_eq, kf_eq, decide_true, decide_false, eq_self, Bool.false_eq_true, Bool.true_eq_false, not_true_eq_false, not_false_eq_true, jU_eq, jU_ne, jU_U, jV_eq, jV_ne, jV_V, kn_lit, kn_add, kn_mul, kn_sdm, kn_sub, kn_div, kn_nsdm, kn_lt, kn_eq, kn_pred, kn_m1, kn_m1', kn_a31, kn_shl, kn_shr, kn_bit, nB_0, nB_1, nB_t, nB_f, Nat.zero_add, Nat.add_zero, Nat.reduceAdd, Nat.reduceMul, Nat.reduceSub, Nat.reducePow]
    refine jW_for0 (A := Nat → Nat → Int32) (f := fun fuel i s' => F_Mod_lays_l10 (F_Mod_lays_l2 F) fuel 427 266 (nI q) (nI w) (nI i) (jz_I h s')) 2 (fun i s' => (∀ i', i' < i → s' (267 + w) i' = J (428 + w) i') ∧ ∀ a, ¬ a = 267 + w → s' a = s a) s ⟨fun i' hi => absurd hi (Nat.not_lt_zero i'), fun _ _ => rfl⟩ (by omega) (fun G i s' hi hW ih2 => ?_) (fun G s' hW => ?_)
    · show jW (F_Mod_lays_c10 (F_Mod_lays_l2 F) (F_Mod_lays_l10 (F_Mod_lays_l2 F) G) 427 266 (nI q) (nI w) (nI i) (jz_I h s')) P
      unfold F_Mod_lays_c10
      simp (disch := omega) only [dL_267 hL, ↓dR_205_28 hL, dA_427 hL, dI_428 hL, dS_428 hL, ↓dR_205_27 hL, dA_266 hL, dI_267 hL, dS_267 hL, ↓reduceIte, ↓kq_bi, ↓kq_let, ↓kq_rz0, ↓kq_rz1, ↓kq_rzB, ↓Option.bind_some, kq_dvn, kt_lt, kf_lt, kt_eq, kf_eq, decide_true, decide_false, eq_self, Bool.false_eq_true, Bool.true_eq_false, not_true_eq_false, not_false_eq_true, jU_eq, jU_ne, jU_U, jV_eq, jV_ne, jV_V, kn_lit, kn_add, kn_mul, kn_sdm, kn_sub, kn_div, kn_nsdm, kn_lt, kn_eq, kn_pred, kn_m1, kn_m1', kn_a31, kn_shl, kn_shr, kn_bit, nB_0, nB_1, nB_t, nB_f, Nat.zero_add, Nat.add_zero, Nat.reduceAdd, Nat.reduceMul, Nat.reduceSub, Nat.reducePow]
      refine ih2 _ ⟨fun i' hi' => ?_, fun a ha => by rw [jU_ne ha]; exact hW.2 a ha⟩
      rw [jU_eq]
      by_cases z : i' = i
      · rw [z, jV_eq, hW.2 (428 + w) (by omega), hV.2 (428 + w) (by omega)]
      · rw [jV_ne z]; exact hW.1 i' (by omega)
    · show jW (F_Mod_lays_c10 (F_Mod_lays_l2 F) (F_Mod_lays_l10 (F_Mod_lays_l2 F) G) 427 266 (nI q) (nI w) (nI 2) (jz_I h s')) P
      unfold F_Mod_lays_c10
      simp (disch := omega) only [dL_267 hL, ↓dR_205_28 hL, dA_427 hL, dI_428 hL, dS_428 hL, ↓dR_205_27 hL, dA_266 hL, dI_267 hL, dS_267 hL, ↓reduceIte, ↓kq_bi, ↓kq_let, ↓kq_rz0, ↓kq_rz1, ↓kq_rzB, ↓Option.bind_some, kq_dvn, kt_lt, kf_lt, kt_eq, kf_eq, decide_true, decide_false, eq_self, Bool.false_eq_true, Bool.true_eq_false, not_true_eq_false, not_false_eq_true, jU_eq, jU_ne, jU_U, jV_eq, jV_ne, jV_V, kn_lit, kn_add, kn_mul, kn_sdm, kn_sub, kn_div, kn_nsdm, kn_lt, kn_eq, kn_pred, kn_m1, kn_m1', kn_a31, kn_shl, kn_shr, kn_bit, nB_0, nB_1, nB_t, nB_f, Nat.zero_add, Nat.add_zero, Nat.reduceAdd, Nat.reduceMul, Nat.reduceSub, Nat.reducePow]
      refine ih s' ⟨fun w' i h1 h2 => ?_, fun a ha => by rw [hW.2 a (by omega)]; exact hV.2 a ha⟩
      by_cases z : w' = w
      · rw [z]; exact hW.1 i h2
      · rw [hW.2 (267 + w') (by omega)]; exact hV.1 w' i (by omega) h2
  · show jW (F_Mod_lays_c2 (F_Mod_lays_l2 F) 427 266 (nI q) (nI q) (jz_I h s)) P
    unfold F_Mod_lays_c2
    simp (disch := omega) only [↓reduceIte, ↓kq_bi, ↓kq_let, ↓kq_rz0, ↓kq_rz1, ↓kq_rzB, ↓Option.bind_some, kq_dvn, kt_lt, kf_lt, kt_eq, kf_eq, decide_true, decide_false, eq_self, Bool.false_eq_true, Bool.true_eq_false, not_true_eq_false, not_false_eq_true, jU_eq, jU_ne, jU_U, jV_eq, jV_ne, jV_V, kn_lit, kn_add, kn_mul, kn_sdm, kn_sub, kn_div, kn_nsdm, kn_lt, kn_eq, kn_pred, kn_m1, kn_m1', kn_a31, kn_shl, kn_shr, kn_bit, nB_0, nB_1, nB_t, nB_f, Nat.zero_add, Nat.add_zero, Nat.reduceAdd, Nat.reduceMul, Nat.reduceSub, Nat.reducePow]
    exact jW_s (hP s hV)
/-- how a text that was read ends on the reference's side, with a fault -/
theorem m_ends (hL : jLay t u l m b c h) (hT : jTM J tp n y) : F_Mod_ends 205 (jz_I h J) = some (nI y.2.1 - nI 10, jz_I h (jU J 205 (jV (J 205) 3 (nF y)))) := by
  have h5 := hT.2.2.1.1
  have h6 := hT.2.2.1.2
  unfold F_Mod_ends
  simp (disch := omega) only [↓dK_205 hL, ↓dG_205 hL, ↓dP_205 hL, ↓dZ_205 hL (x := nI 0) (Or.inl rfl), ↓dZ_205 hL (x := nI 1) (Or.inr rfl), ↓dZ_205 hL (Or.inl rfl), ↓dZ_205 hL (Or.inr rfl), ↓dZ_205 hL (nB_01 _), kn_lit, jU_eq, jV_ne, h5, h6]
theorem m_startsX (hL : jLay t u l m b c h) (hn : n ≤ 600) (htp : ∀ k, k < n → J 206 k = nI (tp k)) (h256 : ∀ k, tp k < 256) : ∃ K, F_Mod_starts 205 (nI n) (jz_I h J) = some (jz_I h K) ∧ jTM K tp n (0, 0, 0) ∧ (K 205 1 = nI 0 ∧ K 205 7 = nI 0 ∧ K 205 8 = nI 0 ∧ K 205 4 = nI (s_skp c_bl tp n 0)) ∧ (∀ f, f = 0 ∨ f = 3 ∨ 9 ≤ f → K 205 f = J 205 f) ∧ ∀ a, ¬ a = 205 → K a = J a := by
  refine jE_n (fun P hP => ?_)
  unfold F_Mod_starts
  simp (disch := omega) only [↓dK_205 hL, ↓dG_205 hL, ↓dP_205 hL, ↓dZ_205 hL (x := nI 0) (Or.inl rfl), ↓dZ_205 hL (x := nI 1) (Or.inr rfl), ↓dZ_205 hL (Or.inl rfl), ↓dZ_205 hL (Or.inr rfl), ↓dZ_205 hL (nB_01 _), ↓reduceIte, ↓kq_bi, ↓kq_let, ↓kq_rz0, ↓kq_rz1, ↓kq_rzB, ↓Option.bind_some, kq_dvn, kt_lt, kf_lt, kt_eq, kf_eq, decide_true, decide_false, eq_self, Bool.false_eq_true, Bool.true_eq_false, not_true_eq_false, not_false_eq_true, jU_eq, jU_ne, jU_U, jV_eq, jV_ne, jV_V, kn_lit, kn_add, kn_mul, kn_sdm, kn_sub, kn_div, kn_nsdm, kn_lt, kn_eq, kn_pred, kn_m1, kn_m1', kn_a31, kn_shl, kn_shr, kn_bit, nB_0, nB_1, nB_t, nB_f, Nat.zero_add, Nat.add_zero, Nat.reduceAdd, Nat.reduceMul, Nat.reduceSub, Nat.reducePow]
  refine jW_bn (m_bl hL (tp := tp) (n := n) (y := (0, 0, 0)) ⟨⟨?_, hn, fun k hk => by rw [jU_ne (by omega)]; exact htp k hk, h256⟩, ⟨Nat.zero_le _, by show 0 ≤ 3; omega, Nat.zero_le _, hn⟩, ⟨?_, ?_⟩, 0, Nat.zero_le _, ?_, fun _ => rfl⟩ rfl) (fun K hK => ?_)
  · simp (disch := omega) only [jU_eq, jV_ne, jV_eq]
  · simp (disch := omega) only [jU_eq, jV_ne, jV_eq]
  · simp (disch := omega) only [jU_eq, jV_ne, jV_eq]; rfl
  · simp (disch := omega) only [jU_eq, jV_ne, jV_eq]
  · obtain ⟨k1, k4, kM⟩ := hK
    have e := fun f a1 a2 a3 => kM.1 f a1 a2 a3
    refine jW_s (hP K ⟨k1, ⟨?_, ?_, ?_, k4⟩, fun f hf => ?_, fun a ha => (kM.2 a ha).trans (jU_ne ha)⟩)
    · rw [e 1 (by omega) (by omega) (by omega)]; simp (disch := omega) only [jU_eq, jV_ne, jV_eq]
    · rw [e 7 (by omega) (by omega) (by omega)]; simp (disch := omega) only [jU_eq, jV_ne, jV_eq]
    · rw [e 8 (by omega) (by omega) (by omega)]; simp (disch := omega) only [jU_eq, jV_ne, jV_eq]
    · rw [e f (by omega) (by omega) (by omega)]; simp (disch := omega) only [jU_eq, jV_ne, jV_eq]
theorem m_law85F (hL : jLay t u l m b c h) (hT : jTM J tp n y) (h0 : ¬ y.2.1 = 0) : F_Mod_law_b85 205 (jz_I h J) = some (nI y.2.1 - nI 10, jz_I h (jU J 205 (jV (J 205) 3 (nF y)))) := by
  have h5 := hT.2.2.1.1
  have y2 := hT.2.1.2.1
  unfold F_Mod_law_b85
  simp (disch := omega) only [h5, ↓m_ends hL hT, ↓dK_205 hL, ↓dG_205 hL, ↓dP_205 hL, ↓dZ_205 hL (x := nI 0) (Or.inl rfl), ↓dZ_205 hL (x := nI 1) (Or.inr rfl), ↓dZ_205 hL (Or.inl rfl), ↓dZ_205 hL (Or.inr rfl), ↓dZ_205 hL (nB_01 _), ↓reduceIte, ↓kq_bi, ↓kq_let, ↓kq_rz0, ↓kq_rz1, ↓kq_rzB, ↓Option.bind_some, kq_dvn, kt_lt, kf_lt, kt_eq, kf_eq, decide_true, decide_false, eq_self, Bool.false_eq_true, Bool.true_eq_false, not_true_eq_false, not_false_eq_true, jU_eq, jU_ne, jU_U, jV_eq, jV_ne, jV_V, kn_lit, kn_add, kn_mul, kn_sdm, kn_sub, kn_div, kn_nsdm, kn_lt, kn_eq, kn_pred, kn_m1, kn_m1', kn_a31, kn_shl, kn_shr, kn_bit, nB_0, nB_1, nB_t, nB_f, Nat.zero_add, Nat.add_zero, Nat.reduceAdd, Nat.reduceMul, Nat.reduceSub, Nat.reducePow]
theorem m_law85 (hL : jLay t u l m b c h) (h5 : J 205 5 = nI 0) (h26 : J 205 26 = nI ω.1) (h1 : 1 ≤ ω.1) (h9 : ω.1 ≤ 150) (hr : ∀ i j, i < ω.1 → j < 2 → J (428 + i) j = nI (ω.2 i j)) : ∃ K, F_Mod_law_b85 205 (jz_I h J) = some (nI 1, jz_I h K) ∧ K 205 3 = -nI 1 ∧ jML K ω ∧ (∀ f, ¬ f = 3 → ¬ f = 25 → K 205 f = J 205 f) ∧ ∀ a, ¬ a = 205 → ¬ (267 ≤ a ∧ a < 427) → K a = J a := by
  refine jE_i (fun P hP => ?_)
  unfold F_Mod_law_b85
  simp (disch := omega) only [h5, h26, ↓dK_205 hL, ↓dG_205 hL, ↓dP_205 hL, ↓dZ_205 hL (x := nI 0) (Or.inl rfl), ↓dZ_205 hL (x := nI 1) (Or.inr rfl), ↓dZ_205 hL (Or.inl rfl), ↓dZ_205 hL (Or.inr rfl), ↓dZ_205 hL (nB_01 _), ↓dR_205_28 hL, dA_427 hL, dI_428 hL, dS_428 hL, ↓dR_205_27 hL, dA_266 hL, dI_267 hL, dS_267 hL, ↓reduceIte, ↓kq_bi, ↓kq_let, ↓kq_rz0, ↓kq_rz1, ↓kq_rzB, ↓Option.bind_some, kq_dvn, kt_lt, kf_lt, kt_eq, kf_eq, decide_true, decide_false, eq_self, Bool.false_eq_true, Bool.true_eq_false, not_true_eq_false, not_false_eq_true, jU_eq, jU_ne, jU_U, jV_eq, jV_ne, jV_V, kn_lit, kn_add, kn_mul, kn_sdm, kn_sub, kn_div, kn_nsdm, kn_lt, kn_eq, kn_pred, kn_m1, kn_m1', kn_a31, kn_shl, kn_shr, kn_bit, nB_0, nB_1, nB_t, nB_f, Nat.zero_add, Nat.add_zero, Nat.reduceAdd, Nat.reduceMul, Nat.reduceSub, Nat.reducePow]
  refine jW_bn (m_lays_427 hL (q := ω.1) (by omega)) (fun K hK => ?_)
  obtain ⟨k1, k2⟩ := hK
  have e5 := k2 205 (by omega)
  refine jW_s (hP K ⟨?_, Or.inr ⟨?_, h1, fun i j hi hj => ?_⟩, fun f f1 f2 => ?_, fun a a1 a2 => ?_⟩)
  · rw [e5]; simp (disch := omega) only [jU_eq, jV_ne, jV_eq]
  · rw [e5]; simp (disch := omega) only [jU_eq, jV_ne, jV_eq]
  · rw [k1 i j hi hj]; simp (disch := omega) only [jU_ne]; exact hr i j hi hj
  · rw [e5]; simp (disch := omega) only [jU_eq, jV_ne]
  · rw [k2 a a2]; simp (disch := omega) only [jU_ne]
/-- where a text must end -/
def s_end (tp : Nat → Nat) (n : Nat) (y : JTs) : JTs := if s_nc tp n y = none then s_nx tp n y else s_fa 1 (s_nx tp n y).1 (s_nx tp n y)
theorem s_end_y (hy : jTy n y) : jTy n (s_end tp n y) := by
  have h1 := s_nx_y (tp := tp) hy
  unfold s_end
  split
  · exact h1
  · exact s_fa_y h1 (by omega) h1.1
theorem s_end_0 (h0 : (s_end tp n y).2.1 = 0) : y.2.1 = 0 := by
  unfold s_end at h0
  split at h0
  · rw [s_nx_2] at h0; exact h0
  · exact absurd h0 (s_fa_0 (by omega))
theorem s_end_no (h0 : ¬ y.2.1 = 0) : s_end tp n y = y := by
  unfold s_end
  rw [if_pos (show s_nc tp n y = none from if_neg (fun a => h0 a.1))]
  exact if_neg h0
/-- the law's own text -/
def s_L0 : JLs := ((0, 0, 0), (0, fun _ _ => 0))
theorem x_law (hn : n ≤ 150) (h256 : ∀ k, tp k < 256) : ∃ y ω, (y.2.1 = 0 → jLOK ω) ∧ jTy n y ∧
    (∀ t u l m b c h q, jLay t u l m b c h → (q = 82 ∨ q = 196) → ∀ J, jStr h J → jTX J tp n (0, 0, 0) → ∃ K, F_Law_readFrom q 65 (jz_I h J) = some (jz_I h K) ∧ jTX K tp n y ∧ (y.2.1 = 0 → jCL K q ω) ∧ jFC q J K) ∧
    ∀ t u l m b c h', jLay t u l m b c h' → ∀ J, J 205 0 = nI 0 → (∀ k, k < n → J 206 k = nI (tp k)) → ∃ K, F_Mod_law_b30 205 (nI n) 205 (nI 0) (jz_I h' J) = some (if y.2.1 = 0 then nI 1 else nI y.2.1 - nI 10, jz_I h' K) ∧ (K 205 0 = nI 0 ∧ K 205 1 = nI 0 ∧ K 205 3 = nF y) ∧ (y.2.1 = 0 → jML K ω) ∧ (¬ y.2.1 = 0 → K 205 25 = J 205 25 ∧ ∀ a, 266 ≤ a → a < 427 → K a = J a) ∧ (∀ f, 9 ≤ f → ¬ f = 25 → ¬ f = 26 → K 205 f = J 205 f) ∧ ∀ a, ¬ a = 205 → ¬ (267 ≤ a ∧ a < 427) → ¬ (428 ≤ a ∧ a < 588) → K a = J a := by
  have hG0 : jLG n s_L0 := ⟨⟨Nat.zero_le _, by show 0 ≤ 3; omega, Nat.zero_le _, by omega⟩, hn, fun _ => ⟨Nat.zero_le _, fun i hi => absurd hi (Nat.not_lt_zero i)⟩⟩
  obtain ⟨s', sim, gS, uS⟩ := x_sums (tp := tp) jE 0 (by omega) (by show 7 ≤ 0 + 20; omega) s_L0 hG0
  obtain ⟨y1, ω⟩ := s'
  have hy1 : jTy n y1 := gS.1
  refine ⟨s_end tp n y1, ω, fun h0 => ?_, s_end_y hy1, fun t u l m b c h q hL hl J hS hX => jE_n (fun P hP => ?_), fun t' u' l' m' b' c' h' hM J h00 htp => ?_⟩
  · obtain ⟨-, -, b3, -⟩ := uS (s_end_0 h0)
    obtain ⟨g1, g2⟩ := gS.2.2 (s_end_0 h0)
    have b3 : s_dep ω.2 ω.1 = 0 + 1 := b3
    have g1 : ω.1 ≤ y1.1 := g1
    have := s_dep_le ω.2 ω.1
    have := hy1.1
    exact ⟨by omega, by omega, g2⟩
  · unfold F_Law_readFrom
    simp (disch := omega) only [↓dK_L hL hl, ↓dG_L hL hl, ↓dP_L hL hl, ↓reduceIte, ↓kq_bi, ↓kq_let, ↓kq_rz0, ↓kq_rz1, ↓kq_rzB, ↓Option.bind_some, kq_dvn, kt_lt, kf_lt, kt_eq, kf_eq, decide_true, decide_false, eq_self, Bool.false_eq_true, Bool.true_eq_false, not_true_eq_false, not_false_eq_true, jU_eq, jU_ne, jU_U, jV_eq, jV_ne, jV_V, kn_lit, kn_add, kn_mul, kn_sdm, kn_sub, kn_div, kn_nsdm, kn_lt, kn_eq, kn_pred, kn_m1, kn_m1', kn_a31, kn_shl, kn_shr, kn_bit, nB_0, nB_1, nB_t, nB_f, Nat.zero_add, Nat.add_zero, Nat.reduceAdd, Nat.reduceMul, Nat.reduceSub, Nat.reducePow]
    have J0 : jLC h (jU J q (jV (J q) 2 (nI 0))) q tp n s_L0 := ⟨jStr_eq hS (fun a ha => jU_ne (by omega)), jTX_U hX (by omega), 0, by omega, by rw [jU_eq, jV_eq], fun _ => ⟨rfl, fun i hi => absurd hi (Nat.not_lt_zero i)⟩⟩
    have F0 : jFC q J (jU J q (jV (J q) 2 (nI 0))) := ⟨by rw [jU_ne (by omega)], fun a _ a2 _ => jU_ne a2⟩
    refine jW_bn (sim.1 t u l m b c h q hL hl _ J0) (fun K hK => ?_)
    obtain ⟨k1, kF⟩ := hK
    simp (disch := omega) only [↓dR_64_0 hL, ↓dK_65 hL, ↓dG_65 hL, ↓dP_65 hL, ↓dK_L hL hl, ↓dG_L hL hl, ↓dP_L hL hl, ↓reduceIte, ↓kq_bi, ↓kq_let, ↓kq_rz0, ↓kq_rz1, ↓kq_rzB, ↓Option.bind_some, kq_dvn, kt_lt, kf_lt, kt_eq, kf_eq, decide_true, decide_false, eq_self, Bool.false_eq_true, Bool.true_eq_false, not_true_eq_false, not_false_eq_true, jU_eq, jU_ne, jU_U, jV_eq, jV_ne, jV_V, kn_lit, kn_add, kn_mul, kn_sdm, kn_sub, kn_div, kn_nsdm, kn_lt, kn_eq, kn_pred, kn_m1, kn_m1', kn_a31, kn_shl, kn_shr, kn_bit, nB_0, nB_1, nB_t, nB_f, Nat.zero_add, Nat.add_zero, Nat.reduceAdd, Nat.reduceMul, Nat.reduceSub, Nat.reducePow]
    refine jW_bi (c_next hL k1.2.1) (fun K2 hK2 => ?_)
    obtain ⟨k2, -, kM2⟩ := hK2
    have h256' := k1.2.1.2.2.2
    obtain ⟨-, -, kk, kk1, kk2, kk3⟩ := k1
    have kk3 : y1.2.1 = 0 → kk = ω.1 ∧ ∀ i, i < kk → K (q + 1) i = s_code (ω.2 i 0) (ω.2 i 1) := kk3
    have fin : ∀ L, jTX L tp n (s_end tp n y1) → jT1 K L → P (jz_I h L) := fun L lX lM => hP L ⟨lX, fun h0 => by
      obtain ⟨e1, e2⟩ := kk3 (s_end_0 h0)
      exact ⟨by rw [lM.2 q (by omega), kk2, e1], fun k hk => by rw [lM.2 (q + 1) (by omega)]; exact e2 k (by omega)⟩, jFC_trans F0 (jFC_trans kF (jFC_T1 lM))⟩
    cases hc : s_nc tp n y1 with
    | none =>
      have ee : s_end tp n y1 = s_nx tp n y1 := if_pos hc
      rw [ee] at fin
      simp (disch := omega) only [nO_none, F_Law_readFrom_b24, ↓reduceIte, ↓kq_bi, ↓kq_let, ↓kq_rz0, ↓kq_rz1, ↓kq_rzB, ↓Option.bind_some, kq_dvn, kt_lt, kf_lt, kt_eq, kf_eq, decide_true, decide_false, eq_self, Bool.false_eq_true, Bool.true_eq_false, not_true_eq_false, not_false_eq_true, jU_eq, jU_ne, jU_U, jV_eq, jV_ne, jV_V, kn_lit, kn_add, kn_mul, kn_sdm, kn_sub, kn_div, kn_nsdm, kn_lt, kn_eq, kn_pred, kn_m1, kn_m1', kn_a31, kn_shl, kn_shr, kn_bit, nB_0, nB_1, nB_t, nB_f, Nat.zero_add, Nat.add_zero, Nat.reduceAdd, Nat.reduceMul, Nat.reduceSub, Nat.reducePow]
      exact jW_s (fin K2 k2 kM2)
    | some v =>
      have hv := s_nc_lt h256' hc
      have ee : s_end tp n y1 = s_fa 1 (s_nx tp n y1).1 (s_nx tp n y1) := if_neg (by rw [hc]; intro a; cases a)
      rw [ee] at fin
      simp (disch := omega) only [nO_some, ↓dR_64_0 hL, ↓dK_65 hL, ↓dG_65 hL, ↓dP_65 hL, ↓reduceIte, ↓kq_bi, ↓kq_let, ↓kq_rz0, ↓kq_rz1, ↓kq_rzB, ↓Option.bind_some, kq_dvn, kt_lt, kf_lt, kt_eq, kf_eq, decide_true, decide_false, eq_self, Bool.false_eq_true, Bool.true_eq_false, not_true_eq_false, not_false_eq_true, jU_eq, jU_ne, jU_U, jV_eq, jV_ne, jV_V, kn_lit, kn_add, kn_mul, kn_sdm, kn_sub, kn_div, kn_nsdm, kn_lt, kn_eq, kn_pred, kn_m1, kn_m1', kn_a31, kn_shl, kn_shr, kn_bit, nB_0, nB_1, nB_t, nB_f, Nat.zero_add, Nat.add_zero, Nat.reduceAdd, Nat.reduceMul, Nat.reduceSub, Nat.reducePow]
      refine jW_bn (c_failNext hL k2 (show 1 ≤ 1 by omega) (by omega)) (fun K3 hK3 => ?_)
      obtain ⟨k3, -, kM3⟩ := hK3
      rw [s_nx_id hy1] at k3
      simp (disch := omega) only [F_Law_readFrom_b24, ↓reduceIte, ↓kq_bi, ↓kq_let, ↓kq_rz0, ↓kq_rz1, ↓kq_rzB, ↓Option.bind_some, kq_dvn, kt_lt, kf_lt, kt_eq, kf_eq, decide_true, decide_false, eq_self, Bool.false_eq_true, Bool.true_eq_false, not_true_eq_false, not_false_eq_true, jU_eq, jU_ne, jU_U, jV_eq, jV_ne, jV_V, kn_lit, kn_add, kn_mul, kn_sdm, kn_sub, kn_div, kn_nsdm, kn_lt, kn_eq, kn_pred, kn_m1, kn_m1', kn_a31, kn_shl, kn_shr, kn_bit, nB_0, nB_1, nB_t, nB_f, Nat.zero_add, Nat.add_zero, Nat.reduceAdd, Nat.reduceMul, Nat.reduceSub, Nat.reducePow]
      exact jW_s (fin K3 k3 (jT1_trans kM2 kM3))
  · refine jE_i (fun P hP => ?_)
    unfold F_Mod_law_b30
    simp (disch := omega) only [m_bad0 hM h00, ↓dK_205 hM, ↓dG_205 hM, ↓dP_205 hM, ↓dZ_205 hM (x := nI 0) (Or.inl rfl), ↓dZ_205 hM (x := nI 1) (Or.inr rfl), ↓dZ_205 hM (Or.inl rfl), ↓dZ_205 hM (Or.inr rfl), ↓dZ_205 hM (nB_01 _), ↓reduceIte, ↓kq_bi, ↓kq_let, ↓kq_rz0, ↓kq_rz1, ↓kq_rzB, ↓Option.bind_some, kq_dvn, kt_lt, kf_lt, kt_eq, kf_eq, decide_true, decide_false, eq_self, Bool.false_eq_true, Bool.true_eq_false, not_true_eq_false, not_false_eq_true, jU_eq, jU_ne, jU_U, jV_eq, jV_ne, jV_V, kn_lit, kn_add, kn_mul, kn_sdm, kn_sub, kn_div, kn_nsdm, kn_lt, kn_eq, kn_pred, kn_m1, kn_m1', kn_a31, kn_shl, kn_shr, kn_bit, nB_0, nB_1, nB_t, nB_f, Nat.zero_add, Nat.add_zero, Nat.reduceAdd, Nat.reduceMul, Nat.reduceSub, Nat.reducePow]
    refine jW_bn (m_startsX hM (by omega) htp h256) (fun A hA => ?_)
    obtain ⟨a1, ⟨a2, a3, a4, -⟩, a5, a6⟩ := hA
    simp (disch := omega) only [↓dK_205 hM, ↓dG_205 hM, ↓dP_205 hM, ↓dZ_205 hM (x := nI 0) (Or.inl rfl), ↓dZ_205 hM (x := nI 1) (Or.inr rfl), ↓dZ_205 hM (Or.inl rfl), ↓dZ_205 hM (Or.inr rfl), ↓dZ_205 hM (nB_01 _), ↓reduceIte, ↓kq_bi, ↓kq_let, ↓kq_rz0, ↓kq_rz1, ↓kq_rzB, ↓Option.bind_some, kq_dvn, kt_lt, kf_lt, kt_eq, kf_eq, decide_true, decide_false, eq_self, Bool.false_eq_true, Bool.true_eq_false, not_true_eq_false, not_false_eq_true, jU_eq, jU_ne, jU_U, jV_eq, jV_ne, jV_V, kn_lit, kn_add, kn_mul, kn_sdm, kn_sub, kn_div, kn_nsdm, kn_lt, kn_eq, kn_pred, kn_m1, kn_m1', kn_a31, kn_shl, kn_shr, kn_bit, nB_0, nB_1, nB_t, nB_f, Nat.zero_add, Nat.add_zero, Nat.reduceAdd, Nat.reduceMul, Nat.reduceSub, Nat.reducePow]
    have A0 : jLM (jU A 205 (jV (A 205) 26 (nI 0))) tp n 0 s_L0 := ⟨jTM_eq a1 (fun f hf => by rw [jU_eq, jV_ne (by omega)]) (jU_ne (by omega)), fun _ => ⟨⟨by rw [jU_eq, jV_eq]; rfl, by rw [jU_eq, jV_ne (by omega)]; exact a4⟩, fun i j hi => absurd hi (Nat.not_lt_zero i)⟩⟩
    have A1 : (jU A 205 (jV (A 205) 26 (nI 0))) 205 1 = nI 0 := by rw [jU_eq, jV_ne (by omega)]; exact a2
    have AF : ∀ f, f = 0 ∨ f = 3 ∨ 9 ≤ f → ¬ f = 26 → (jU A 205 (jV (A 205) 26 (nI 0))) 205 f = J 205 f := fun f hf h26 => by rw [jU_eq, jV_ne h26]; exact a5 f hf
    have AA : ∀ a, ¬ a = 205 → (jU A 205 (jV (A 205) 26 (nI 0))) a = J a := fun a ha => by rw [jU_ne ha]; exact a6 a ha
    generalize jU A 205 (jV (A 205) 26 (nI 0)) = B at A0 A1 AF AA
    refine jW_bn (sim.2 t' u' l' m' b' c' h' hM _ A0) (fun C hC => ?_)
    obtain ⟨c1, cF⟩ := hC
    simp (disch := omega) only [↓dK_205 hM, ↓dG_205 hM, ↓dP_205 hM, ↓dZ_205 hM (x := nI 0) (Or.inl rfl), ↓dZ_205 hM (x := nI 1) (Or.inr rfl), ↓dZ_205 hM (Or.inl rfl), ↓dZ_205 hM (Or.inr rfl), ↓dZ_205 hM (nB_01 _), ↓reduceIte, ↓kq_bi, ↓kq_let, ↓kq_rz0, ↓kq_rz1, ↓kq_rzB, ↓Option.bind_some, kq_dvn, kt_lt, kf_lt, kt_eq, kf_eq, decide_true, decide_false, eq_self, Bool.false_eq_true, Bool.true_eq_false, not_true_eq_false, not_false_eq_true, jU_eq, jU_ne, jU_U, jV_eq, jV_ne, jV_V, kn_lit, kn_add, kn_mul, kn_sdm, kn_sub, kn_div, kn_nsdm, kn_lt, kn_eq, kn_pred, kn_m1, kn_m1', kn_a31, kn_shl, kn_shr, kn_bit, nB_0, nB_1, nB_t, nB_f, Nat.zero_add, Nat.add_zero, Nat.reduceAdd, Nat.reduceMul, Nat.reduceSub, Nat.reducePow]
    refine jW_bn (m_bl2 hM c1.1) (fun D hD => ?_)
    obtain ⟨d1, d4, dM⟩ := hD
    have BD : jFM B D := jFM_trans cF (jFM_M1 dM)
    have F1 : D 205 1 = nI 0 := (BD.1 1 (by omega) (by omega) (by omega) (by omega) (by omega)).trans A1
    have FF : ∀ f, f = 0 ∨ f = 3 ∨ 9 ≤ f → ¬ f = 26 → D 205 f = J 205 f := fun f hf h26 => (BD.1 f (by omega) (by omega) (by omega) (by omega) h26).trans (AF f hf h26)
    have FA : ∀ a, ¬ a = 205 → ¬ (428 ≤ a ∧ a < 588) → D a = J a := fun a x1 x2 => (BD.2 a x1 x2).trans (AA a x1)
    have bad : ∀ L, jTM L tp n (s_end tp n y1) → ¬ (s_end tp n y1).2.1 = 0 → jM1 D L → jW (F_Mod_law_b85 205 (jz_I h' L)) P := fun L lT l0 lM => by
      refine jW_e (m_law85F hM lT l0) ?_
      have fin := hP (jU L 205 (jV (L 205) 3 (nF (s_end tp n y1))))
      rw [if_neg l0] at fin
      refine fin ⟨⟨?_, ?_, ?_⟩, fun z => absurd z l0, fun _ => ⟨?_, fun a b1 b2 => ?_⟩, fun f f1 f2 f3 => ?_, fun a b1 b2 b3 => ?_⟩
      · rw [jU_eq, jV_ne (by omega), lM.1 0 (by omega) (by omega) (by omega), FF 0 (by omega) (by omega)]; exact h00
      · rw [jU_eq, jV_ne (by omega), lM.1 1 (by omega) (by omega) (by omega)]; exact F1
      · rw [jU_eq, jV_eq]
      · rw [jU_eq, jV_ne (by omega), lM.1 25 (by omega) (by omega) (by omega)]; exact FF 25 (by omega) (by omega)
      · rw [jU_ne (by omega), lM.2 a (by omega)]; exact FA a (by omega) (by omega)
      · rw [jU_eq, jV_ne (by omega), lM.1 f (by omega) (by omega) (by omega)]; exact FF f (by omega) f3
      · rw [jU_ne b1, lM.2 a b1]; exact FA a b1 b3
    have h5 := d1.2.2.1.1
    have y2 := hy1.2.1
    have hs := d1.1.1
    by_cases h0 : y1.2.1 = 0
    · have d4 := d4 h0
      rw [h0] at h5
      have enx : s_nx tp n y1 = (s_skp c_bl tp n y1.1, y1.2) := if_pos h0
      have hp := (s_skp_ge (c := c_bl) (tp := tp) hy1.1).2
      by_cases zl : s_skp c_bl tp n y1.1 < n
      · have ee : s_end tp n y1 = (s_skp c_bl tp n y1.1, 1, s_skp c_bl tp n y1.1) := by
          unfold s_end
          rw [if_neg (show ¬ s_nc tp n y1 = none by rw [s_nc0 h0, show s_byt tp n (s_skp c_bl tp n y1.1) = some _ from if_pos zl]; intro a; cases a), enx]
          exact if_pos h0
        simp (disch := omega) only [h5, d4, hs, ↓dK_205 hM, ↓dG_205 hM, ↓dP_205 hM, ↓dZ_205 hM (x := nI 0) (Or.inl rfl), ↓dZ_205 hM (x := nI 1) (Or.inr rfl), ↓dZ_205 hM (Or.inl rfl), ↓dZ_205 hM (Or.inr rfl), ↓dZ_205 hM (nB_01 _), ↓reduceIte, ↓kq_bi, ↓kq_let, ↓kq_rz0, ↓kq_rz1, ↓kq_rzB, ↓Option.bind_some, kq_dvn, kt_lt, kf_lt, kt_eq, kf_eq, decide_true, decide_false, eq_self, Bool.false_eq_true, Bool.true_eq_false, not_true_eq_false, not_false_eq_true, jU_eq, jU_ne, jU_U, jV_eq, jV_ne, jV_V, kn_lit, kn_add, kn_mul, kn_sdm, kn_sub, kn_div, kn_nsdm, kn_lt, kn_eq, kn_pred, kn_m1, kn_m1', kn_a31, kn_shl, kn_shr, kn_bit, nB_0, nB_1, nB_t, nB_f, Nat.zero_add, Nat.add_zero, Nat.reduceAdd, Nat.reduceMul, Nat.reduceSub, Nat.reducePow]
        refine jW_bn (m_wrong hM d1 (show 1 ≤ 1 by omega) (by omega) hp) (fun L hL' => ?_)
        obtain ⟨l1, -, lM⟩ := hL'
        rw [show s_fa 1 (s_skp c_bl tp n y1.1) y1 = (y1.1, 1, s_skp c_bl tp n y1.1) from if_pos h0] at l1
        exact bad L (by rw [ee]; exact jTM_fl l1 (by omega) hp) (by rw [ee]; show ¬ 1 = 0; omega) lM
      · have ee : s_end tp n y1 = s_nx tp n y1 := if_pos (by rw [s_nc0 h0]; exact if_neg zl)
        have e0 : (s_end tp n y1).2.1 = 0 := by rw [ee, s_nx_2]; exact h0
        obtain ⟨-, -, b3, -⟩ := uS h0
        obtain ⟨g1, g2⟩ := gS.2.2 h0
        have b3 : s_dep ω.2 ω.1 = 0 + 1 := b3
        have g1 : ω.1 ≤ y1.1 := g1
        have g3 := s_dep_le ω.2 ω.1
        have g4 := hy1.1
        obtain ⟨⟨q1, -⟩, q3⟩ := c1.2 h0
        have q1 : D 205 26 = nI ω.1 := (dM.1 26 (by omega) (by omega) (by omega)).trans q1
        obtain ⟨K, e, k1, k2, k3, k4⟩ := m_law85 hM (ω := ω) h5 q1 (by omega) (by omega) (fun i j hi hj => by rw [dM.2 (428 + i) (by omega)]; exact q3 i j hi hj)
        simp (disch := omega) only [h5, d4, hs, ↓dK_205 hM, ↓dG_205 hM, ↓dP_205 hM, ↓dZ_205 hM (x := nI 0) (Or.inl rfl), ↓dZ_205 hM (x := nI 1) (Or.inr rfl), ↓dZ_205 hM (Or.inl rfl), ↓dZ_205 hM (Or.inr rfl), ↓dZ_205 hM (nB_01 _), ↓reduceIte, ↓kq_bi, ↓kq_let, ↓kq_rz0, ↓kq_rz1, ↓kq_rzB, ↓Option.bind_some, kq_dvn, kt_lt, kf_lt, kt_eq, kf_eq, decide_true, decide_false, eq_self, Bool.false_eq_true, Bool.true_eq_false, not_true_eq_false, not_false_eq_true, jU_eq, jU_ne, jU_U, jV_eq, jV_ne, jV_V, kn_lit, kn_add, kn_mul, kn_sdm, kn_sub, kn_div, kn_nsdm, kn_lt, kn_eq, kn_pred, kn_m1, kn_m1', kn_a31, kn_shl, kn_shr, kn_bit, nB_0, nB_1, nB_t, nB_f, Nat.zero_add, Nat.add_zero, Nat.reduceAdd, Nat.reduceMul, Nat.reduceSub, Nat.reducePow]
        refine jW_e e ?_
        have fin := hP K
        rw [if_pos e0] at fin
        refine fin ⟨⟨?_, ?_, ?_⟩, fun _ => k2, fun z => absurd e0 z, fun f f1 f2 f3 => ?_, fun a b1 b2 b3 => ?_⟩
        · rw [k3 0 (by omega) (by omega), FF 0 (by omega) (by omega)]; exact h00
        · rw [k3 1 (by omega) (by omega)]; exact F1
        · rw [k1]; unfold nF; rw [if_pos e0]
        · rw [k3 f (by omega) f2]; exact FF f (by omega) f3
        · rw [k4 a b1 b2]; exact FA a b1 b3
    · have ee := s_end_no (tp := tp) (n := n) h0
      simp (disch := omega) only [h5, ↓dK_205 hM, ↓dG_205 hM, ↓dP_205 hM, ↓dZ_205 hM (x := nI 0) (Or.inl rfl), ↓dZ_205 hM (x := nI 1) (Or.inr rfl), ↓dZ_205 hM (Or.inl rfl), ↓dZ_205 hM (Or.inr rfl), ↓dZ_205 hM (nB_01 _), ↓reduceIte, ↓kq_bi, ↓kq_let, ↓kq_rz0, ↓kq_rz1, ↓kq_rzB, ↓Option.bind_some, kq_dvn, kt_lt, kf_lt, kt_eq, kf_eq, decide_true, decide_false, eq_self, Bool.false_eq_true, Bool.true_eq_false, not_true_eq_false, not_false_eq_true, jU_eq, jU_ne, jU_U, jV_eq, jV_ne, jV_V, kn_lit, kn_add, kn_mul, kn_sdm, kn_sub, kn_div, kn_nsdm, kn_lt, kn_eq, kn_pred, kn_m1, kn_m1', kn_a31, kn_shl, kn_shr, kn_bit, nB_0, nB_1, nB_t, nB_f, Nat.zero_add, Nat.add_zero, Nat.reduceAdd, Nat.reduceMul, Nat.reduceSub, Nat.reducePow]
      exact bad D (by rw [ee]; exact d1) (by rw [ee]; exact h0) jM1_r
end

/-! PLAIN LEAN, 31: days of the reference; span -/
/-- as jN, with rain drawn or not -/
def jNd (d : Bool) (I J : Nat → Nat → Int32) : Prop := (∀ a, ¬ a = 205 → ¬ a = 608 → ¬ a = 609 → ¬ a = 692 → ¬ (714 ≤ a ∧ a ≤ 716) → J a = I a) ∧ (∀ k, 1 ≤ k → k < 44 → J 205 k = I 205 k) ∧ J 205 44 = nB d ∧ J 205 0 = nI 0
/-- the seeds' days, one by one -/
abbrev JSp : Type := Option Nat × Nat × Nat
def s_spu (a b o : Nat) (y : JSp) : JSp := (some (y.1.elim a (fun v => s_mn v a)), if a < y.2.1 then y.2.1 else a, y.2.2 + (if b = o then 1 else 0))
def s_sp (τ : JTn) (ω : JLw) (r : JRw) (s : Int32) (n N : Nat) : Nat → JSp
  | 0 => (none, 0, 0)
  | k + 1 => s_spu (s_came τ (s_dy τ ω n (s + nI k) r N).2.1 1) (s_came τ (s_dy τ ω n (s + nI k) r N).2.1 2) (s_came τ r 2) (s_sp τ ω r s n N k)
def s_span (τ : JTn) (ω : JLw) (r : JRw) (s : Int32) (m n N w : Nat) : Int32 := if w = 0 then nO (s_sp τ ω r s n N m).1 else if w = 1 then nI (s_sp τ ω r s n N m).2.1 else nI (s_sp τ ω r s n N m).2.2
section
variable {t u l m b c : Nat} {h : LH} {I J K : Nat → Nat → Int32} {τ : JTn} {r q : JRw} {σ ρ i : Nat} {Q : Type} {x : Int32} {d d' : Bool} {ω : JLw} {f : Nat → Int32}
theorem jNd_ME (hN : jNd d I J) (hQ : jQM I τ ω r) : jME J τ ω d ∧ jMR J 691 r := by
  obtain ⟨n1, n2, n3, n4⟩ := hN
  obtain ⟨⟨hT, ho, hM, hω, hd⟩, hR, hr⟩ := hQ
  exact ⟨⟨jMT_congr (fun a h1 h2 => n1 a (by omega) (by omega) (by omega) (by omega) (by omega)) ho hT, ho, jML_congr (fun a h1 h2 => n1 a (by omega) (by omega) (by omega) (by omega) (by omega)) (n2 25 (by omega) (by omega)) hω hM, hω, n3⟩, fun k hk => by rw [n1 691 (by omega) (by omega) (by omega) (by omega) (by omega)]; exact hR k hk⟩
theorem jNd_S3 (hN : jNd d I J) (hS : jS3 692 J K) : jNd d I K := by
  obtain ⟨n1, n2, n3, n4⟩ := hN
  have e := hS 205 (by omega) (by omega) (by omega)
  exact ⟨fun a h1 h2 h3 h4 h5 => (hS a h2 h3 h4).trans (n1 a h1 h2 h3 h4 h5), fun k h1 h2 => by rw [e]; exact n2 k h1 h2, by rw [e]; exact n3, by rw [e]; exact n4⟩
/-- a field behind the 44th is free -/
theorem jNd_f {k : Nat} (hN : jNd d I J) (hk : 45 ≤ k) : jNd d I (jU J 205 (jV (J 205) k x)) := by
  obtain ⟨n1, n2, n3, n4⟩ := hN
  exact ⟨fun a h1 h2 h3 h4 h5 => by rw [jU_ne h1]; exact n1 a h1 h2 h3 h4 h5, fun j h1 h2 => by rw [jU_eq, jV_ne (by omega)]; exact n2 j h1 h2, by rw [jU_eq, jV_ne (by omega)]; exact n3, by rw [jU_eq, jV_ne (by omega)]; exact n4⟩
theorem jNd_44 (hN : jNd d I J) : jNd d' I (jU J 205 (jV (J 205) 44 (nB d'))) := by
  obtain ⟨n1, n2, n3, n4⟩ := hN
  exact ⟨fun a h1 h2 h3 h4 h5 => by rw [jU_ne h1]; exact n1 a h1 h2 h3 h4 h5, fun j h1 h2 => by rw [jU_eq, jV_ne (by omega)]; exact n2 j h1 h2, by rw [jU_eq, jV_eq], by rw [jU_eq, jV_ne (by omega)]; exact n4⟩
theorem m_daysBy (hL : jLay t u l m b c h) (hQ : jQM I τ ω r) (hN0 : jN I J) {n N : Nat} {s : Int32} (hn : n ≤ 16) (hN : N ≤ 96) : ∃ K, F_Mod_daysBy 205 s (nI n) (nI N) (jz_I h J) = some (jz_I h K) ∧ (jN I K ∧ jMR K 692 (s_dy τ ω n s r N).2.1) ∧ K 205 51 = nI (s_dy τ ω n s r N).2.2.1 ∧ K 205 52 = nI (s_dy τ ω n s r N).2.2.2 := by
  have ho := hQ.1.2.1
  have o0 : τ 0 0 ≤ 9 := ho.1
  have o1 : τ 0 1 ≤ 6 := ho.2.1
  refine jE_n (fun P hP => ?_)
  unfold F_Mod_daysBy
  simp (disch := omega) only [↓dK_205 hL, ↓dG_205 hL, ↓dP_205 hL, ↓dZ_205 hL (x := nI 0) (Or.inl rfl), ↓dZ_205 hL (x := nI 1) (Or.inr rfl), ↓dZ_205 hL (Or.inl rfl), ↓dZ_205 hL (Or.inr rfl), ↓dZ_205 hL (nB_01 _), ↓reduceIte, ↓kq_bi, ↓kq_let, ↓kq_rz0, ↓kq_rz1, ↓kq_rzB, ↓Option.bind_some, kq_dvn, kt_lt, kf_lt, kt_eq, kf_eq, decide_true, decide_false, eq_self, Bool.false_eq_true, Bool.true_eq_false, not_true_eq_false, not_false_eq_true, jU_eq, jU_ne, jU_U, jV_eq, jV_ne, jV_V, kn_lit, kn_add, kn_mul, kn_sdm, kn_sub, kn_div, kn_nsdm, kn_lt, kn_eq, kn_pred, kn_m1, kn_m1', kn_a31, kn_shl, kn_shr, kn_bit, nB_0, nB_1, nB_t, nB_f, Nat.zero_add, Nat.add_zero, Nat.reduceAdd, Nat.reduceMul, Nat.reduceSub, Nat.reducePow]
  refine jW_bn (m_trial hL hQ hN0) (fun J1 hJ1 => ?_)
  simp (disch := omega) only [↓dK_205 hL, ↓dG_205 hL, ↓dP_205 hL, ↓dZ_205 hL (x := nI 0) (Or.inl rfl), ↓dZ_205 hL (x := nI 1) (Or.inr rfl), ↓dZ_205 hL (Or.inl rfl), ↓dZ_205 hL (Or.inr rfl), ↓dZ_205 hL (nB_01 _), ↓reduceIte, ↓kq_bi, ↓kq_let, ↓kq_rz0, ↓kq_rz1, ↓kq_rzB, ↓Option.bind_some, kq_dvn, kt_lt, kf_lt, kt_eq, kf_eq, decide_true, decide_false, eq_self, Bool.false_eq_true, Bool.true_eq_false, not_true_eq_false, not_false_eq_true, jU_eq, jU_ne, jU_U, jV_eq, jV_ne, jV_V, kn_lit, kn_add, kn_mul, kn_sdm, kn_sub, kn_div, kn_nsdm, kn_lt, kn_eq, kn_pred, kn_m1, kn_m1', kn_a31, kn_shl, kn_shr, kn_bit, nB_0, nB_1, nB_t, nB_f, Nat.zero_add, Nat.add_zero, Nat.reduceAdd, Nat.reduceMul, Nat.reduceSub, Nat.reducePow]
  refine jW_for0 (f := fun fuel k (K : Nat → Nat → Int32) => F_Mod_daysBy_l22 fuel 205 (nI n) (nI N) (nI k) (jz_I h K)) N (fun k K => ((∃ d, jNd d I K) ∧ jMR K 692 (s_dy τ ω n s r k).2.1) ∧ K 205 50 = (s_dy τ ω n s r k).1 ∧ K 205 51 = nI (s_dy τ ω n s r k).2.2.1 ∧ K 205 52 = nI (s_dy τ ω n s r k).2.2.2) _ ⟨⟨⟨false, ?_⟩, fun j hj => by rw [jU_ne (by omega)]; exact hJ1.2 j hj⟩, ?_, ?_, ?_⟩ (by omega) (fun F k K hk hV ih => ?_) (fun F K hV => ?_)
  · obtain ⟨n1, n2, n3, n4⟩ := hJ1.1
    exact ⟨fun a h1 h2 h3 h4 h5 => by rw [jU_ne h1]; exact n1 a h1 h2 h3 h4 h5, fun j h1 h2 => by rw [jU_eq, jV_ne (by omega), jV_ne (by omega), jV_ne (by omega)]; exact n2 j h1 h2, by rw [jU_eq, jV_ne (by omega), jV_ne (by omega), jV_ne (by omega)]; exact n3, by rw [jU_eq, jV_ne (by omega), jV_ne (by omega), jV_ne (by omega)]; exact n4⟩
  · simp (disch := omega) only [jU_eq, jV_ne, jV_eq]; rfl
  · simp (disch := omega) only [jU_eq, jV_ne, jV_eq]; rfl
  · simp (disch := omega) only [jU_eq, jV_ne, jV_eq]; rfl
  · obtain ⟨⟨⟨d0, v1⟩, v2⟩, v3, v4, v5⟩ := hV
    obtain ⟨p1, p2, p3, p4⟩ := s_dy_ok (ω := ω) ho hQ.2.2.1 hQ.2.2.2 (s := s) (n := n) k (by omega)
    have es : s_dy τ ω n s r (k + 1) = s_dyu τ ω n (s_dy τ ω n s r k) := rfl
    rw [es] at ih
    have hr133 : r 133 ≤ 1000 := hQ.2.2.2
    show jW (F_Mod_daysBy_c22 (F_Mod_daysBy_l22 F) 205 (nI n) (nI N) (nI k) (jz_I h K)) P
    unfold F_Mod_daysBy_c22
    generalize s_dy τ ω n s r k = y at v2 v3 v4 v5 p1 p2 p3 p4 ih
    obtain ⟨y1, y2, y3, y4⟩ := y
    dsimp only at v2 v3 v4 v5 p1 p2 p3 p4
    have hd16 := s_dr_lt (s_sd y1)
    have hh : y2 133 < 100000 := by omega
    have esd : y1 * nI 1103515245 + nI 12345 = s_sd y1 := rfl
    simp (disch := omega) only [v3, esd, kn_dr2, ↓dK_205 hL, ↓dG_205 hL, ↓dP_205 hL, ↓dZ_205 hL (x := nI 0) (Or.inl rfl), ↓dZ_205 hL (x := nI 1) (Or.inr rfl), ↓dZ_205 hL (Or.inl rfl), ↓dZ_205 hL (Or.inr rfl), ↓dZ_205 hL (nB_01 _), ↓reduceIte, ↓kq_bi, ↓kq_let, ↓kq_rz0, ↓kq_rz1, ↓kq_rzB, ↓Option.bind_some, kq_dvn, kt_lt, kf_lt, kt_eq, kf_eq, decide_true, decide_false, eq_self, Bool.false_eq_true, Bool.true_eq_false, not_true_eq_false, not_false_eq_true, jU_eq, jU_ne, jU_U, jV_eq, jV_ne, jV_V, kn_lit, kn_add, kn_mul, kn_sdm, kn_sub, kn_div, kn_nsdm, kn_lt, kn_eq, kn_pred, kn_m1, kn_m1', kn_a31, kn_shl, kn_shr, kn_bit, nB_0, nB_1, nB_t, nB_f, Nat.zero_add, Nat.add_zero, Nat.reduceAdd, Nat.reduceMul, Nat.reduceSub, Nat.reducePow]
    have key : ∀ dd : Bool, dd = s_dyd n (y1, y2, y3, y4) → jW (F_Mod_daysBy_b64 (F_Mod_daysBy_l22 F) 205 (nI n) (nI N) (nI k) 205 (nB dd) (jz_I h (jU K 205 (jV (K 205) 50 (s_sd y1))))) P := fun dd hdd => by
      have w1 : jNd dd I (jU K 205 (jV (jV (K 205) 50 (s_sd y1)) 44 (nB dd))) := by
        have := jNd_44 (d' := dd) (jNd_f (k := 50) (x := s_sd y1) v1 (by omega))
        rwa [jU_U, jU_eq] at this
      have w2 : jMR (jU K 205 (jV (jV (K 205) 50 (s_sd y1)) 44 (nB dd))) 692 y2 := fun j hj => by rw [jU_ne (by omega)]; exact v2 j hj
      obtain ⟨hE, -⟩ := jNd_ME w1 hQ
      have er : ∀ bb : Bool, s_rain τ dd (y2 133) = bb → jW (F_Mod_daysBy_b92 (F_Mod_daysBy_l22 F) 205 (nI n) (nI N) (nI k) 205 (nI y4) (nB bb) (jz_I h (jU K 205 (jV (jV (K 205) 50 (s_sd y1)) 44 (nB dd))))) P := fun bb hbb => by
        unfold F_Mod_daysBy_b92
        have e9 : nI y4 + nB bb = nI (y4 + (if s_rain τ dd (y2 133) = true then 1 else 0)) := by
          rw [hbb]
          cases bb
          · exact kn_add y4 0
          · exact kn_add y4 1
        simp (disch := omega) only [e9, ↓dK_205 hL, ↓dG_205 hL, ↓dP_205 hL, ↓dZ_205 hL (x := nI 0) (Or.inl rfl), ↓dZ_205 hL (x := nI 1) (Or.inr rfl), ↓dZ_205 hL (Or.inl rfl), ↓dZ_205 hL (Or.inr rfl), ↓dZ_205 hL (nB_01 _), ↓reduceIte, ↓kq_bi, ↓kq_let, ↓kq_rz0, ↓kq_rz1, ↓kq_rzB, ↓Option.bind_some, kq_dvn, kt_lt, kf_lt, kt_eq, kf_eq, decide_true, decide_false, eq_self, Bool.false_eq_true, Bool.true_eq_false, not_true_eq_false, not_false_eq_true, jU_eq, jU_ne, jU_U, jV_eq, jV_ne, jV_V, kn_lit, kn_add, kn_mul, kn_sdm, kn_sub, kn_div, kn_nsdm, kn_lt, kn_eq, kn_pred, kn_m1, kn_m1', kn_a31, kn_shl, kn_shr, kn_bit, nB_0, nB_1, nB_t, nB_f, Nat.zero_add, Nat.add_zero, Nat.reduceAdd, Nat.reduceMul, Nat.reduceSub, Nat.reducePow]
        have w3 : jNd dd I (jU K 205 (jV (jV (jV (K 205) 50 (s_sd y1)) 44 (nB dd)) 52 (nI (y4 + (if s_rain τ dd (y2 133) = true then 1 else 0))))) := by
          have := jNd_f (k := 52) (x := nI (y4 + (if s_rain τ dd (y2 133) = true then 1 else 0))) w1 (by omega)
          rwa [jU_U, jU_eq] at this
        refine jW_for0 (f := fun fuel g (K : Nat → Nat → Int32) => F_Mod_daysBy_l99 (F_Mod_daysBy_l22 F) fuel 205 (nI n) (nI N) (nI k) (nI g) (jz_I h K)) (τ 0 0) (fun g K => (jNd dd I K ∧ jMR K 692 (s_le τ (y2, y3) g).1) ∧ K 205 50 = s_sd y1 ∧ K 205 51 = nI (s_le τ (y2, y3) g).2 ∧ K 205 52 = nI (y4 + (if s_rain τ dd (y2 133) = true then 1 else 0))) _ ⟨⟨w3, fun j hj => by rw [jU_ne (by omega)]; exact v2 j hj⟩, ?_, ?_, ?_⟩ (by omega) (fun F2 g K hg hV ih2 => ?_) (fun F2 K hV => ?_)
        · simp (disch := omega) only [jU_eq, jV_ne, jV_eq]
        · simp (disch := omega) only [jU_eq, jV_ne, jV_eq]; exact v4
        · simp (disch := omega) only [jU_eq, jV_ne, jV_eq]
        · obtain ⟨⟨u1, u2⟩, u3, u4, u5⟩ := hV
          obtain ⟨hE2, -⟩ := jNd_ME u1 hQ
          obtain ⟨q1, q2, q3⟩ := s_le_ok ho (k := y3) p1 g (by omega)
          have es2 : s_le τ (y2, y3) (g + 1) = s_leu τ g (s_le τ (y2, y3) g) := rfl
          rw [es2] at ih2
          show jW (F_Mod_daysBy_c99 (F_Mod_daysBy_l22 F) (F_Mod_daysBy_l99 (F_Mod_daysBy_l22 F) F2) 205 (nI n) (nI N) (nI k) (nI g) (jz_I h K)) P
          unfold F_Mod_daysBy_c99
          generalize s_le τ (y2, y3) g = p at u2 u4 q1 q2 q3 ih2
          have b6 := q1.1 g (by omega)
          unfold s_leu at ih2
          by_cases h0 : p.1 (108 + g) = 0
          · rw [if_pos h0] at ih2
            cases hf : s_full τ p.1 (τ 0 1) with
            | none =>
              rw [hf] at ih2
              simp (disch := omega) only [hE2.1.1, m_fullest hL hE2.1 ho (Or.inr rfl) u2 q1, hf, nO_none, jMR_at u2, h0, F_Mod_daysBy_b165, ↓dK_205 hL, ↓dG_205 hL, ↓dP_205 hL, ↓dZ_205 hL (x := nI 0) (Or.inl rfl), ↓dZ_205 hL (x := nI 1) (Or.inr rfl), ↓dZ_205 hL (Or.inl rfl), ↓dZ_205 hL (Or.inr rfl), ↓dZ_205 hL (nB_01 _), ↓dR_205_12 hL, dI_209 hL, dS_209 hL, ↓dR_205_36 hL, dI_692 hL, dS_692 hL, ↓reduceIte, ↓kq_bi, ↓kq_let, ↓kq_rz0, ↓kq_rz1, ↓kq_rzB, ↓Option.bind_some, kq_dvn, kt_lt, kf_lt, kt_eq, kf_eq, decide_true, decide_false, eq_self, Bool.false_eq_true, Bool.true_eq_false, not_true_eq_false, not_false_eq_true, jU_eq, jU_ne, jU_U, jV_eq, jV_ne, jV_V, kn_lit, kn_add, kn_mul, kn_sdm, kn_sub, kn_div, kn_nsdm, kn_lt, kn_eq, kn_pred, kn_m1, kn_m1', kn_a31, kn_shl, kn_shr, kn_bit, nB_0, nB_1, nB_t, nB_f, Nat.zero_add, Nat.add_zero, Nat.reduceAdd, Nat.reduceMul, Nat.reduceSub, Nat.reducePow]
              exact ih2 K ⟨⟨u1, u2⟩, u3, u4, u5⟩
            | some w =>
              obtain ⟨f1, f2, f3⟩ := s_full_some hf
              rw [hf] at ih2
              simp (disch := omega) only [hE2.1.1, m_fullest hL hE2.1 ho (Or.inr rfl) u2 q1, hf, nO_some, jMR_at u2, h0, ↓dK_205 hL, ↓dG_205 hL, ↓dP_205 hL, ↓dZ_205 hL (x := nI 0) (Or.inl rfl), ↓dZ_205 hL (x := nI 1) (Or.inr rfl), ↓dZ_205 hL (Or.inl rfl), ↓dZ_205 hL (Or.inr rfl), ↓dZ_205 hL (nB_01 _), ↓dR_205_12 hL, dI_209 hL, dS_209 hL, ↓dR_205_36 hL, dI_692 hL, dS_692 hL, ↓reduceIte, ↓kq_bi, ↓kq_let, ↓kq_rz0, ↓kq_rz1, ↓kq_rzB, ↓Option.bind_some, kq_dvn, kt_lt, kf_lt, kt_eq, kf_eq, decide_true, decide_false, eq_self, Bool.false_eq_true, Bool.true_eq_false, not_true_eq_false, not_false_eq_true, jU_eq, jU_ne, jU_U, jV_eq, jV_ne, jV_V, kn_lit, kn_add, kn_mul, kn_sdm, kn_sub, kn_div, kn_nsdm, kn_lt, kn_eq, kn_pred, kn_m1, kn_m1', kn_a31, kn_shl, kn_shr, kn_bit, nB_0, nB_1, nB_t, nB_f, Nat.zero_add, Nat.add_zero, Nat.reduceAdd, Nat.reduceMul, Nat.reduceSub, Nat.reducePow]
              refine jW_bi (m_laysOn hL hE2.1 ho (Or.inr rfl) u2 q1 (show g < 9 by omega) f1) (fun K2 hK2 => ?_)
              have hc : s_can p.1 g w = true := decide_eq_true ⟨f2, by omega⟩
              unfold s_layd at hK2
              rw [hc, if_pos (show true = true from rfl)] at hK2
              have e5 := hK2.2 205 (by omega)
              have e51 : K2 205 51 = nI p.2 := by rw [e5]; exact u4
              have w4 : jNd dd I K2 := jNd_S3 u1 (fun a _ _ z => hK2.2 a z)
              simp (disch := omega) only [e51, F_Mod_daysBy_b165, ↓dK_205 hL, ↓dG_205 hL, ↓dP_205 hL, ↓dZ_205 hL (x := nI 0) (Or.inl rfl), ↓dZ_205 hL (x := nI 1) (Or.inr rfl), ↓dZ_205 hL (Or.inl rfl), ↓dZ_205 hL (Or.inr rfl), ↓dZ_205 hL (nB_01 _), ↓reduceIte, ↓kq_bi, ↓kq_let, ↓kq_rz0, ↓kq_rz1, ↓kq_rzB, ↓Option.bind_some, kq_dvn, kt_lt, kf_lt, kt_eq, kf_eq, decide_true, decide_false, eq_self, Bool.false_eq_true, Bool.true_eq_false, not_true_eq_false, not_false_eq_true, jU_eq, jU_ne, jU_U, jV_eq, jV_ne, jV_V, kn_lit, kn_add, kn_mul, kn_sdm, kn_sub, kn_div, kn_nsdm, kn_lt, kn_eq, kn_pred, kn_m1, kn_m1', kn_a31, kn_shl, kn_shr, kn_bit, nB_0, nB_1, nB_t, nB_f, Nat.zero_add, Nat.add_zero, Nat.reduceAdd, Nat.reduceMul, Nat.reduceSub, Nat.reducePow]
              refine ih2 _ ⟨⟨jNd_f (k := 51) w4 (by omega), fun j hj => by rw [jU_ne (by omega)]; exact hK2.1 j hj⟩, ?_, ?_, ?_⟩
              · rw [jU_eq, jV_ne (by omega), e5]; exact u3
              · rw [jU_eq, jV_eq]; rfl
              · rw [jU_eq, jV_ne (by omega), e5]; exact u5
          · rw [if_neg h0] at ih2
            simp (disch := omega) only [hE2.1.1, m_fullest hL hE2.1 ho (Or.inr rfl) u2 q1, jMR_at u2, F_Mod_daysBy_b165, ↓dK_205 hL, ↓dG_205 hL, ↓dP_205 hL, ↓dZ_205 hL (x := nI 0) (Or.inl rfl), ↓dZ_205 hL (x := nI 1) (Or.inr rfl), ↓dZ_205 hL (Or.inl rfl), ↓dZ_205 hL (Or.inr rfl), ↓dZ_205 hL (nB_01 _), ↓dR_205_12 hL, dI_209 hL, dS_209 hL, ↓dR_205_36 hL, dI_692 hL, dS_692 hL, ↓reduceIte, ↓kq_bi, ↓kq_let, ↓kq_rz0, ↓kq_rz1, ↓kq_rzB, ↓Option.bind_some, kq_dvn, kt_lt, kf_lt, kt_eq, kf_eq, decide_true, decide_false, eq_self, Bool.false_eq_true, Bool.true_eq_false, not_true_eq_false, not_false_eq_true, jU_eq, jU_ne, jU_U, jV_eq, jV_ne, jV_V, kn_lit, kn_add, kn_mul, kn_sdm, kn_sub, kn_div, kn_nsdm, kn_lt, kn_eq, kn_pred, kn_m1, kn_m1', kn_a31, kn_shl, kn_shr, kn_bit, nB_0, nB_1, nB_t, nB_f, Nat.zero_add, Nat.add_zero, Nat.reduceAdd, Nat.reduceMul, Nat.reduceSub, Nat.reducePow]
            exact ih2 K ⟨⟨u1, u2⟩, u3, u4, u5⟩
        · obtain ⟨⟨u1, u2⟩, u3, u4, u5⟩ := hV
          obtain ⟨hE2, -⟩ := jNd_ME u1 hQ
          obtain ⟨q1, q2, q3⟩ := s_le_ok ho (k := y3) p1 (τ 0 0) o0
          show jW (F_Mod_daysBy_c99 (F_Mod_daysBy_l22 F) (F_Mod_daysBy_l99 (F_Mod_daysBy_l22 F) F2) 205 (nI n) (nI N) (nI k) (nI (τ 0 0)) (jz_I h K)) P
          unfold F_Mod_daysBy_c99
          simp (disch := omega) only [hE2.1.1, ↓dK_205 hL, ↓dG_205 hL, ↓dP_205 hL, ↓dZ_205 hL (x := nI 0) (Or.inl rfl), ↓dZ_205 hL (x := nI 1) (Or.inr rfl), ↓dZ_205 hL (Or.inl rfl), ↓dZ_205 hL (Or.inr rfl), ↓dZ_205 hL (nB_01 _), ↓dR_205_12 hL, dI_209 hL, dS_209 hL, ↓dR_205_36 hL, dI_692 hL, dS_692 hL, ↓reduceIte, ↓kq_bi, ↓kq_let, ↓kq_rz0, ↓kq_rz1, ↓kq_rzB, ↓Option.bind_some, kq_dvn, kt_lt, kf_lt, kt_eq, kf_eq, decide_true, decide_false, eq_self, Bool.false_eq_true, Bool.true_eq_false, not_true_eq_false, not_false_eq_true, jU_eq, jU_ne, jU_U, jV_eq, jV_ne, jV_V, kn_lit, kn_add, kn_mul, kn_sdm, kn_sub, kn_div, kn_nsdm, kn_lt, kn_eq, kn_pred, kn_m1, kn_m1', kn_a31, kn_shl, kn_shr, kn_bit, nB_0, nB_1, nB_t, nB_f, Nat.zero_add, Nat.add_zero, Nat.reduceAdd, Nat.reduceMul, Nat.reduceSub, Nat.reducePow]
          refine jW_bn (m_hourEnds hL hE2 (Or.inr rfl) u2 q1) (fun K4 hK4 => ?_)
          have f5 := hK4.2 205 (by omega) (by omega) (by omega)
          subst hdd
          exact ih K4 ⟨⟨⟨_, jNd_S3 u1 hK4.2⟩, hK4.1⟩, by rw [f5]; exact u3, by rw [f5]; exact u4, by rw [f5]; exact u5⟩
      unfold F_Mod_daysBy_b64
      cases hb : s_rain τ dd (y2 133)
      · have g2 := er false hb
        simp (disch := omega) only [v5, jMR_at v2, m_isRain hL hE.1 ho hE.2.2.2.2 hh, hb, ↓dK_205 hL, ↓dG_205 hL, ↓dP_205 hL, ↓dZ_205 hL (x := nI 0) (Or.inl rfl), ↓dZ_205 hL (x := nI 1) (Or.inr rfl), ↓dZ_205 hL (Or.inl rfl), ↓dZ_205 hL (Or.inr rfl), ↓dZ_205 hL (nB_01 _), ↓dR_205_36 hL, dI_692 hL, dS_692 hL, ↓reduceIte, ↓kq_bi, ↓kq_let, ↓kq_rz0, ↓kq_rz1, ↓kq_rzB, ↓Option.bind_some, kq_dvn, kt_lt, kf_lt, kt_eq, kf_eq, decide_true, decide_false, eq_self, Bool.false_eq_true, Bool.true_eq_false, not_true_eq_false, not_false_eq_true, jU_eq, jU_ne, jU_U, jV_eq, jV_ne, jV_V, kn_lit, kn_add, kn_mul, kn_sdm, kn_sub, kn_div, kn_nsdm, kn_lt, kn_eq, kn_pred, kn_m1, kn_m1', kn_a31, kn_shl, kn_shr, kn_bit, nB_0, nB_1, nB_t, nB_f, Nat.zero_add, Nat.add_zero, Nat.reduceAdd, Nat.reduceMul, Nat.reduceSub, Nat.reducePow]
        exact g2
      · have g2 := er true hb
        simp (disch := omega) only [v5, jMR_at v2, m_isRain hL hE.1 ho hE.2.2.2.2 hh, hb, ↓dK_205 hL, ↓dG_205 hL, ↓dP_205 hL, ↓dZ_205 hL (x := nI 0) (Or.inl rfl), ↓dZ_205 hL (x := nI 1) (Or.inr rfl), ↓dZ_205 hL (Or.inl rfl), ↓dZ_205 hL (Or.inr rfl), ↓dZ_205 hL (nB_01 _), ↓dR_205_36 hL, dI_692 hL, dS_692 hL, ↓reduceIte, ↓kq_bi, ↓kq_let, ↓kq_rz0, ↓kq_rz1, ↓kq_rzB, ↓Option.bind_some, kq_dvn, kt_lt, kf_lt, kt_eq, kf_eq, decide_true, decide_false, eq_self, Bool.false_eq_true, Bool.true_eq_false, not_true_eq_false, not_false_eq_true, jU_eq, jU_ne, jU_U, jV_eq, jV_ne, jV_V, kn_lit, kn_add, kn_mul, kn_sdm, kn_sub, kn_div, kn_nsdm, kn_lt, kn_eq, kn_pred, kn_m1, kn_m1', kn_a31, kn_shl, kn_shr, kn_bit, nB_0, nB_1, nB_t, nB_f, Nat.zero_add, Nat.add_zero, Nat.reduceAdd, Nat.reduceMul, Nat.reduceSub, Nat.reducePow]
        exact g2
    by_cases hc : s_dr (s_sd y1) < n
    · simp (disch := omega) only [hc, ↓reduceIte, ↓kq_bi, ↓kq_let, ↓kq_rz0, ↓kq_rz1, ↓kq_rzB, ↓Option.bind_some, kq_dvn, kt_lt, kf_lt, kt_eq, kf_eq, decide_true, decide_false, eq_self, Bool.false_eq_true, Bool.true_eq_false, not_true_eq_false, not_false_eq_true, jU_eq, jU_ne, jU_U, jV_eq, jV_ne, jV_V, kn_lit, kn_add, kn_mul, kn_sdm, kn_sub, kn_div, kn_nsdm, kn_lt, kn_eq, kn_pred, kn_m1, kn_m1', kn_a31, kn_shl, kn_shr, kn_bit, nB_0, nB_1, nB_t, nB_f, Nat.zero_add, Nat.add_zero, Nat.reduceAdd, Nat.reduceMul, Nat.reduceSub, Nat.reducePow]
      exact key true (decide_eq_true hc).symm
    · simp (disch := omega) only [hc, ↓reduceIte, ↓kq_bi, ↓kq_let, ↓kq_rz0, ↓kq_rz1, ↓kq_rzB, ↓Option.bind_some, kq_dvn, kt_lt, kf_lt, kt_eq, kf_eq, decide_true, decide_false, eq_self, Bool.false_eq_true, Bool.true_eq_false, not_true_eq_false, not_false_eq_true, jU_eq, jU_ne, jU_U, jV_eq, jV_ne, jV_V, kn_lit, kn_add, kn_mul, kn_sdm, kn_sub, kn_div, kn_nsdm, kn_lt, kn_eq, kn_pred, kn_m1, kn_m1', kn_a31, kn_shl, kn_shr, kn_bit, nB_0, nB_1, nB_t, nB_f, Nat.zero_add, Nat.add_zero, Nat.reduceAdd, Nat.reduceMul, Nat.reduceSub, Nat.reducePow]
      exact key false (decide_eq_false hc).symm
  · obtain ⟨⟨⟨d0, v1⟩, v2⟩, v3, v4, v5⟩ := hV
    show jW (F_Mod_daysBy_c22 (F_Mod_daysBy_l22 F) 205 (nI n) (nI N) (nI N) (jz_I h K)) P
    unfold F_Mod_daysBy_c22
    simp (disch := omega) only [↓dK_205 hL, ↓dG_205 hL, ↓dP_205 hL, ↓dZ_205 hL (x := nI 0) (Or.inl rfl), ↓dZ_205 hL (x := nI 1) (Or.inr rfl), ↓dZ_205 hL (Or.inl rfl), ↓dZ_205 hL (Or.inr rfl), ↓dZ_205 hL (nB_01 _), ↓reduceIte, ↓kq_bi, ↓kq_let, ↓kq_rz0, ↓kq_rz1, ↓kq_rzB, ↓Option.bind_some, kq_dvn, kt_lt, kf_lt, kt_eq, kf_eq, decide_true, decide_false, eq_self, Bool.false_eq_true, Bool.true_eq_false, not_true_eq_false, not_false_eq_true, jU_eq, jU_ne, jU_U, jV_eq, jV_ne, jV_V, kn_lit, kn_add, kn_mul, kn_sdm, kn_sub, kn_div, kn_nsdm, kn_lt, kn_eq, kn_pred, kn_m1, kn_m1', kn_a31, kn_shl, kn_shr, kn_bit, nB_0, nB_1, nB_t, nB_f, Nat.zero_add, Nat.add_zero, Nat.reduceAdd, Nat.reduceMul, Nat.reduceSub, Nat.reducePow]
    refine jW_s (hP _ ⟨⟨jNd_44 (d' := false) v1, fun j hj => by rw [jU_ne (by omega)]; exact v2 j hj⟩, ?_, ?_⟩)
    · rw [jU_eq, jV_ne (by omega)]; exact v4
    · rw [jU_eq, jV_ne (by omega)]; exact v5
theorem m_areDays {n N : Nat} (hn : n ≤ 16) (h1 : 1 ≤ N) (hN : N ≤ 96) (g : LH) : F_Mod_areDays (nI n) (nI N) g = some (nB true, g) := by
  unfold F_Mod_areDays
  simp (disch := omega) only [m_in1, F_Mod_areDays_b25, ↓reduceIte, ↓kq_bi, ↓kq_let, ↓kq_rz0, ↓kq_rz1, ↓kq_rzB, ↓Option.bind_some, kq_dvn, kt_lt, kf_lt, kt_eq, kf_eq, decide_true, decide_false, eq_self, Bool.false_eq_true, Bool.true_eq_false, not_true_eq_false, not_false_eq_true, jU_eq, jU_ne, jU_U, jV_eq, jV_ne, jV_V, kn_lit, kn_add, kn_mul, kn_sdm, kn_sub, kn_div, kn_nsdm, kn_lt, kn_eq, kn_pred, kn_m1, kn_m1', kn_a31, kn_shl, kn_shr, kn_bit, nB_0, nB_1, nB_t, nB_f, Nat.zero_add, Nat.add_zero, Nat.reduceAdd, Nat.reduceMul, Nat.reduceSub, Nat.reducePow]
theorem m_days (hL : jLay t u l m b c h) (hQ : jQM I τ ω r) {n N w : Nat} {s : Int32} (hn : n ≤ 16) (h1 : 1 ≤ N) (hN : N ≤ 96) (hw : w ≤ 3) : ∃ J, F_Mod_days 205 s (nI n) (nI N) (nI w) (jz_I h I) = some (nI (s_days τ ω r s n N w), jz_I h J) ∧ jN I J := by
  have N0 := jN_0 hQ
  have ho := hQ.1.2.1
  refine jE_i (fun P hP => ?_)
  unfold F_Mod_days
  simp (disch := omega) only [m_areDays, m_in1, m_bad0 hL N0.2.2.2, F_Mod_days_b29, ↓dK_205 hL, ↓dG_205 hL, ↓dP_205 hL, ↓dZ_205 hL (x := nI 0) (Or.inl rfl), ↓dZ_205 hL (x := nI 1) (Or.inr rfl), ↓dZ_205 hL (Or.inl rfl), ↓dZ_205 hL (Or.inr rfl), ↓dZ_205 hL (nB_01 _), ↓reduceIte, ↓kq_bi, ↓kq_let, ↓kq_rz0, ↓kq_rz1, ↓kq_rzB, ↓Option.bind_some, kq_dvn, kt_lt, kf_lt, kt_eq, kf_eq, decide_true, decide_false, eq_self, Bool.false_eq_true, Bool.true_eq_false, not_true_eq_false, not_false_eq_true, jU_eq, jU_ne, jU_U, jV_eq, jV_ne, jV_V, kn_lit, kn_add, kn_mul, kn_sdm, kn_sub, kn_div, kn_nsdm, kn_lt, kn_eq, kn_pred, kn_m1, kn_m1', kn_a31, kn_shl, kn_shr, kn_bit, nB_0, nB_1, nB_t, nB_f, Nat.zero_add, Nat.add_zero, Nat.reduceAdd, Nat.reduceMul, Nat.reduceSub, Nat.reducePow]
  refine jW_bn (m_daysBy hL hQ N0 hn hN) (fun K hK => ?_)
  obtain ⟨⟨k1, k2⟩, k3, k4⟩ := hK
  have hQ2 := jN_QM k1 hQ
  obtain ⟨p1, -⟩ := s_dy_ok (ω := ω) ho hQ.2.2.1 hQ.2.2.2 (s := s) (n := n) N (by omega)
  have fin := hP K k1
  unfold s_days at fin
  generalize s_dy τ ω n s r N = y at fin k2 k3 k4 p1
  have : w = 0 ∨ w = 1 ∨ w = 2 ∨ w = 3 := by omega
  rcases this with rfl | rfl | rfl | rfl
  · rw [if_pos (show 0 < 2 by decide)] at fin
    simp (disch := omega) only [m_cameIn hL hQ2.1.1 ho (Or.inr rfl) k2 p1, F_Mod_days_b84, ↓dK_205 hL, ↓dG_205 hL, ↓dP_205 hL, ↓dZ_205 hL (x := nI 0) (Or.inl rfl), ↓dZ_205 hL (x := nI 1) (Or.inr rfl), ↓dZ_205 hL (Or.inl rfl), ↓dZ_205 hL (Or.inr rfl), ↓dZ_205 hL (nB_01 _), ↓dR_205_36 hL, dI_692 hL, dS_692 hL, ↓reduceIte, ↓kq_bi, ↓kq_let, ↓kq_rz0, ↓kq_rz1, ↓kq_rzB, ↓Option.bind_some, kq_dvn, kt_lt, kf_lt, kt_eq, kf_eq, decide_true, decide_false, eq_self, Bool.false_eq_true, Bool.true_eq_false, not_true_eq_false, not_false_eq_true, jU_eq, jU_ne, jU_U, jV_eq, jV_ne, jV_V, kn_lit, kn_add, kn_mul, kn_sdm, kn_sub, kn_div, kn_nsdm, kn_lt, kn_eq, kn_pred, kn_m1, kn_m1', kn_a31, kn_shl, kn_shr, kn_bit, nB_0, nB_1, nB_t, nB_f, Nat.zero_add, Nat.add_zero, Nat.reduceAdd, Nat.reduceMul, Nat.reduceSub, Nat.reducePow]
    exact jW_s fin
  · rw [if_pos (show 1 < 2 by decide)] at fin
    simp (disch := omega) only [m_cameIn hL hQ2.1.1 ho (Or.inr rfl) k2 p1, F_Mod_days_b84, ↓dK_205 hL, ↓dG_205 hL, ↓dP_205 hL, ↓dZ_205 hL (x := nI 0) (Or.inl rfl), ↓dZ_205 hL (x := nI 1) (Or.inr rfl), ↓dZ_205 hL (Or.inl rfl), ↓dZ_205 hL (Or.inr rfl), ↓dZ_205 hL (nB_01 _), ↓dR_205_36 hL, dI_692 hL, dS_692 hL, ↓reduceIte, ↓kq_bi, ↓kq_let, ↓kq_rz0, ↓kq_rz1, ↓kq_rzB, ↓Option.bind_some, kq_dvn, kt_lt, kf_lt, kt_eq, kf_eq, decide_true, decide_false, eq_self, Bool.false_eq_true, Bool.true_eq_false, not_true_eq_false, not_false_eq_true, jU_eq, jU_ne, jU_U, jV_eq, jV_ne, jV_V, kn_lit, kn_add, kn_mul, kn_sdm, kn_sub, kn_div, kn_nsdm, kn_lt, kn_eq, kn_pred, kn_m1, kn_m1', kn_a31, kn_shl, kn_shr, kn_bit, nB_0, nB_1, nB_t, nB_f, Nat.zero_add, Nat.add_zero, Nat.reduceAdd, Nat.reduceMul, Nat.reduceSub, Nat.reducePow]
    exact jW_s fin
  · rw [if_neg (show ¬ 2 < 2 by decide), if_pos (show 2 = 2 from rfl)] at fin
    simp (disch := omega) only [k3, F_Mod_days_b84, ↓dK_205 hL, ↓dG_205 hL, ↓dP_205 hL, ↓dZ_205 hL (x := nI 0) (Or.inl rfl), ↓dZ_205 hL (x := nI 1) (Or.inr rfl), ↓dZ_205 hL (Or.inl rfl), ↓dZ_205 hL (Or.inr rfl), ↓dZ_205 hL (nB_01 _), ↓reduceIte, ↓kq_bi, ↓kq_let, ↓kq_rz0, ↓kq_rz1, ↓kq_rzB, ↓Option.bind_some, kq_dvn, kt_lt, kf_lt, kt_eq, kf_eq, decide_true, decide_false, eq_self, Bool.false_eq_true, Bool.true_eq_false, not_true_eq_false, not_false_eq_true, jU_eq, jU_ne, jU_U, jV_eq, jV_ne, jV_V, kn_lit, kn_add, kn_mul, kn_sdm, kn_sub, kn_div, kn_nsdm, kn_lt, kn_eq, kn_pred, kn_m1, kn_m1', kn_a31, kn_shl, kn_shr, kn_bit, nB_0, nB_1, nB_t, nB_f, Nat.zero_add, Nat.add_zero, Nat.reduceAdd, Nat.reduceMul, Nat.reduceSub, Nat.reducePow]
    exact jW_s fin
  · rw [if_neg (show ¬ 3 < 2 by decide), if_neg (show ¬ 3 = 2 by decide)] at fin
    simp (disch := omega) only [k4, F_Mod_days_b84, ↓dK_205 hL, ↓dG_205 hL, ↓dP_205 hL, ↓dZ_205 hL (x := nI 0) (Or.inl rfl), ↓dZ_205 hL (x := nI 1) (Or.inr rfl), ↓dZ_205 hL (Or.inl rfl), ↓dZ_205 hL (Or.inr rfl), ↓dZ_205 hL (nB_01 _), ↓reduceIte, ↓kq_bi, ↓kq_let, ↓kq_rz0, ↓kq_rz1, ↓kq_rzB, ↓Option.bind_some, kq_dvn, kt_lt, kf_lt, kt_eq, kf_eq, decide_true, decide_false, eq_self, Bool.false_eq_true, Bool.true_eq_false, not_true_eq_false, not_false_eq_true, jU_eq, jU_ne, jU_U, jV_eq, jV_ne, jV_V, kn_lit, kn_add, kn_mul, kn_sdm, kn_sub, kn_div, kn_nsdm, kn_lt, kn_eq, kn_pred, kn_m1, kn_m1', kn_a31, kn_shl, kn_shr, kn_bit, nB_0, nB_1, nB_t, nB_f, Nat.zero_add, Nat.add_zero, Nat.reduceAdd, Nat.reduceMul, Nat.reduceSub, Nat.reducePow]
    exact jW_s fin
theorem s_came_le (ho : jTOK τ) {how : Nat} : s_came τ q how ≤ 10 := Nat.le_trans (s_cnt_le _ _) ho.2.2.1
theorem s_sp_le (ho : jTOK τ) {s : Int32} {n N : Nat} : ∀ k, (s_sp τ ω r s n N k).2.1 ≤ 10 ∧ (s_sp τ ω r s n N k).2.2 ≤ k ∧ (∀ v, (s_sp τ ω r s n N k).1 = some v → v ≤ 10) ∧ (1 ≤ k → (s_sp τ ω r s n N k).1.isSome = true)
  | 0 => ⟨by show 0 ≤ 10; omega, Nat.le_refl _, fun v hv => (by cases hv), fun h => (by omega)⟩
  | k + 1 => by
    obtain ⟨h1, h2, h3, h4⟩ := s_sp_le ho (s := s) (n := n) (N := N) k
    have a1 := s_came_le (τ := τ) (q := (s_dy τ ω n (s + nI k) r N).2.1) (how := 1) ho
    refine ⟨?_, ?_, fun v hv => ?_, fun _ => rfl⟩
    · show (if _ then _ else _) ≤ 10; split <;> omega
    · show (s_sp τ ω r s n N k).2.2 + (if _ then 1 else 0) ≤ k + 1; split <;> omega
    · have hv : some ((s_sp τ ω r s n N k).1.elim (s_came τ (s_dy τ ω n (s + nI k) r N).2.1 1) (fun v => s_mn v (s_came τ (s_dy τ ω n (s + nI k) r N).2.1 1))) = some v := hv
      cases hv
      cases (s_sp τ ω r s n N k).1 with
      | none => exact a1
      | some y => exact Nat.le_trans (s_mn_le _ _) a1
theorem c_span (hL : jLay t u l m b c h) (hQ : jQC I t l τ ω r) {n N M w : Nat} {s : Int32} (hM1 : 1 ≤ M) (hM : M ≤ 20) (hn : n ≤ 16) (h1 : 1 ≤ N) (hN : N ≤ 96) (hw : w ≤ 2) : ∃ J, F_SG_span 64 s (nI M) (nI n) (nI N) (nI w) (jz_I h I) = some (jo_i (s_span τ ω r s M n N w, jz_I h J)) ∧ jSd l I J := by
  have ho := hQ.1.2.1
  refine jE_o (fun P hP => ?_)
  unfold F_SG_span
  simp (disch := omega) only [c_need1, kq_th, F_SG_span_b27, F_SG_span_b60, c_comersThat hL (Or.inl rfl) hQ.1.1 ho hQ.2.1.1 hQ.2.2.1, ↓dK_64 hL, ↓dG_64 hL, ↓dP_64 hL, ↓dR_64_2 hL, ↓dK_85 hL, ↓dG_85 hL, ↓dP_85 hL, ↓dZ_85 hL (x := nI 0) (Or.inl rfl), ↓dZ_85 hL (x := nI 1) (Or.inr rfl), ↓dZ_85 hL (Or.inl rfl), ↓dZ_85 hL (Or.inr rfl), ↓dZ_85 hL (nB_01 _), ↓reduceIte, ↓kq_bi, ↓kq_let, ↓kq_rz0, ↓kq_rz1, ↓kq_rzB, ↓Option.bind_some, kq_dvn, kt_lt, kf_lt, kt_eq, kf_eq, decide_true, decide_false, eq_self, Bool.false_eq_true, Bool.true_eq_false, not_true_eq_false, not_false_eq_true, jU_eq, jU_ne, jU_U, jV_eq, jV_ne, jV_V, kn_lit, kn_add, kn_mul, kn_sdm, kn_sub, kn_div, kn_nsdm, kn_lt, kn_eq, kn_pred, kn_m1, kn_m1', kn_a31, kn_shl, kn_shr, kn_bit, nB_0, nB_1, nB_t, nB_f, Nat.zero_add, Nat.add_zero, Nat.reduceAdd, Nat.reduceMul, Nat.reduceSub, Nat.reducePow]
  refine jW_for0 (f := fun fuel k (J : Nat → Nat → Int32) => F_SG_span_l86 fuel 64 s (nI M) (nI n) (nI N) (nI w) (nI ((s_sp τ ω r s n N k).1.elim 10 id)) (nI (s_sp τ ω r s n N k).2.1) (nI (s_sp τ ω r s n N k).2.2) (nI (s_came τ r 2)) (nI k) (jz_I h J)) M (fun k J => jSd l I J) I (fun _ _ _ _ => rfl) (by omega) (fun F k J hk hV ih => ?_) (fun F J hV => ?_)
  · have hQ' := jQC_Sd hL hV hQ
    obtain ⟨b1, b2, b3, b4⟩ := s_sp_le (ω := ω) (r := r) ho (s := s) (n := n) (N := N) k
    obtain ⟨p1, -⟩ := s_dy_ok (ω := ω) ho hQ.2.2.1 hQ.2.2.2 (s := s + nI k) (n := n) N (by omega)
    have a1 := s_came_le (τ := τ) (q := (s_dy τ ω n (s + nI k) r N).2.1) (how := 1) ho
    have a2 := s_came_le (τ := τ) (q := (s_dy τ ω n (s + nI k) r N).2.1) (how := 2) ho
    have a3 := s_came_le (τ := τ) (q := r) (how := 2) ho
    have es : s_sp τ ω r s n N (k + 1) = s_spu (s_came τ (s_dy τ ω n (s + nI k) r N).2.1 1) (s_came τ (s_dy τ ω n (s + nI k) r N).2.1 2) (s_came τ r 2) (s_sp τ ω r s n N k) := rfl
    rw [es] at ih
    show jW (F_SG_span_c86 (F_SG_span_l86 F) 64 s (nI M) (nI n) (nI N) (nI w) (nI ((s_sp τ ω r s n N k).1.elim 10 id)) (nI (s_sp τ ω r s n N k).2.1) (nI (s_sp τ ω r s n N k).2.2) (nI (s_came τ r 2)) (nI k) (jz_I h J)) P
    unfold F_SG_span_c86
    simp (disch := omega) only [↓dK_64 hL, ↓dG_64 hL, ↓dP_64 hL, ↓reduceIte, ↓kq_bi, ↓kq_let, ↓kq_rz0, ↓kq_rz1, ↓kq_rzB, ↓Option.bind_some, kq_dvn, kt_lt, kf_lt, kt_eq, kf_eq, decide_true, decide_false, eq_self, Bool.false_eq_true, Bool.true_eq_false, not_true_eq_false, not_false_eq_true, jU_eq, jU_ne, jU_U, jV_eq, jV_ne, jV_V, kn_lit, kn_add, kn_mul, kn_sdm, kn_sub, kn_div, kn_nsdm, kn_lt, kn_eq, kn_pred, kn_m1, kn_m1', kn_a31, kn_shl, kn_shr, kn_bit, nB_0, nB_1, nB_t, nB_f, Nat.zero_add, Nat.add_zero, Nat.reduceAdd, Nat.reduceMul, Nat.reduceSub, Nat.reducePow]
    refine jW_bn (c_trial hL hQ') (fun J1 hJ1 => ?_)
    simp (disch := omega) only [↓dK_64 hL, ↓dG_64 hL, ↓dP_64 hL, ↓dR_64_6 hL, ↓dK_105 hL, ↓dG_105 hL, ↓dP_105 hL, ↓reduceIte, ↓kq_bi, ↓kq_let, ↓kq_rz0, ↓kq_rz1, ↓kq_rzB, ↓Option.bind_some, kq_dvn, kt_lt, kf_lt, kt_eq, kf_eq, decide_true, decide_false, eq_self, Bool.false_eq_true, Bool.true_eq_false, not_true_eq_false, not_false_eq_true, jU_eq, jU_ne, jU_U, jV_eq, jV_ne, jV_V, kn_lit, kn_add, kn_mul, kn_sdm, kn_sub, kn_div, kn_nsdm, kn_lt, kn_eq, kn_pred, kn_m1, kn_m1', kn_a31, kn_shl, kn_shr, kn_bit, nB_0, nB_1, nB_t, nB_f, Nat.zero_add, Nat.add_zero, Nat.reduceAdd, Nat.reduceMul, Nat.reduceSub, Nat.reducePow]
    refine jW_bn (c_run hL hQ (jSd_Sc hV hJ1.1) hJ1.2 hn hN) (fun J2 hJ2 => ?_)
    obtain ⟨⟨k1, k2⟩, -⟩ := hJ2
    have hQ2 := jQC_Sd hL k1 hQ
    generalize s_dy τ ω n (s + nI k) r N = yy at k2 p1 a1 a2 ih
    have c1 := c_comersThat hL (Or.inr rfl) hQ2.1.1 ho k2.1 p1 (how := 1) (by omega)
    have c2 := c_comersThat hL (Or.inr rfl) hQ2.1.1 ho k2.1 p1 (how := 2) (by omega)
    have ih' := ih J2 k1
    unfold s_spu at ih'
    generalize s_sp τ ω r s n N k = z at b1 b2 b3 b4 ih' ⊢
    obtain ⟨z1, z2, z3⟩ := z
    dsimp only at b1 b2 b3 b4 ih' ⊢
    have e1 : (if s_came τ yy.2.1 1 < z1.elim 10 id then nI (s_came τ yy.2.1 1) else nI (z1.elim 10 id)) = nI ((some (z1.elim (s_came τ yy.2.1 1) (fun v => s_mn v (s_came τ yy.2.1 1)))).elim 10 id) := by
      cases z1 with
      | none =>
        show (if s_came τ yy.2.1 1 < 10 then nI (s_came τ yy.2.1 1) else nI 10) = nI (s_came τ yy.2.1 1)
        by_cases h9 : s_came τ yy.2.1 1 < 10
        · rw [if_pos h9]
        · rw [if_neg h9]; congr 1; omega
      | some v => exact kn_mn
    have e2 : (if z2 < s_came τ yy.2.1 1 then nI (s_came τ yy.2.1 1) else nI z2) = nI (if s_came τ yy.2.1 1 < z2 then z2 else s_came τ yy.2.1 1) := by
      by_cases h9 : z2 < s_came τ yy.2.1 1
      · rw [if_pos h9, if_neg (by omega)]
      · rw [if_neg h9]
        by_cases h8 : s_came τ yy.2.1 1 < z2
        · rw [if_pos h8]
        · rw [if_neg h8]; congr 1; omega
    have z110 : z1.elim 10 id ≤ 10 := by
      cases z1 with
      | none => exact Nat.le_refl 10
      | some v => exact b3 v rfl
    by_cases hc : s_came τ yy.2.1 2 = s_came τ r 2
    · rw [if_pos hc] at ih'
      have hc' : nI (s_came τ yy.2.1 2) = nI (s_came τ r 2) := by rw [hc]
      simp (disch := omega) only [c1, c2, hc', e1, e2, F_SG_span_b156, ↓dK_64 hL, ↓dG_64 hL, ↓dP_64 hL, ↓dR_64_3 hL, ↓dR_95_0 hL, ↓dR_102_0 hL, ↓dR_105_0 hL, ↓dK_90 hL, ↓dG_90 hL, ↓dP_90 hL, ↓dZ_90 hL (x := nI 0) (Or.inl rfl), ↓dZ_90 hL (x := nI 1) (Or.inr rfl), ↓dZ_90 hL (Or.inl rfl), ↓dZ_90 hL (Or.inr rfl), ↓dZ_90 hL (nB_01 _), ↓reduceIte, ↓kq_bi, ↓kq_let, ↓kq_rz0, ↓kq_rz1, ↓kq_rzB, ↓Option.bind_some, kq_dvn, kt_lt, kf_lt, kt_eq, kf_eq, decide_true, decide_false, eq_self, Bool.false_eq_true, Bool.true_eq_false, not_true_eq_false, not_false_eq_true, jU_eq, jU_ne, jU_U, jV_eq, jV_ne, jV_V, kn_lit, kn_add, kn_mul, kn_sdm, kn_sub, kn_div, kn_nsdm, kn_lt, kn_eq, kn_pred, kn_m1, kn_m1', kn_a31, kn_shl, kn_shr, kn_bit, nB_0, nB_1, nB_t, nB_f, Nat.zero_add, Nat.add_zero, Nat.reduceAdd, Nat.reduceMul, Nat.reduceSub, Nat.reducePow]
      exact ih'
    · rw [if_neg hc] at ih'
      simp (disch := omega) only [c1, c2, e1, e2, F_SG_span_b156, ↓dK_64 hL, ↓dG_64 hL, ↓dP_64 hL, ↓dR_64_3 hL, ↓dR_95_0 hL, ↓dR_102_0 hL, ↓dR_105_0 hL, ↓dK_90 hL, ↓dG_90 hL, ↓dP_90 hL, ↓dZ_90 hL (x := nI 0) (Or.inl rfl), ↓dZ_90 hL (x := nI 1) (Or.inr rfl), ↓dZ_90 hL (Or.inl rfl), ↓dZ_90 hL (Or.inr rfl), ↓dZ_90 hL (nB_01 _), ↓reduceIte, ↓kq_bi, ↓kq_let, ↓kq_rz0, ↓kq_rz1, ↓kq_rzB, ↓Option.bind_some, kq_dvn, kt_lt, kf_lt, kt_eq, kf_eq, decide_true, decide_false, eq_self, Bool.false_eq_true, Bool.true_eq_false, not_true_eq_false, not_false_eq_true, jU_eq, jU_ne, jU_U, jV_eq, jV_ne, jV_V, kn_lit, kn_add, kn_mul, kn_sdm, kn_sub, kn_div, kn_nsdm, kn_lt, kn_eq, kn_pred, kn_m1, kn_m1', kn_a31, kn_shl, kn_shr, kn_bit, nB_0, nB_1, nB_t, nB_f, Nat.zero_add, Nat.add_zero, Nat.reduceAdd, Nat.reduceMul, Nat.reduceSub, Nat.reducePow]
      exact ih'
  · obtain ⟨b1, b2, b3, b4⟩ := s_sp_le (ω := ω) (r := r) ho (s := s) (n := n) (N := N) M
    have fin := hP J hV
    unfold s_span at fin
    show jW (F_SG_span_c86 (F_SG_span_l86 F) 64 s (nI M) (nI n) (nI N) (nI w) (nI ((s_sp τ ω r s n N M).1.elim 10 id)) (nI (s_sp τ ω r s n N M).2.1) (nI (s_sp τ ω r s n N M).2.2) (nI (s_came τ r 2)) (nI M) (jz_I h J)) P
    unfold F_SG_span_c86
    have b5 := b4 hM1
    generalize s_sp τ ω r s n N M = z at fin b5 ⊢
    obtain ⟨z1, z2, z3⟩ := z
    cases z1 with
    | none => cases b5
    | some v =>
      dsimp only [Option.elim_some, id] at fin ⊢
      have : w = 0 ∨ w = 1 ∨ w = 2 := by omega
      rcases this with rfl | rfl | rfl
      · rw [if_pos (show (0 : Nat) = 0 from rfl)] at fin
        simp (disch := omega) only [F_SG_span_b185, ↓reduceIte, ↓kq_bi, ↓kq_let, ↓kq_rz0, ↓kq_rz1, ↓kq_rzB, ↓Option.bind_some, kq_dvn, kt_lt, kf_lt, kt_eq, kf_eq, decide_true, decide_false, eq_self, Bool.false_eq_true, Bool.true_eq_false, not_true_eq_false, not_false_eq_true, jU_eq, jU_ne, jU_U, jV_eq, jV_ne, jV_V, kn_lit, kn_add, kn_mul, kn_sdm, kn_sub, kn_div, kn_nsdm, kn_lt, kn_eq, kn_pred, kn_m1, kn_m1', kn_a31, kn_shl, kn_shr, kn_bit, nB_0, nB_1, nB_t, nB_f, Nat.zero_add, Nat.add_zero, Nat.reduceAdd, Nat.reduceMul, Nat.reduceSub, Nat.reducePow]
        exact jW_s fin
      · rw [if_neg (show ¬ (1 : Nat) = 0 by decide), if_pos (show (1 : Nat) = 1 from rfl)] at fin
        simp (disch := omega) only [F_SG_span_b185, ↓reduceIte, ↓kq_bi, ↓kq_let, ↓kq_rz0, ↓kq_rz1, ↓kq_rzB, ↓Option.bind_some, kq_dvn, kt_lt, kf_lt, kt_eq, kf_eq, decide_true, decide_false, eq_self, Bool.false_eq_true, Bool.true_eq_false, not_true_eq_false, not_false_eq_true, jU_eq, jU_ne, jU_U, jV_eq, jV_ne, jV_V, kn_lit, kn_add, kn_mul, kn_sdm, kn_sub, kn_div, kn_nsdm, kn_lt, kn_eq, kn_pred, kn_m1, kn_m1', kn_a31, kn_shl, kn_shr, kn_bit, nB_0, nB_1, nB_t, nB_f, Nat.zero_add, Nat.add_zero, Nat.reduceAdd, Nat.reduceMul, Nat.reduceSub, Nat.reducePow]
        exact jW_s fin
      · rw [if_neg (show ¬ (2 : Nat) = 0 by decide), if_neg (show ¬ (2 : Nat) = 1 by decide)] at fin
        simp (disch := omega) only [F_SG_span_b185, ↓reduceIte, ↓kq_bi, ↓kq_let, ↓kq_rz0, ↓kq_rz1, ↓kq_rzB, ↓Option.bind_some, kq_dvn, kt_lt, kf_lt, kt_eq, kf_eq, decide_true, decide_false, eq_self, Bool.false_eq_true, Bool.true_eq_false, not_true_eq_false, not_false_eq_true, jU_eq, jU_ne, jU_U, jV_eq, jV_ne, jV_V, kn_lit, kn_add, kn_mul, kn_sdm, kn_sub, kn_div, kn_nsdm, kn_lt, kn_eq, kn_pred, kn_m1, kn_m1', kn_a31, kn_shl, kn_shr, kn_bit, nB_0, nB_1, nB_t, nB_f, Nat.zero_add, Nat.add_zero, Nat.reduceAdd, Nat.reduceMul, Nat.reduceSub, Nat.reducePow]
        exact jW_s fin
theorem m_span (hL : jLay t u l m b c h) (hQ : jQM I τ ω r) {n N M w : Nat} {s : Int32} (hM1 : 1 ≤ M) (hM : M ≤ 20) (hn : n ≤ 16) (h1 : 1 ≤ N) (hN : N ≤ 96) (hw : w ≤ 2) : ∃ J, F_Mod_span 205 s (nI M) (nI n) (nI N) (nI w) (jz_I h I) = some (s_span τ ω r s M n N w, jz_I h J) ∧ jN I J := by
  have N0 := jN_0 hQ
  have ho := hQ.1.2.1
  refine jE_i (fun P hP => ?_)
  unfold F_Mod_span
  simp (disch := omega) only [m_areDays, m_in1, m_bad0 hL N0.2.2.2, F_Mod_span_b40, ↓dK_205 hL, ↓dG_205 hL, ↓dP_205 hL, ↓dZ_205 hL (x := nI 0) (Or.inl rfl), ↓dZ_205 hL (x := nI 1) (Or.inr rfl), ↓dZ_205 hL (Or.inl rfl), ↓dZ_205 hL (Or.inr rfl), ↓dZ_205 hL (nB_01 _), ↓reduceIte, ↓kq_bi, ↓kq_let, ↓kq_rz0, ↓kq_rz1, ↓kq_rzB, ↓Option.bind_some, kq_dvn, kt_lt, kf_lt, kt_eq, kf_eq, decide_true, decide_false, eq_self, Bool.false_eq_true, Bool.true_eq_false, not_true_eq_false, not_false_eq_true, jU_eq, jU_ne, jU_U, jV_eq, jV_ne, jV_V, kn_lit, kn_add, kn_mul, kn_sdm, kn_sub, kn_div, kn_nsdm, kn_lt, kn_eq, kn_pred, kn_m1, kn_m1', kn_a31, kn_shl, kn_shr, kn_bit, nB_0, nB_1, nB_t, nB_f, Nat.zero_add, Nat.add_zero, Nat.reduceAdd, Nat.reduceMul, Nat.reduceSub, Nat.reducePow]
  refine jW_for0 (f := fun fuel k (J : Nat → Nat → Int32) => F_Mod_span_l62 fuel 205 s (nI M) (nI n) (nI N) (nI w) (nO (s_sp τ ω r s n N k).1) (nI (s_sp τ ω r s n N k).2.1) (nI (s_sp τ ω r s n N k).2.2) (nI k) (jz_I h J)) M (fun k J => jN I J) _ N0 (by omega) (fun F k J hk hV ih => ?_) (fun F J hV => ?_)
  · have hQ' := jN_QM hV hQ
    obtain ⟨b1, b2, b3, b4⟩ := s_sp_le (ω := ω) (r := r) ho (s := s) (n := n) (N := N) k
    obtain ⟨p1, -⟩ := s_dy_ok (ω := ω) ho hQ.2.2.1 hQ.2.2.2 (s := s + nI k) (n := n) N (by omega)
    have a1 := s_came_le (τ := τ) (q := (s_dy τ ω n (s + nI k) r N).2.1) (how := 1) ho
    have a2 := s_came_le (τ := τ) (q := (s_dy τ ω n (s + nI k) r N).2.1) (how := 2) ho
    have a3 := s_came_le (τ := τ) (q := r) (how := 2) ho
    have es : s_sp τ ω r s n N (k + 1) = s_spu (s_came τ (s_dy τ ω n (s + nI k) r N).2.1 1) (s_came τ (s_dy τ ω n (s + nI k) r N).2.1 2) (s_came τ r 2) (s_sp τ ω r s n N k) := rfl
    rw [es] at ih
    show jW (F_Mod_span_c62 (F_Mod_span_l62 F) 205 s (nI M) (nI n) (nI N) (nI w) (nO (s_sp τ ω r s n N k).1) (nI (s_sp τ ω r s n N k).2.1) (nI (s_sp τ ω r s n N k).2.2) (nI k) (jz_I h J)) P
    unfold F_Mod_span_c62
    simp (disch := omega) only [↓dK_205 hL, ↓dG_205 hL, ↓dP_205 hL, ↓dZ_205 hL (x := nI 0) (Or.inl rfl), ↓dZ_205 hL (x := nI 1) (Or.inr rfl), ↓dZ_205 hL (Or.inl rfl), ↓dZ_205 hL (Or.inr rfl), ↓dZ_205 hL (nB_01 _), ↓reduceIte, ↓kq_bi, ↓kq_let, ↓kq_rz0, ↓kq_rz1, ↓kq_rzB, ↓Option.bind_some, kq_dvn, kt_lt, kf_lt, kt_eq, kf_eq, decide_true, decide_false, eq_self, Bool.false_eq_true, Bool.true_eq_false, not_true_eq_false, not_false_eq_true, jU_eq, jU_ne, jU_U, jV_eq, jV_ne, jV_V, kn_lit, kn_add, kn_mul, kn_sdm, kn_sub, kn_div, kn_nsdm, kn_lt, kn_eq, kn_pred, kn_m1, kn_m1', kn_a31, kn_shl, kn_shr, kn_bit, nB_0, nB_1, nB_t, nB_f, Nat.zero_add, Nat.add_zero, Nat.reduceAdd, Nat.reduceMul, Nat.reduceSub, Nat.reducePow]
    refine jW_bn (m_daysBy hL hQ hV hn hN) (fun J2 hJ2 => ?_)
    obtain ⟨⟨k1, k2⟩, -⟩ := hJ2
    have hQ2 := jN_QM k1 hQ
    generalize s_dy τ ω n (s + nI k) r N = yy at k2 p1 a1 a2 ih
    have c1 := m_cameIn hL hQ2.1.1 ho (Or.inr rfl) k2 p1 (how := 1) (by omega)
    have c2 := m_cameIn hL hQ2.1.1 ho (Or.inr rfl) k2 p1 (how := 2) (by omega)
    have c3 := m_cameIn hL hQ2.1.1 ho (Or.inl rfl) hQ2.2.1 hQ.2.2.1 (how := 2) (by omega)
    have ih' := ih J2 k1
    unfold s_spu at ih'
    generalize s_sp τ ω r s n N k = z at b1 b2 b3 b4 ih' ⊢
    obtain ⟨z1, z2, z3⟩ := z
    dsimp only at b1 b2 b3 b4 ih' ⊢
    have key : ∀ v : Nat, v = z1.elim (s_came τ yy.2.1 1) (fun v => s_mn v (s_came τ yy.2.1 1)) → jW (F_Mod_span_b108 (F_Mod_span_l62 F) 205 s (nI M) (nI n) (nI N) (nI w) (nI z2) (nI z3) (nI k) (nI (s_came τ yy.2.1 1)) (nI v) (jz_I h J2)) P := fun v hv => by
      rw [← hv] at ih'
      unfold F_Mod_span_b108
      by_cases hc : s_came τ yy.2.1 2 = s_came τ r 2
      · rw [if_pos hc] at ih'
        have hc' : nI (s_came τ yy.2.1 2) = nI (s_came τ r 2) := by rw [hc]
        simp (disch := omega) only [m_more, c2, c3, hc', F_Mod_span_b147, ↓dK_205 hL, ↓dG_205 hL, ↓dP_205 hL, ↓dZ_205 hL (x := nI 0) (Or.inl rfl), ↓dZ_205 hL (x := nI 1) (Or.inr rfl), ↓dZ_205 hL (Or.inl rfl), ↓dZ_205 hL (Or.inr rfl), ↓dZ_205 hL (nB_01 _), ↓dR_205_35 hL, dI_691 hL, dS_691 hL, ↓dR_205_36 hL, dI_692 hL, dS_692 hL, ↓reduceIte, ↓kq_bi, ↓kq_let, ↓kq_rz0, ↓kq_rz1, ↓kq_rzB, ↓Option.bind_some, kq_dvn, kt_lt, kf_lt, kt_eq, kf_eq, decide_true, decide_false, eq_self, Bool.false_eq_true, Bool.true_eq_false, not_true_eq_false, not_false_eq_true, jU_eq, jU_ne, jU_U, jV_eq, jV_ne, jV_V, kn_lit, kn_add, kn_mul, kn_sdm, kn_sub, kn_div, kn_nsdm, kn_lt, kn_eq, kn_pred, kn_m1, kn_m1', kn_a31, kn_shl, kn_shr, kn_bit, nB_0, nB_1, nB_t, nB_f, Nat.zero_add, Nat.add_zero, Nat.reduceAdd, Nat.reduceMul, Nat.reduceSub, Nat.reducePow]
        exact ih'
      · rw [if_neg hc] at ih'
        simp (disch := omega) only [m_more, c2, c3, F_Mod_span_b147, ↓dK_205 hL, ↓dG_205 hL, ↓dP_205 hL, ↓dZ_205 hL (x := nI 0) (Or.inl rfl), ↓dZ_205 hL (x := nI 1) (Or.inr rfl), ↓dZ_205 hL (Or.inl rfl), ↓dZ_205 hL (Or.inr rfl), ↓dZ_205 hL (nB_01 _), ↓dR_205_35 hL, dI_691 hL, dS_691 hL, ↓dR_205_36 hL, dI_692 hL, dS_692 hL, ↓reduceIte, ↓kq_bi, ↓kq_let, ↓kq_rz0, ↓kq_rz1, ↓kq_rzB, ↓Option.bind_some, kq_dvn, kt_lt, kf_lt, kt_eq, kf_eq, decide_true, decide_false, eq_self, Bool.false_eq_true, Bool.true_eq_false, not_true_eq_false, not_false_eq_true, jU_eq, jU_ne, jU_U, jV_eq, jV_ne, jV_V, kn_lit, kn_add, kn_mul, kn_sdm, kn_sub, kn_div, kn_nsdm, kn_lt, kn_eq, kn_pred, kn_m1, kn_m1', kn_a31, kn_shl, kn_shr, kn_bit, nB_0, nB_1, nB_t, nB_f, Nat.zero_add, Nat.add_zero, Nat.reduceAdd, Nat.reduceMul, Nat.reduceSub, Nat.reducePow]
        exact ih'
    cases z1 with
    | none =>
      have g2 := key _ rfl
      simp (disch := omega) only [c1, nO_none, ↓dK_205 hL, ↓dG_205 hL, ↓dP_205 hL, ↓dZ_205 hL (x := nI 0) (Or.inl rfl), ↓dZ_205 hL (x := nI 1) (Or.inr rfl), ↓dZ_205 hL (Or.inl rfl), ↓dZ_205 hL (Or.inr rfl), ↓dZ_205 hL (nB_01 _), ↓dR_205_36 hL, dI_692 hL, dS_692 hL, ↓reduceIte, ↓kq_bi, ↓kq_let, ↓kq_rz0, ↓kq_rz1, ↓kq_rzB, ↓Option.bind_some, kq_dvn, kt_lt, kf_lt, kt_eq, kf_eq, decide_true, decide_false, eq_self, Bool.false_eq_true, Bool.true_eq_false, not_true_eq_false, not_false_eq_true, jU_eq, jU_ne, jU_U, jV_eq, jV_ne, jV_V, kn_lit, kn_add, kn_mul, kn_sdm, kn_sub, kn_div, kn_nsdm, kn_lt, kn_eq, kn_pred, kn_m1, kn_m1', kn_a31, kn_shl, kn_shr, kn_bit, nB_0, nB_1, nB_t, nB_f, Nat.zero_add, Nat.add_zero, Nat.reduceAdd, Nat.reduceMul, Nat.reduceSub, Nat.reducePow]
      exact g2
    | some v =>
      have hv := b3 v rfl
      have g2 := key _ rfl
      have em : (if v < s_came τ yy.2.1 1 then v else s_came τ yy.2.1 1) = s_mn v (s_came τ yy.2.1 1) := rfl
      simp (disch := omega) only [c1, nO_some, m_less, em, ↓dK_205 hL, ↓dG_205 hL, ↓dP_205 hL, ↓dZ_205 hL (x := nI 0) (Or.inl rfl), ↓dZ_205 hL (x := nI 1) (Or.inr rfl), ↓dZ_205 hL (Or.inl rfl), ↓dZ_205 hL (Or.inr rfl), ↓dZ_205 hL (nB_01 _), ↓dR_205_36 hL, dI_692 hL, dS_692 hL, ↓reduceIte, ↓kq_bi, ↓kq_let, ↓kq_rz0, ↓kq_rz1, ↓kq_rzB, ↓Option.bind_some, kq_dvn, kt_lt, kf_lt, kt_eq, kf_eq, decide_true, decide_false, eq_self, Bool.false_eq_true, Bool.true_eq_false, not_true_eq_false, not_false_eq_true, jU_eq, jU_ne, jU_U, jV_eq, jV_ne, jV_V, kn_lit, kn_add, kn_mul, kn_sdm, kn_sub, kn_div, kn_nsdm, kn_lt, kn_eq, kn_pred, kn_m1, kn_m1', kn_a31, kn_shl, kn_shr, kn_bit, nB_0, nB_1, nB_t, nB_f, Nat.zero_add, Nat.add_zero, Nat.reduceAdd, Nat.reduceMul, Nat.reduceSub, Nat.reducePow]
      exact g2
  · have fin := hP J hV
    unfold s_span at fin
    show jW (F_Mod_span_c62 (F_Mod_span_l62 F) 205 s (nI M) (nI n) (nI N) (nI w) (nO (s_sp τ ω r s n N M).1) (nI (s_sp τ ω r s n N M).2.1) (nI (s_sp τ ω r s n N M).2.2) (nI M) (jz_I h J)) P
    unfold F_Mod_span_c62
    generalize s_sp τ ω r s n N M = z at fin ⊢
    have : w = 0 ∨ w = 1 ∨ w = 2 := by omega
    rcases this with rfl | rfl | rfl
    · rw [if_pos (show (0 : Nat) = 0 from rfl)] at fin
      simp (disch := omega) only [F_Mod_span_b179, ↓reduceIte, ↓kq_bi, ↓kq_let, ↓kq_rz0, ↓kq_rz1, ↓kq_rzB, ↓Option.bind_some, kq_dvn, kt_lt, kf_lt, kt_eq, kf_eq, decide_true, decide_false, eq_self, Bool.false_eq_true, Bool.true_eq_false, not_true_eq_false, not_false_eq_true, jU_eq, jU_ne, jU_U, jV_eq, jV_ne, jV_V, kn_lit, kn_add, kn_mul, kn_sdm, kn_sub, kn_div, kn_nsdm, kn_lt, kn_eq, kn_pred, kn_m1, kn_m1', kn_a31, kn_shl, kn_shr, kn_bit, nB_0, nB_1, nB_t, nB_f, Nat.zero_add, Nat.add_zero, Nat.reduceAdd, Nat.reduceMul, Nat.reduceSub, Nat.reducePow]
      exact jW_s fin
    · rw [if_neg (show ¬ (1 : Nat) = 0 by decide), if_pos (show (1 : Nat) = 1 from rfl)] at fin
      simp (disch := omega) only [F_Mod_span_b179, ↓reduceIte, ↓kq_bi, ↓kq_let, ↓kq_rz0, ↓kq_rz1, ↓kq_rzB, ↓Option.bind_some, kq_dvn, kt_lt, kf_lt, kt_eq, kf_eq, decide_true, decide_false, eq_self, Bool.false_eq_true, Bool.true_eq_false, not_true_eq_false, not_false_eq_true, jU_eq, jU_ne, jU_U, jV_eq, jV_ne, jV_V, kn_lit, kn_add, kn_mul, kn_sdm, kn_sub, kn_div, kn_nsdm, kn_lt, kn_eq, kn_pred, kn_m1, kn_m1', kn_a31, kn_shl, kn_shr, kn_bit, nB_0, nB_1, nB_t, nB_f, Nat.zero_add, Nat.add_zero, Nat.reduceAdd, Nat.reduceMul, Nat.reduceSub, Nat.reducePow]
      exact jW_s fin
    · rw [if_neg (show ¬ (2 : Nat) = 0 by decide), if_neg (show ¬ (2 : Nat) = 1 by decide)] at fin
      simp (disch := omega) only [F_Mod_span_b179, ↓reduceIte, ↓kq_bi, ↓kq_let, ↓kq_rz0, ↓kq_rz1, ↓kq_rzB, ↓Option.bind_some, kq_dvn, kt_lt, kf_lt, kt_eq, kf_eq, decide_true, decide_false, eq_self, Bool.false_eq_true, Bool.true_eq_false, not_true_eq_false, not_false_eq_true, jU_eq, jU_ne, jU_U, jV_eq, jV_ne, jV_V, kn_lit, kn_add, kn_mul, kn_sdm, kn_sub, kn_div, kn_nsdm, kn_lt, kn_eq, kn_pred, kn_m1, kn_m1', kn_a31, kn_shl, kn_shr, kn_bit, nB_0, nB_1, nB_t, nB_f, Nat.zero_add, Nat.add_zero, Nat.reduceAdd, Nat.reduceMul, Nat.reduceSub, Nat.reducePow]
      exact jW_s fin
end

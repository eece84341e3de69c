/-! PLAIN LEAN: work; its steps while they are read -/
/-- a step: 0 kind (log, douse, hour, again), 1 and 2 its numbers, 3 where it goes on (0: not yet known), 4 how deep it stands -/
def s_pv (kd a b x o : Nat) : Nat → Nat := fun j => if j = 0 then kd else if j = 1 then a else if j = 2 then b else if j = 3 then x else o
def s_psh (v : Nat → Nat) (π : JLw) : JLw := (π.1 + 1, fun i j => if i = π.1 then v j else π.2 i j)
def s_sn (i x : Nat) (π : JLw) : JLw := (π.1, fun i' j => if i' = i ∧ j = 3 then x else π.2 i' j)
theorem s_psh_eq {v : Nat → Nat} {π : JLw} {j : Nat} : (s_psh v π).2 π.1 j = v j := if_pos rfl
theorem s_psh_ne {v : Nat → Nat} {π : JLw} {i j : Nat} (hi : ¬ i = π.1) : (s_psh v π).2 i j = π.2 i j := if_neg hi
theorem s_sn_eq {i x : Nat} {π : JLw} : (s_sn i x π).2 i 3 = x := if_pos ⟨rfl, rfl⟩
theorem s_sn_i {i x i' j : Nat} {π : JLw} (h : ¬ i' = i) : (s_sn i x π).2 i' j = π.2 i' j := if_neg (fun z => h z.1)
theorem s_sn_j {i x i' j : Nat} {π : JLw} (h : ¬ j = 3) : (s_sn i x π).2 i' j = π.2 i' j := if_neg (fun z => h z.2)
def jPsC (J : Nat → Nat → Int32) (f : Nat → Nat → Nat) (i : Nat) : Prop := J 68 (3 * i) = nI (f i 0 + 1) ∧ (¬ f i 0 = 2 → J 68 (3 * i + 1) = nI (f i 1)) ∧ (f i 0 = 0 → J 68 (3 * i + 2) = nI (f i 2)) ∧ (f i 0 = 3 → ¬ f i 3 = 0 → J 68 (3 * i + 2) = nI (3 * f i 3))
def jPsM (J : Nat → Nat → Int32) (f : Nat → Nat → Nat) (i : Nat) : Prop := J (611 + i) 0 = nI (f i 0) ∧ (¬ f i 0 = 2 → J (611 + i) 1 = nI (f i 1)) ∧ (f i 0 = 0 → J (611 + i) 2 = nI (f i 2)) ∧ (¬ f i 3 = 0 → J (611 + i) 3 = nI (f i 3))
def jPC (h : LH) (J : Nat → Nat → Int32) (tp : Nat → Nat) (n : Nat) (s : JLs) : Prop := jStr h J ∧ jTX J tp n s.1 ∧ ∃ k, k ≤ 150 ∧ J 67 1 = nI (3 * k) ∧ (s.1.2.1 = 0 → k = s.2.1 ∧ ∀ i, i < k → jPsC J s.2.2 i)
def jPM (J : Nat → Nat → Int32) (tp : Nat → Nat) (n o : Nat) (s : JLs) : Prop := jTM J tp n s.1 ∧ (s.1.2.1 = 0 → (J 205 34 = nI s.2.1 ∧ J 205 8 = nI o) ∧ ∀ i, i < s.2.1 → jPsM J s.2.2 i)
def jPFc (J K : Nat → Nat → Int32) : Prop := K 65 1 = J 65 1 ∧ ∀ a, ¬ a = 65 → ¬ a = 67 → ¬ a = 68 → K a = J a
def jPFm (J K : Nat → Nat → Int32) : Prop := (∀ f, ¬ f = 4 → ¬ f = 5 → ¬ f = 6 → ¬ f = 8 → ¬ f = 34 → K 205 f = J 205 f) ∧ ∀ a, ¬ a = 205 → ¬ (611 ≤ a ∧ a < 691) → K a = J a
/-- a step that is whole -/
def jPok (τ : JTn) (f : Nat → Nat → Nat) (k i : Nat) : Prop := (i < f i 3 ∧ (¬ f i 0 = 3 → f i 3 = i + 1)) ∧ f i 3 ≤ k ∧ f i 0 ≤ 3 ∧ f i 4 ≤ 6 ∧ (f i 0 < 2 → f i 1 < τ 0 0) ∧ (f i 0 = 0 → f i 2 < τ 0 1) ∧ (f i 0 = 3 → f i 1 ≤ 30 ∧ f i 4 ≤ 5 ∧ ∀ j, i < j → j < f i 3 → f i 4 + 1 ≤ f j 4)
def jPG (τ : JTn) (n : Nat) (s : JLs) : Prop := jTy n s.1 ∧ n ≤ 150 ∧ (s.1.2.1 = 0 → 3 * s.2.1 ≤ s.1.1 ∧ ∀ i, i < s.2.1 → ¬ s.2.2 i 3 = 0 → jPok τ s.2.2 s.2.1 i)
def jPU (o : Nat) (s s' : JLs) : Prop := s'.1.2.1 = 0 → s.1.2.1 = 0 ∧ s.2.1 ≤ s'.2.1 ∧ 3 * s'.2.1 + s.1.1 ≤ s'.1.1 + 3 * s.2.1 ∧ s.1.1 ≤ s'.1.1 ∧ (∀ i j, i < s.2.1 → s'.2.2 i j = s.2.2 i j) ∧ ∀ i, s.2.1 ≤ i → i < s'.2.1 → ¬ s'.2.2 i 3 = 0 ∧ o ≤ s'.2.2 i 4
section
variable {t u l m b c : Nat} {h : LH} {I J K : Nat → Nat → Int32} {tp : Nat → Nat} {n o : Nat} {y z : JTs} {x : Int32} {s s' : JLs} {π : JLw} {τ : JTn}
theorem dL_68 (hL : jLay t u l m b c h) {Q : Type} {K : Int32 → Option Q} : jf_al (jz_I h I) 68 K = K (nI 450) := (if_pos (Or.inl (by rw [show jl_kd (jz_I h I) 68 = 20 from lk_68 hL]; decide))).trans (by rw [show jl_ln (jz_I h I) 68 = 450 from ll_68 hL]; rfl)
theorem jPFc_trans {L : Nat → Nat → Int32} (h1 : jPFc J K) (h2 : jPFc K L) : jPFc J L := ⟨h2.1.trans h1.1, fun a x1 x2 x3 => (h2.2 a x1 x2 x3).trans (h1.2 a x1 x2 x3)⟩
theorem jPFc_T1 (h1 : jT1 J K) : jPFc J K := ⟨h1.1, fun a x1 _ _ => h1.2 a x1⟩
theorem jPFc_r : jPFc J J := ⟨rfl, fun _ _ _ _ => rfl⟩
theorem jPFm_trans {L : Nat → Nat → Int32} (h1 : jPFm J K) (h2 : jPFm K L) : jPFm J L := ⟨fun f x1 x2 x3 x4 x5 => (h2.1 f x1 x2 x3 x4 x5).trans (h1.1 f x1 x2 x3 x4 x5), fun a x1 x2 => (h2.2 a x1 x2).trans (h1.2 a x1 x2)⟩
theorem jPFm_M1 (h1 : jM1 J K) : jPFm J K := ⟨fun f x1 x2 x3 _ _ => h1.1 f x1 x2 x3, fun a x1 _ => h1.2 a x1⟩
theorem jPFm_r : jPFm J J := ⟨fun _ _ _ _ _ _ => rfl, fun _ _ _ => rfl⟩
theorem jPC_T1 (hJ : jPC h J tp n (y, π)) (hX : jTX K tp n z) (h1 : jT1 J K) (h0 : z.2.1 = 0 → y.2.1 = 0) : jPC h K tp n (z, π) := by
  obtain ⟨hS, -, k, a1, a2, a3⟩ := hJ
  refine ⟨jStr_T1 hS h1, hX, k, a1, ?_, fun e => ?_⟩
  · rw [h1.2 67 (by omega)]; exact a2
  · obtain ⟨b1, b2⟩ := a3 (h0 e)
    refine ⟨b1, fun i hi => ?_⟩
    have := b2 i hi
    unfold jPsC at this ⊢
    rw [h1.2 68 (by omega)]; exact this
theorem jPM_M1 (hJ : jPM J tp n o (y, π)) (hX : jTM K tp n z) (h1 : jM1 J K) (h0 : z.2.1 = 0 → y.2.1 = 0) : jPM K tp n o (z, π) := by
  refine ⟨hX, fun e => ?_⟩
  obtain ⟨⟨b1, b2⟩, b3⟩ := hJ.2 (h0 e)
  refine ⟨⟨(h1.1 34 (by omega) (by omega) (by omega)).trans b1, (h1.1 8 (by omega) (by omega) (by omega)).trans b2⟩, fun i hi => ?_⟩
  have := b3 i hi
  unfold jPsM at this ⊢
  rw [h1.2 (611 + i) (by omega)]; exact this
theorem jPM_nx (hJ : jPM J tp n o (y, π)) : jPM J tp n o (s_nx tp n y, π) := ⟨jTM_nx hJ.1, fun e => hJ.2 (by rw [s_nx_2] at e; exact e)⟩
theorem jPM_fl {a f p : Nat} (hJ : jTM J tp n (a, f, p)) (hf : ¬ f = 0) {a2 : Nat} (ha : a2 ≤ n) : jPM J tp n o ((a2, f, p), π) := ⟨jTM_fl hJ hf ha, fun e => absurd e hf⟩
theorem c_pput (hL : jLay t u l m b c h) {kd a b' x3' o' : Nat} {x1 x2 x3 : Int32} (hJ : jPC h J tp n s) (hx : s.1.2.1 = 0 → s.2.1 < 150 ∧ x1 = nI (kd + 1) ∧ (¬ kd = 2 → x2 = nI a) ∧ (kd = 0 → x3 = nI b') ∧ (kd = 3 → x3' = 0)) : ∃ K, F_Prog_put 67 x1 x2 x3 (jz_I h J) = some (jz_I h K) ∧ jPC h K tp n (s.1, s_psh (s_pv kd a b' x3' o') s.2) ∧ jPFc J K := by
  obtain ⟨hS, hX, k, k1, k2, k3⟩ := hJ
  refine jE_n (fun P hP => ?_)
  unfold F_Prog_put F_Prog_put_b58
  by_cases hk : k < 150
  · simp (disch := omega) only [k2, dL_68 hL, ↓dR_64_1 hL, ↓dK_67 hL, ↓dG_67 hL, ↓dP_67 hL, ↓dR_67_0 hL, dI_68 hL, dS_68 hL, ↓reduceIte, ↓kq_bi, ↓kq_let, ↓kq_rz0, ↓kq_rz1, ↓kq_rzB, ↓Option.bind_some, kq_dvn, kt_lt, kf_lt, kt_eq, kf_eq, decide_true, decide_false, eq_self, Bool.false_eq_true, Bool.true_eq_false, not_true_eq_false, not_false_eq_true, jU_eq, jU_ne, jU_U, jV_eq, jV_ne, jV_V, kn_lit, kn_add, kn_mul, kn_sdm, kn_sub, kn_div, kn_nsdm, kn_lt, kn_eq, kn_pred, kn_m1, kn_m1', kn_a31, kn_shl, kn_shr, kn_bit, nB_0, nB_1, nB_t, nB_f, Nat.zero_add, Nat.add_zero, Nat.reduceAdd, Nat.reduceMul, Nat.reduceSub, Nat.reducePow]
    refine jW_s (hP _ ⟨⟨jStr_eq hS (fun a ha => ?_), ?_, k + 1, by omega, ?_, fun e => ?_⟩, ?_, fun a a1 a2 a3 => ?_⟩)
    · simp (disch := omega) only [jU_ne]
    · exact jTX_U (jTX_U hX (by omega)) (by omega)
    · simp (disch := omega) only [jU_eq, jV_eq]; congr 1
    · obtain ⟨e1, e2⟩ := k3 e
      obtain ⟨x0, xa, xb, xc, xd⟩ := hx e
      refine ⟨by show k + 1 = s.2.1 + 1; omega, fun i hi => ?_⟩
      by_cases z : i = k
      · have ei : i = s.2.1 := by omega
        unfold jPsC
        rw [ei, s_psh_eq, s_psh_eq, s_psh_eq, s_psh_eq, ← e1]
        refine ⟨?_, fun w => ?_, fun w => ?_, fun w w2 => ?_⟩
        · simp (disch := omega) only [jU_eq, jU_ne, jV_ne, jV_eq]; exact xa
        · simp (disch := omega) only [jU_eq, jU_ne, jV_ne, jV_eq]; exact xb w
        · simp (disch := omega) only [jU_eq, jU_ne, jV_eq]; exact xc w
        · exact absurd (xd w) w2
      · have := e2 i (by omega)
        unfold jPsC at this ⊢
        rw [s_psh_ne (by omega), s_psh_ne (by omega), s_psh_ne (by omega), s_psh_ne (by omega)]
        simp (disch := omega) only [jU_eq, jU_ne, jV_ne]
        exact this
    · simp (disch := omega) only [jU_ne]
    · simp (disch := omega) only [jU_ne]
  · have hk9 : k = 150 := by omega
    rw [hk9] at k2
    simp (disch := omega) only [k2, dL_68 hL, ↓dR_64_1 hL, ↓dK_67 hL, ↓dG_67 hL, ↓dP_67 hL, ↓dR_67_0 hL, dI_68 hL, dS_68 hL, ↓reduceIte, ↓kq_bi, ↓kq_let, ↓kq_rz0, ↓kq_rz1, ↓kq_rzB, ↓Option.bind_some, kq_dvn, kt_lt, kf_lt, kt_eq, kf_eq, decide_true, decide_false, eq_self, Bool.false_eq_true, Bool.true_eq_false, not_true_eq_false, not_false_eq_true, jU_eq, jU_ne, jU_U, jV_eq, jV_ne, jV_V, kn_lit, kn_add, kn_mul, kn_sdm, kn_sub, kn_div, kn_nsdm, kn_lt, kn_eq, kn_pred, kn_m1, kn_m1', kn_a31, kn_shl, kn_shr, kn_bit, nB_0, nB_1, nB_t, nB_f, Nat.zero_add, Nat.add_zero, Nat.reduceAdd, Nat.reduceMul, Nat.reduceSub, Nat.reducePow]
    refine jW_s (hP J ⟨⟨hS, hX, k, k1, by rw [hk9]; exact k2, fun e => ?_⟩, jPFc_r⟩)
    have := (k3 e).1
    have := (hx e).1
    omega
/-- a loop is closed: where it goes on is known -/
theorem c_setn (hL : jLay t u l m b c h) {k0 i : Nat} (hJ : jPC h J tp n s) (hk0 : k0 < 150) (hi : s.1.2.1 = 0 → k0 = i ∧ i < s.2.1 ∧ s.2.2 i 0 = 3) : jPC h (jU J 68 (jV (J 68) (3 * k0 + 2) (J 67 1))) tp n (s.1, s_sn i s.2.1 s.2) ∧ jPFc J (jU J 68 (jV (J 68) (3 * k0 + 2) (J 67 1))) := by
  obtain ⟨hS, hX, k, k1, k2, k3⟩ := hJ
  refine ⟨⟨jStr_eq hS (fun a ha => jU_ne (by omega)), jTX_U hX (by omega), k, k1, by rw [jU_ne (by omega)]; exact k2, fun e => ?_⟩, by rw [jU_ne (by omega)], fun a _ _ a3 => jU_ne a3⟩
  obtain ⟨e1, e2⟩ := k3 e
  obtain ⟨i1, i2, i3⟩ := hi e
  refine ⟨e1, fun i' hi' => ?_⟩
  have := e2 i' hi'
  unfold jPsC at this ⊢
  obtain ⟨q1, q2, q3, q4⟩ := this
  rw [s_sn_j (show ¬ 0 = 3 by omega), s_sn_j (show ¬ 1 = 3 by omega), s_sn_j (show ¬ 2 = 3 by omega), jU_eq]
  by_cases z : i' = i
  · rw [z] at q1 q2 ⊢
    rw [s_sn_eq]
    refine ⟨by rw [jV_ne (by omega)]; exact q1, fun w => by rw [jV_ne (by omega)]; exact q2 w, fun w => absurd w (by omega), fun _ _ => ?_⟩
    rw [i1, jV_eq, k2, e1]
  · rw [s_sn_i z, jV_ne (by omega), jV_ne (by omega), jV_ne (by omega)]
    exact ⟨q1, q2, q3, q4⟩
theorem m_popens (hL : jLay t u l m b c h) (hJ : jPM J tp n o s) (h0 : s.1.2.1 = 0) (ho : o < 6) : ∃ K, F_Mod_opensOne 205 (jz_I h J) = some (nB true, jz_I h K) ∧ jPM K tp n (o + 1) s ∧ K 205 4 = J 205 4 ∧ jPFm J K := by
  have h5 := hJ.1.2.2.1.1
  obtain ⟨⟨b1, b2⟩, b3⟩ := hJ.2 h0
  rw [h0] at h5
  refine jE_i (fun P hP => ?_)
  unfold F_Mod_opensOne
  simp (disch := omega) only [h5, b2, F_Mod_opensOne_b28, F_Mod_opensOne_b45, F_Mod_opensOne_b57, ↓dK_205 hL, ↓dG_205 hL, ↓dP_205 hL, ↓dZ_205 hL (x := nI 0) (Or.inl rfl), ↓dZ_205 hL (x := nI 1) (Or.inr rfl), ↓dZ_205 hL (Or.inl rfl), ↓dZ_205 hL (Or.inr rfl), ↓dZ_205 hL (nB_01 _), ↓reduceIte, ↓kq_bi, ↓kq_let, ↓kq_rz0, ↓kq_rz1, ↓kq_rzB, ↓Option.bind_some, kq_dvn, kt_lt, kf_lt, kt_eq, kf_eq, decide_true, decide_false, eq_self, Bool.false_eq_true, Bool.true_eq_false, not_true_eq_false, not_false_eq_true, jU_eq, jU_ne, jU_U, jV_eq, jV_ne, jV_V, kn_lit, kn_add, kn_mul, kn_sdm, kn_sub, kn_div, kn_nsdm, kn_lt, kn_eq, kn_pred, kn_m1, kn_m1', kn_a31, kn_shl, kn_shr, kn_bit, nB_0, nB_1, nB_t, nB_f, Nat.zero_add, Nat.add_zero, Nat.reduceAdd, Nat.reduceMul, Nat.reduceSub, Nat.reducePow]
  refine jW_s (hP _ ⟨⟨jTM_eq hJ.1 (fun f hf => ?_) ?_, fun _ => ⟨⟨?_, ?_⟩, fun i hi => ?_⟩⟩, ?_, fun f a1 a2 a3 a4 a5 => ?_, fun a a1 a2 => ?_⟩)
  · simp (disch := omega) only [jU_eq, jV_ne]
  · simp (disch := omega) only [jU_ne]
  · simp (disch := omega) only [jU_eq, jV_ne]; exact b1
  · simp (disch := omega) only [jU_eq, jV_eq]
  · have := b3 i hi
    unfold jPsM at this ⊢
    rw [jU_ne (by omega)]; exact this
  · simp (disch := omega) only [jU_eq, jV_ne]
  · simp (disch := omega) only [jU_eq, jV_ne]
  · simp (disch := omega) only [jU_ne]
theorem m_popens6 (hL : jLay t u l m b c h) (hJ : jPM J tp n 6 s) (h0 : s.1.2.1 = 0) {p : Nat} (hp : p ≤ n) (h4 : J 205 4 = nI p) : ∃ K, F_Mod_opensOne 205 (jz_I h J) = some (nB false, jz_I h K) ∧ jTM K tp n (s_fa 3 p s.1) ∧ jPFm J K := by
  have h5 := hJ.1.2.2.1.1
  obtain ⟨⟨b1, b2⟩, b3⟩ := hJ.2 h0
  rw [h0] at h5
  refine jE_i (fun P hP => ?_)
  unfold F_Mod_opensOne
  simp (disch := omega) only [h5, b2, h4, ↓dK_205 hL, ↓dG_205 hL, ↓dP_205 hL, ↓dZ_205 hL (x := nI 0) (Or.inl rfl), ↓dZ_205 hL (x := nI 1) (Or.inr rfl), ↓dZ_205 hL (Or.inl rfl), ↓dZ_205 hL (Or.inr rfl), ↓dZ_205 hL (nB_01 _), ↓reduceIte, ↓kq_bi, ↓kq_let, ↓kq_rz0, ↓kq_rz1, ↓kq_rzB, ↓Option.bind_some, kq_dvn, kt_lt, kf_lt, kt_eq, kf_eq, decide_true, decide_false, eq_self, Bool.false_eq_true, Bool.true_eq_false, not_true_eq_false, not_false_eq_true, jU_eq, jU_ne, jU_U, jV_eq, jV_ne, jV_V, kn_lit, kn_add, kn_mul, kn_sdm, kn_sub, kn_div, kn_nsdm, kn_lt, kn_eq, kn_pred, kn_m1, kn_m1', kn_a31, kn_shl, kn_shr, kn_bit, nB_0, nB_1, nB_t, nB_f, Nat.zero_add, Nat.add_zero, Nat.reduceAdd, Nat.reduceMul, Nat.reduceSub, Nat.reducePow]
  refine jW_bn (m_wrong hL hJ.1 (show 1 ≤ 3 by omega) (by omega) hp) (fun K hK => ?_)
  have k5 := hK.1.2.2.1.1
  rw [show s_fa 3 p s.1 = (s.1.1, 3, p) from if_pos h0] at k5
  have k5 : K 205 5 = nI 3 := k5
  simp (disch := omega) only [k5, F_Mod_opensOne_b45, F_Mod_opensOne_b57, ↓dK_205 hL, ↓dG_205 hL, ↓dP_205 hL, ↓dZ_205 hL (x := nI 0) (Or.inl rfl), ↓dZ_205 hL (x := nI 1) (Or.inr rfl), ↓dZ_205 hL (Or.inl rfl), ↓dZ_205 hL (Or.inr rfl), ↓dZ_205 hL (nB_01 _), ↓reduceIte, ↓kq_bi, ↓kq_let, ↓kq_rz0, ↓kq_rz1, ↓kq_rzB, ↓Option.bind_some, kq_dvn, kt_lt, kf_lt, kt_eq, kf_eq, decide_true, decide_false, eq_self, Bool.false_eq_true, Bool.true_eq_false, not_true_eq_false, not_false_eq_true, jU_eq, jU_ne, jU_U, jV_eq, jV_ne, jV_V, kn_lit, kn_add, kn_mul, kn_sdm, kn_sub, kn_div, kn_nsdm, kn_lt, kn_eq, kn_pred, kn_m1, kn_m1', kn_a31, kn_shl, kn_shr, kn_bit, nB_0, nB_1, nB_t, nB_f, Nat.zero_add, Nat.add_zero, Nat.reduceAdd, Nat.reduceMul, Nat.reduceSub, Nat.reducePow]
  exact jW_s (hP K ⟨hK.1, jPFm_M1 hK.2.2⟩)
end

/-! PLAIN LEAN, 19: signals, siege, burnsOut -/
def s_ds (τ : JTn) (k v : Nat) : Nat := s_ones (τ 12 k ^^^ v) 10
/-- the nearest signal and its distance -/
def s_nr (τ : JTn) (v : Nat) : Nat → Option Nat
  | 0 => none
  | n + 1 => match s_nr τ v n with
    | none => some n
    | some b => if s_ds τ n v < s_ds τ b v then some n else some b
def s_clu (τ : JTn) (a b : Nat) (s : Option (Nat × Nat)) : Option (Nat × Nat) := match s with
  | none => some (10 * a + b, s_ds τ a (τ 12 b))
  | some q => if s_ds τ a (τ 12 b) < q.2 then some (10 * a + b, s_ds τ a (τ 12 b)) else some q
def s_cli (τ : JTn) (a : Nat) (s : Option (Nat × Nat)) : Nat → Option (Nat × Nat)
  | 0 => s
  | j + 1 => s_clu τ a (a + 1 + j) (s_cli τ a s j)
def s_clo (τ : JTn) : Nat → Option (Nat × Nat)
  | 0 => none
  | a + 1 => s_cli τ a (s_clo τ a) (τ 0 3 - (a + 1))
def s_mxi (r : JRw) (g m : Nat) : Nat → Nat
  | 0 => m
  | k + 1 => if s_mxi r g m k < r (54 + (6 * g + k)) then r (54 + (6 * g + k)) else s_mxi r g m k
def s_mxo (r : JRw) : Nat → Nat
  | 0 => 0
  | g + 1 => s_mxi r g (s_mxo r g) (r (108 + g))
section
variable {t u l m b c : Nat} {h : LH} {I J K : Nat → Nat → Int32} {τ : JTn} {r q : JRw} {σ ρ i : Nat} {Q : Type} {x : Int32} {d : Bool} {ω : JLw} {f : Nat → Int32}
theorem s_ones9 {v : Nat} (hv : v < 512) : s_ones v 10 ≤ 9 := by
  have h1 := s_ones_le v 9
  show s_ones v 9 + v / 2 ^ 9 % 2 ≤ 9
  rw [Nat.div_eq_of_lt hv]
  omega
theorem s_xor9 {a b : Nat} (ha : a < 512) (hb : b < 512) : a ^^^ b < 512 := Nat.xor_lt_two_pow (n := 9) ha hb
theorem s_ds_le (ho : jTOK τ) {k v : Nat} (hk : k < τ 0 3) (hv : v < 512) : s_ds τ k v ≤ 9 := s_ones9 (s_xor9 (by have := ho.2.2.2.2.2.2.2.2.2.2.2 k hk; omega) hv)
theorem s_nr_lt {v : Nat} : ∀ n b, s_nr τ v n = some b → b < n
  | 0, b, h => by cases h
  | n + 1, b, h => by
    have ih := s_nr_lt (v := v) n
    have h : (match s_nr τ v n with | none => some n | some b => if s_ds τ n v < s_ds τ b v then some n else some b) = some b := h
    cases hs : s_nr τ v n with
    | none => rw [hs] at h; cases h; omega
    | some y =>
      rw [hs] at h ih
      have := ih y rfl
      by_cases hc : s_ds τ n v < s_ds τ y v
      · simp only [hc, if_true] at h; cases h; omega
      · simp only [hc, if_false] at h; cases h; omega
theorem c_nearest (hL : jLay t u l m b c h) (hT : jCT I t τ) (ho : jTOK τ) {v : Nat} (hv : v < 512) : F_Town_nearestSignal t (nI v) (jz_I h I) = some (nO (s_nr τ v (τ 0 3)), jz_I h I) := by
  have ht := jLay_t hL
  have o3 : τ 0 3 ≤ 8 := ho.2.2.2.1
  unfold F_Town_nearestSignal
  refine jz_forI (fun fuel k (s : Option Nat) => F_Town_nearestSignal_l8 fuel t (nI v) (nO s) (nI (s.elim 10 (fun b => s_ds τ b v))) (nI k) (jz_I h I)) (τ 0 3) (fun k => s_nr τ v k) _ (s0 := none) rfl (fun n k hk => ?_) (fun n => ?_) jF (by show _ < 1000; omega)
  · have h5 := ho.2.2.2.2.2.2.2.2.2.2.2 k hk
    have hx := s_xor9 (show τ 12 k < 512 by omega) hv
    have hd := s_ds_le ho hk hv
    have e : s_nr τ v (k + 1) = (match s_nr τ v k with | none => some k | some b => if s_ds τ k v < s_ds τ b v then some k else some b) := rfl
    have el : s_ones (τ 12 k ^^^ v) 10 = s_ds τ k v := rfl
    show F_Town_nearestSignal_c8 (F_Town_nearestSignal_l8 n) t (nI v) (nO (s_nr τ v k)) (nI ((s_nr τ v k).elim 10 (fun b => s_ds τ b v))) (nI k) (jz_I h I) = F_Town_nearestSignal_l8 n t (nI v) (nO (s_nr τ v (k + 1))) (nI ((s_nr τ v (k + 1)).elim 10 (fun b => s_ds τ b v))) (nI (k + 1)) (jz_I h I)
    unfold F_Town_nearestSignal_c8
    rw [e]
    cases hs : s_nr τ v k with
    | none =>
      simp only [nO, Option.elim_none, Option.elim_some]
      simp (disch := omega) only [cT_f5 hT, cT_a12 hT, kn_xor, c_bitCount, el, F_Town_nearestSignal_b43, ↓dK_T hL ht, ↓dG_T hL ht, ↓dP_T hL ht, ↓dR_T_17 hL ht, dI_T12 hL ht, dS_T12 hL ht, ↓reduceIte, ↓kq_bi, ↓kq_let, ↓kq_rz0, ↓kq_rz1, ↓kq_rzB, ↓Option.bind_some, kq_dvn, kt_lt, kf_lt, kt_eq, kf_eq, decide_true, decide_false, eq_self, Bool.false_eq_true, Bool.true_eq_false, not_true_eq_false, not_false_eq_true, jU_eq, jU_ne, jU_U, jV_eq, jV_ne, jV_V, kn_lit, kn_add, kn_mul, kn_sdm, kn_sub, kn_div, kn_nsdm, kn_lt, kn_eq, kn_pred, kn_m1, kn_m1', kn_a31, kn_shl, kn_shr, kn_bit, nB_0, nB_1, nB_t, nB_f, Nat.zero_add, Nat.add_zero, Nat.reduceAdd, Nat.reduceMul, Nat.reduceSub, Nat.reducePow]
    | some y =>
      have hy := s_nr_lt _ _ hs
      have hd2 := s_ds_le ho (show y < τ 0 3 by omega) hv
      by_cases hc : s_ds τ k v < s_ds τ y v
      · simp only [nO, Option.elim_none, Option.elim_some, hc, if_true]
        simp (disch := omega) only [cT_f5 hT, cT_a12 hT, kn_xor, c_bitCount, el, F_Town_nearestSignal_b43, ↓dK_T hL ht, ↓dG_T hL ht, ↓dP_T hL ht, ↓dR_T_17 hL ht, dI_T12 hL ht, dS_T12 hL ht, ↓reduceIte, ↓kq_bi, ↓kq_let, ↓kq_rz0, ↓kq_rz1, ↓kq_rzB, ↓Option.bind_some, kq_dvn, kt_lt, kf_lt, kt_eq, kf_eq, decide_true, decide_false, eq_self, Bool.false_eq_true, Bool.true_eq_false, not_true_eq_false, not_false_eq_true, jU_eq, jU_ne, jU_U, jV_eq, jV_ne, jV_V, kn_lit, kn_add, kn_mul, kn_sdm, kn_sub, kn_div, kn_nsdm, kn_lt, kn_eq, kn_pred, kn_m1, kn_m1', kn_a31, kn_shl, kn_shr, kn_bit, nB_0, nB_1, nB_t, nB_f, Nat.zero_add, Nat.add_zero, Nat.reduceAdd, Nat.reduceMul, Nat.reduceSub, Nat.reducePow]
      · simp only [nO, Option.elim_none, Option.elim_some, hc, if_false]
        simp (disch := omega) only [cT_f5 hT, cT_a12 hT, kn_xor, c_bitCount, el, F_Town_nearestSignal_b43, ↓dK_T hL ht, ↓dG_T hL ht, ↓dP_T hL ht, ↓dR_T_17 hL ht, dI_T12 hL ht, dS_T12 hL ht, ↓reduceIte, ↓kq_bi, ↓kq_let, ↓kq_rz0, ↓kq_rz1, ↓kq_rzB, ↓Option.bind_some, kq_dvn, kt_lt, kf_lt, kt_eq, kf_eq, decide_true, decide_false, eq_self, Bool.false_eq_true, Bool.true_eq_false, not_true_eq_false, not_false_eq_true, jU_eq, jU_ne, jU_U, jV_eq, jV_ne, jV_V, kn_lit, kn_add, kn_mul, kn_sdm, kn_sub, kn_div, kn_nsdm, kn_lt, kn_eq, kn_pred, kn_m1, kn_m1', kn_a31, kn_shl, kn_shr, kn_bit, nB_0, nB_1, nB_t, nB_f, Nat.zero_add, Nat.add_zero, Nat.reduceAdd, Nat.reduceMul, Nat.reduceSub, Nat.reducePow]
  · show F_Town_nearestSignal_c8 (F_Town_nearestSignal_l8 n) t (nI v) (nO (s_nr τ v (τ 0 3))) (nI ((s_nr τ v (τ 0 3)).elim 10 (fun b => s_ds τ b v))) (nI (τ 0 3)) (jz_I h I) = _
    unfold F_Town_nearestSignal_c8
    simp (disch := omega) only [cT_f5 hT, ↓dK_T hL ht, ↓dG_T hL ht, ↓dP_T hL ht, ↓reduceIte, ↓kq_bi, ↓kq_let, ↓kq_rz0, ↓kq_rz1, ↓kq_rzB, ↓Option.bind_some, kq_dvn, kt_lt, kf_lt, kt_eq, kf_eq, decide_true, decide_false, eq_self, Bool.false_eq_true, Bool.true_eq_false, not_true_eq_false, not_false_eq_true, jU_eq, jU_ne, jU_U, jV_eq, jV_ne, jV_V, kn_lit, kn_add, kn_mul, kn_sdm, kn_sub, kn_div, kn_nsdm, kn_lt, kn_eq, kn_pred, kn_m1, kn_m1', kn_a31, kn_shl, kn_shr, kn_bit, nB_0, nB_1, nB_t, nB_f, Nat.zero_add, Nat.add_zero, Nat.reduceAdd, Nat.reduceMul, Nat.reduceSub, Nat.reducePow]
theorem m_distTo (hL : jLay t u l m b c h) (hT : jMT I τ) (ho : jTOK τ) {k v : Nat} (hk : k < τ 0 3) (hv : v < 512) : F_Mod_distanceTo 205 (nI k) (nI v) (jz_I h I) = some (nI (s_ds τ k v), jz_I h I) := by
  have o3 : τ 0 3 ≤ 8 := ho.2.2.2.1
  have h5 := ho.2.2.2.2.2.2.2.2.2.2.2 k hk
  have hx := s_xor9 (show τ 12 k < 512 by omega) hv
  unfold F_Mod_distanceTo s_ds
  simp (disch := omega) only [hT.2.2.2.1, kn_xor, m_ones, ↓dK_205 hL, ↓dG_205 hL, ↓dP_205 hL, ↓dZ_205 hL (x := nI 0) (Or.inl rfl), ↓dZ_205 hL (x := nI 1) (Or.inr rfl), ↓dZ_205 hL (Or.inl rfl), ↓dZ_205 hL (Or.inr rfl), ↓dZ_205 hL (nB_01 _), ↓dR_205_18 hL, dI_215 hL, dS_215 hL, ↓reduceIte, ↓kq_bi, ↓kq_let, ↓kq_rz0, ↓kq_rz1, ↓kq_rzB, ↓Option.bind_some, kq_dvn, kt_lt, kf_lt, kt_eq, kf_eq, decide_true, decide_false, eq_self, Bool.false_eq_true, Bool.true_eq_false, not_true_eq_false, not_false_eq_true, jU_eq, jU_ne, jU_U, jV_eq, jV_ne, jV_V, kn_lit, kn_add, kn_mul, kn_sdm, kn_sub, kn_div, kn_nsdm, kn_lt, kn_eq, kn_pred, kn_m1, kn_m1', kn_a31, kn_shl, kn_shr, kn_bit, nB_0, nB_1, nB_t, nB_f, Nat.zero_add, Nat.add_zero, Nat.reduceAdd, Nat.reduceMul, Nat.reduceSub, Nat.reducePow]
theorem m_readAs (hL : jLay t u l m b c h) (hT : jMT I τ) (ho : jTOK τ) {v : Nat} (hv : v < 512) : F_Mod_readAs 205 (nI v) (jz_I h I) = some (nO (s_nr τ v (τ 0 3)), jz_I h I) := by
  have o3 : τ 0 3 ≤ 8 := ho.2.2.2.1
  unfold F_Mod_readAs
  refine jz_forI (fun fuel k (s : Option Nat) => F_Mod_readAs_l4 fuel 205 (nI v) (nO s) (nI k) (jz_I h I)) (τ 0 3) (fun k => s_nr τ v k) _ (s0 := none) rfl (fun n k hk => ?_) (fun n => ?_) jF (by show _ < 1000; omega)
  · have hd := s_ds_le ho hk hv
    have e : s_nr τ v (k + 1) = (match s_nr τ v k with | none => some k | some b => if s_ds τ k v < s_ds τ b v then some k else some b) := rfl
    show F_Mod_readAs_c4 (F_Mod_readAs_l4 n) 205 (nI v) (nO (s_nr τ v k)) (nI k) (jz_I h I) = F_Mod_readAs_l4 n 205 (nI v) (nO (s_nr τ v (k + 1))) (nI (k + 1)) (jz_I h I)
    unfold F_Mod_readAs_c4
    rw [e]
    cases hs : s_nr τ v k with
    | none =>
      simp only [nO, Option.elim_none, Option.elim_some]
      simp (disch := omega) only [hT.1, F_Mod_readAs_b34, F_Mod_readAs_b36, ↓dK_205 hL, ↓dG_205 hL, ↓dP_205 hL, ↓dZ_205 hL (x := nI 0) (Or.inl rfl), ↓dZ_205 hL (x := nI 1) (Or.inr rfl), ↓dZ_205 hL (Or.inl rfl), ↓dZ_205 hL (Or.inr rfl), ↓dZ_205 hL (nB_01 _), ↓dR_205_12 hL, dI_209 hL, dS_209 hL, ↓reduceIte, ↓kq_bi, ↓kq_let, ↓kq_rz0, ↓kq_rz1, ↓kq_rzB, ↓Option.bind_some, kq_dvn, kt_lt, kf_lt, kt_eq, kf_eq, decide_true, decide_false, eq_self, Bool.false_eq_true, Bool.true_eq_false, not_true_eq_false, not_false_eq_true, jU_eq, jU_ne, jU_U, jV_eq, jV_ne, jV_V, kn_lit, kn_add, kn_mul, kn_sdm, kn_sub, kn_div, kn_nsdm, kn_lt, kn_eq, kn_pred, kn_m1, kn_m1', kn_a31, kn_shl, kn_shr, kn_bit, nB_0, nB_1, nB_t, nB_f, Nat.zero_add, Nat.add_zero, Nat.reduceAdd, Nat.reduceMul, Nat.reduceSub, Nat.reducePow]
    | some y =>
      have hy := s_nr_lt _ _ hs
      have hd2 := s_ds_le ho (show y < τ 0 3 by omega) hv
      by_cases hc : s_ds τ k v < s_ds τ y v
      · simp only [nO, Option.elim_none, Option.elim_some, hc, if_true]
        simp (disch := omega) only [hT.1, m_distTo hL hT ho, F_Mod_readAs_b34, F_Mod_readAs_b36, ↓dK_205 hL, ↓dG_205 hL, ↓dP_205 hL, ↓dZ_205 hL (x := nI 0) (Or.inl rfl), ↓dZ_205 hL (x := nI 1) (Or.inr rfl), ↓dZ_205 hL (Or.inl rfl), ↓dZ_205 hL (Or.inr rfl), ↓dZ_205 hL (nB_01 _), ↓dR_205_12 hL, dI_209 hL, dS_209 hL, ↓reduceIte, ↓kq_bi, ↓kq_let, ↓kq_rz0, ↓kq_rz1, ↓kq_rzB, ↓Option.bind_some, kq_dvn, kt_lt, kf_lt, kt_eq, kf_eq, decide_true, decide_false, eq_self, Bool.false_eq_true, Bool.true_eq_false, not_true_eq_false, not_false_eq_true, jU_eq, jU_ne, jU_U, jV_eq, jV_ne, jV_V, kn_lit, kn_add, kn_mul, kn_sdm, kn_sub, kn_div, kn_nsdm, kn_lt, kn_eq, kn_pred, kn_m1, kn_m1', kn_a31, kn_shl, kn_shr, kn_bit, nB_0, nB_1, nB_t, nB_f, Nat.zero_add, Nat.add_zero, Nat.reduceAdd, Nat.reduceMul, Nat.reduceSub, Nat.reducePow]
      · simp only [nO, Option.elim_none, Option.elim_some, hc, if_false]
        simp (disch := omega) only [hT.1, m_distTo hL hT ho, F_Mod_readAs_b34, F_Mod_readAs_b36, ↓dK_205 hL, ↓dG_205 hL, ↓dP_205 hL, ↓dZ_205 hL (x := nI 0) (Or.inl rfl), ↓dZ_205 hL (x := nI 1) (Or.inr rfl), ↓dZ_205 hL (Or.inl rfl), ↓dZ_205 hL (Or.inr rfl), ↓dZ_205 hL (nB_01 _), ↓dR_205_12 hL, dI_209 hL, dS_209 hL, ↓reduceIte, ↓kq_bi, ↓kq_let, ↓kq_rz0, ↓kq_rz1, ↓kq_rzB, ↓Option.bind_some, kq_dvn, kt_lt, kf_lt, kt_eq, kf_eq, decide_true, decide_false, eq_self, Bool.false_eq_true, Bool.true_eq_false, not_true_eq_false, not_false_eq_true, jU_eq, jU_ne, jU_U, jV_eq, jV_ne, jV_V, kn_lit, kn_add, kn_mul, kn_sdm, kn_sub, kn_div, kn_nsdm, kn_lt, kn_eq, kn_pred, kn_m1, kn_m1', kn_a31, kn_shl, kn_shr, kn_bit, nB_0, nB_1, nB_t, nB_f, Nat.zero_add, Nat.add_zero, Nat.reduceAdd, Nat.reduceMul, Nat.reduceSub, Nat.reducePow]
  · show F_Mod_readAs_c4 (F_Mod_readAs_l4 n) 205 (nI v) (nO (s_nr τ v (τ 0 3))) (nI (τ 0 3)) (jz_I h I) = _
    unfold F_Mod_readAs_c4
    simp (disch := omega) only [hT.1, ↓dK_205 hL, ↓dG_205 hL, ↓dP_205 hL, ↓dZ_205 hL (x := nI 0) (Or.inl rfl), ↓dZ_205 hL (x := nI 1) (Or.inr rfl), ↓dZ_205 hL (Or.inl rfl), ↓dZ_205 hL (Or.inr rfl), ↓dZ_205 hL (nB_01 _), ↓dR_205_12 hL, dI_209 hL, dS_209 hL, ↓reduceIte, ↓kq_bi, ↓kq_let, ↓kq_rz0, ↓kq_rz1, ↓kq_rzB, ↓Option.bind_some, kq_dvn, kt_lt, kf_lt, kt_eq, kf_eq, decide_true, decide_false, eq_self, Bool.false_eq_true, Bool.true_eq_false, not_true_eq_false, not_false_eq_true, jU_eq, jU_ne, jU_U, jV_eq, jV_ne, jV_V, kn_lit, kn_add, kn_mul, kn_sdm, kn_sub, kn_div, kn_nsdm, kn_lt, kn_eq, kn_pred, kn_m1, kn_m1', kn_a31, kn_shl, kn_shr, kn_bit, nB_0, nB_1, nB_t, nB_f, Nat.zero_add, Nat.add_zero, Nat.reduceAdd, Nat.reduceMul, Nat.reduceSub, Nat.reducePow]
theorem s_smk_lt (ho : jTOK τ) : s_smk τ r < 512 := Nat.lt_of_lt_of_le (s_bits_lt _ _) (show 2 ^ τ 0 0 ≤ 2 ^ 9 from Nat.pow_le_pow_right (by omega) ho.1)
theorem c_read (hL : jLay t u l m b c h) (hQ : jQC I t l τ ω r) {v : Nat} (hv : v < 512) : F_SG_read 64 (nI v) (jz_I h I) = some (jo_i (nO (s_nr τ v (τ 0 3)), jz_I h I)) := by
  have ht := jLay_t hL
  unfold F_SG_read
  simp (disch := omega) only [↓dR_85_1 hL, c_need1, kq_th, F_SG_read_b17, c_nearest hL hQ.1.1 hQ.1.2.1 hv, ↓dK_64 hL, ↓dG_64 hL, ↓dP_64 hL, ↓dR_64_2 hL, ↓dK_85 hL, ↓dG_85 hL, ↓dP_85 hL, ↓dZ_85 hL (x := nI 0) (Or.inl rfl), ↓dZ_85 hL (x := nI 1) (Or.inr rfl), ↓dZ_85 hL (Or.inl rfl), ↓dZ_85 hL (Or.inr rfl), ↓dZ_85 hL (nB_01 _), ↓dK_T hL ht, ↓dG_T hL ht, ↓dP_T hL ht, ↓reduceIte, ↓kq_bi, ↓kq_let, ↓kq_rz0, ↓kq_rz1, ↓kq_rzB, ↓Option.bind_some, kq_dvn, kt_lt, kf_lt, kt_eq, kf_eq, decide_true, decide_false, eq_self, Bool.false_eq_true, Bool.true_eq_false, not_true_eq_false, not_false_eq_true, jU_eq, jU_ne, jU_U, jV_eq, jV_ne, jV_V, kn_lit, kn_add, kn_mul, kn_sdm, kn_sub, kn_div, kn_nsdm, kn_lt, kn_eq, kn_pred, kn_m1, kn_m1', kn_a31, kn_shl, kn_shr, kn_bit, nB_0, nB_1, nB_t, nB_f, Nat.zero_add, Nat.add_zero, Nat.reduceAdd, Nat.reduceMul, Nat.reduceSub, Nat.reducePow]
theorem c_seems (hL : jLay t u l m b c h) (hQ : jQC I t l τ ω r) : F_SG_seems 64 (jz_I h I) = some (nO (s_nr τ (s_smk τ r) (τ 0 3)), jz_I h I) := by
  have ht := jLay_t hL
  unfold F_SG_seems
  simp (disch := omega) only [↓dR_85_1 hL, c_smokingGates hL (Or.inl rfl) hQ.1.1 hQ.1.2.1 hQ.2.1.1 hQ.2.2.1, c_nearest hL hQ.1.1 hQ.1.2.1 (s_smk_lt hQ.1.2.1), ↓dK_64 hL, ↓dG_64 hL, ↓dP_64 hL, ↓dR_64_2 hL, ↓dK_85 hL, ↓dG_85 hL, ↓dP_85 hL, ↓dZ_85 hL (x := nI 0) (Or.inl rfl), ↓dZ_85 hL (x := nI 1) (Or.inr rfl), ↓dZ_85 hL (Or.inl rfl), ↓dZ_85 hL (Or.inr rfl), ↓dZ_85 hL (nB_01 _), ↓dK_T hL ht, ↓dG_T hL ht, ↓dP_T hL ht, ↓reduceIte, ↓kq_bi, ↓kq_let, ↓kq_rz0, ↓kq_rz1, ↓kq_rzB, ↓Option.bind_some, kq_dvn, kt_lt, kf_lt, kt_eq, kf_eq, decide_true, decide_false, eq_self, Bool.false_eq_true, Bool.true_eq_false, not_true_eq_false, not_false_eq_true, jU_eq, jU_ne, jU_U, jV_eq, jV_ne, jV_V, kn_lit, kn_add, kn_mul, kn_sdm, kn_sub, kn_div, kn_nsdm, kn_lt, kn_eq, kn_pred, kn_m1, kn_m1', kn_a31, kn_shl, kn_shr, kn_bit, nB_0, nB_1, nB_t, nB_f, Nat.zero_add, Nat.add_zero, Nat.reduceAdd, Nat.reduceMul, Nat.reduceSub, Nat.reducePow]
theorem m_read (hL : jLay t u l m b c h) (hQ : jQM I τ ω r) {v : Nat} (hv : v < 512) : ∃ J, F_Mod_read 205 (nI v) (jz_I h I) = some (nO (s_nr τ v (τ 0 3)), jz_I h J) ∧ jN I J := by
  have N0 := jN_0 hQ
  have hQ0 := jN_QM N0 hQ
  refine ⟨_, ?_, N0⟩
  unfold F_Mod_read
  simp (disch := omega) only [m_bad0 hL N0.2.2.2, m_in1, F_Mod_read_b22, m_readAs hL hQ0.1.1 hQ0.1.2.1 hv, ↓dK_205 hL, ↓dG_205 hL, ↓dP_205 hL, ↓dZ_205 hL (x := nI 0) (Or.inl rfl), ↓dZ_205 hL (x := nI 1) (Or.inr rfl), ↓dZ_205 hL (Or.inl rfl), ↓dZ_205 hL (Or.inr rfl), ↓dZ_205 hL (nB_01 _), ↓reduceIte, ↓kq_bi, ↓kq_let, ↓kq_rz0, ↓kq_rz1, ↓kq_rzB, ↓Option.bind_some, kq_dvn, kt_lt, kf_lt, kt_eq, kf_eq, decide_true, decide_false, eq_self, Bool.false_eq_true, Bool.true_eq_false, not_true_eq_false, not_false_eq_true, jU_eq, jU_ne, jU_U, jV_eq, jV_ne, jV_V, kn_lit, kn_add, kn_mul, kn_sdm, kn_sub, kn_div, kn_nsdm, kn_lt, kn_eq, kn_pred, kn_m1, kn_m1', kn_a31, kn_shl, kn_shr, kn_bit, nB_0, nB_1, nB_t, nB_f, Nat.zero_add, Nat.add_zero, Nat.reduceAdd, Nat.reduceMul, Nat.reduceSub, Nat.reducePow]
theorem m_seems (hL : jLay t u l m b c h) (hQ : jQM I τ ω r) : ∃ J, F_Mod_seems 205 (jz_I h I) = some (nO (s_nr τ (s_smk τ r) (τ 0 3)), jz_I h J) ∧ jN I J := by
  have N0 := jN_0 hQ
  have hQ0 := jN_QM N0 hQ
  have ho := hQ.1.2.1
  have o0 : τ 0 0 ≤ 9 := ho.1
  refine ⟨_, ?_, N0⟩
  unfold F_Mod_seems
  simp (disch := omega) only [↓dK_205 hL, ↓dG_205 hL, ↓dP_205 hL, ↓dZ_205 hL (x := nI 0) (Or.inl rfl), ↓dZ_205 hL (x := nI 1) (Or.inr rfl), ↓dZ_205 hL (Or.inl rfl), ↓dZ_205 hL (Or.inr rfl), ↓dZ_205 hL (nB_01 _), ↓reduceIte, ↓kq_bi, ↓kq_let, ↓kq_rz0, ↓kq_rz1, ↓kq_rzB, ↓Option.bind_some, kq_dvn, kt_lt, kf_lt, kt_eq, kf_eq, decide_true, decide_false, eq_self, Bool.false_eq_true, Bool.true_eq_false, not_true_eq_false, not_false_eq_true, jU_eq, jU_ne, jU_U, jV_eq, jV_ne, jV_V, kn_lit, kn_add, kn_mul, kn_sdm, kn_sub, kn_div, kn_nsdm, kn_lt, kn_eq, kn_pred, kn_m1, kn_m1', kn_a31, kn_shl, kn_shr, kn_bit, nB_0, nB_1, nB_t, nB_f, Nat.zero_add, Nat.add_zero, Nat.reduceAdd, Nat.reduceMul, Nat.reduceSub, Nat.reducePow]
  refine jz_for (fun fuel k s => F_Mod_seems_l9 fuel 205 (nI s) (nI k) (jz_I h (jU I 205 (jV (I 205) 0 (nI 0))))) (τ 0 0) (fun k => s_bits (fun g => decide (0 < r (108 + g))) k) _ (fun n k hk => ?_) (fun n => ?_) jF (by show _ < 1000; omega)
  · have b := hQ.2.2.1.1 k (by omega)
    have hp := kn_pow (k := k) (by omega)
    show F_Mod_seems_l9 (n + 1) 205 (nI (s_bits (fun g => decide (0 < r (108 + g))) k)) (nI k) (jz_I h (jU I 205 (jV (I 205) 0 (nI 0)))) = F_Mod_seems_l9 n 205 (nI (s_bits (fun g => decide (0 < r (108 + g))) k ||| (if decide (0 < r (108 + k)) = true then 2 ^ k else 0))) (nI (k + 1)) (jz_I h (jU I 205 (jV (I 205) 0 (nI 0))))
    by_cases hc : 0 < r (108 + k)
    · simp (disch := omega) only [F_Mod_seems_l9, F_Mod_seems_c9, F_Mod_seems_b39, hQ.1.1.1, jMR_at hQ.2.1, hc, kn_or, Nat.one_mul, ↓dK_205 hL, ↓dG_205 hL, ↓dP_205 hL, ↓dZ_205 hL (x := nI 0) (Or.inl rfl), ↓dZ_205 hL (x := nI 1) (Or.inr rfl), ↓dZ_205 hL (Or.inl rfl), ↓dZ_205 hL (Or.inr rfl), ↓dZ_205 hL (nB_01 _), ↓dR_205_12 hL, dI_209 hL, dS_209 hL, ↓dR_205_35 hL, dI_691 hL, dS_691 hL, ↓reduceIte, ↓kq_bi, ↓kq_let, ↓kq_rz0, ↓kq_rz1, ↓kq_rzB, ↓Option.bind_some, kq_dvn, kt_lt, kf_lt, kt_eq, kf_eq, decide_true, decide_false, eq_self, Bool.false_eq_true, Bool.true_eq_false, not_true_eq_false, not_false_eq_true, jU_eq, jU_ne, jU_U, jV_eq, jV_ne, jV_V, kn_lit, kn_add, kn_mul, kn_sdm, kn_sub, kn_div, kn_nsdm, kn_lt, kn_eq, kn_pred, kn_m1, kn_m1', kn_a31, kn_shl, kn_shr, kn_bit, nB_0, nB_1, nB_t, nB_f, Nat.zero_add, Nat.add_zero, Nat.reduceAdd, Nat.reduceMul, Nat.reduceSub, Nat.reducePow]
    · simp (disch := omega) only [F_Mod_seems_l9, F_Mod_seems_c9, F_Mod_seems_b39, hQ.1.1.1, jMR_at hQ.2.1, decide_eq_false hc, kn_or, Nat.or_zero, ↓dK_205 hL, ↓dG_205 hL, ↓dP_205 hL, ↓dZ_205 hL (x := nI 0) (Or.inl rfl), ↓dZ_205 hL (x := nI 1) (Or.inr rfl), ↓dZ_205 hL (Or.inl rfl), ↓dZ_205 hL (Or.inr rfl), ↓dZ_205 hL (nB_01 _), ↓dR_205_12 hL, dI_209 hL, dS_209 hL, ↓dR_205_35 hL, dI_691 hL, dS_691 hL, ↓reduceIte, ↓kq_bi, ↓kq_let, ↓kq_rz0, ↓kq_rz1, ↓kq_rzB, ↓Option.bind_some, kq_dvn, kt_lt, kf_lt, kt_eq, kf_eq, decide_true, decide_false, eq_self, Bool.false_eq_true, Bool.true_eq_false, not_true_eq_false, not_false_eq_true, jU_eq, jU_ne, jU_U, jV_eq, jV_ne, jV_V, kn_lit, kn_add, kn_mul, kn_sdm, kn_sub, kn_div, kn_nsdm, kn_lt, kn_eq, kn_pred, kn_m1, kn_m1', kn_a31, kn_shl, kn_shr, kn_bit, nB_0, nB_1, nB_t, nB_f, Nat.zero_add, Nat.add_zero, Nat.reduceAdd, Nat.reduceMul, Nat.reduceSub, Nat.reducePow]
  · have hv : s_bits (fun g => decide (0 < r (108 + g))) (τ 0 0) < 512 := s_smk_lt ho
    simp (disch := omega) only [F_Mod_seems_l9, F_Mod_seems_c9, hQ.1.1.1, m_readAs hL hQ0.1.1 ho hv, ↓dK_205 hL, ↓dG_205 hL, ↓dP_205 hL, ↓dZ_205 hL (x := nI 0) (Or.inl rfl), ↓dZ_205 hL (x := nI 1) (Or.inr rfl), ↓dZ_205 hL (Or.inl rfl), ↓dZ_205 hL (Or.inr rfl), ↓dZ_205 hL (nB_01 _), ↓dR_205_12 hL, dI_209 hL, dS_209 hL, ↓reduceIte, ↓kq_bi, ↓kq_let, ↓kq_rz0, ↓kq_rz1, ↓kq_rzB, ↓Option.bind_some, kq_dvn, kt_lt, kf_lt, kt_eq, kf_eq, decide_true, decide_false, eq_self, Bool.false_eq_true, Bool.true_eq_false, not_true_eq_false, not_false_eq_true, jU_eq, jU_ne, jU_U, jV_eq, jV_ne, jV_V, kn_lit, kn_add, kn_mul, kn_sdm, kn_sub, kn_div, kn_nsdm, kn_lt, kn_eq, kn_pred, kn_m1, kn_m1', kn_a31, kn_shl, kn_shr, kn_bit, nB_0, nB_1, nB_t, nB_f, Nat.zero_add, Nat.add_zero, Nat.reduceAdd, Nat.reduceMul, Nat.reduceSub, Nat.reducePow]
    rfl
theorem c_distance (hL : jLay t u l m b c h) (hQ : jQC I t l τ ω r) {a b' : Nat} (ha : a < τ 0 3) (hb : b' < τ 0 3) : F_SG_distance 64 (nI a) (nI b') (jz_I h I) = some (jo_i (nI (s_ds τ a (τ 12 b')), jz_I h I)) := by
  have ht := jLay_t hL
  have ho := hQ.1.2.1
  have o3 : τ 0 3 ≤ 8 := ho.2.2.2.1
  have h5 := ho.2.2.2.2.2.2.2.2.2.2.2 a ha
  have h6 := ho.2.2.2.2.2.2.2.2.2.2.2 b' hb
  have hx := s_xor9 (show τ 12 a < 512 by omega) (show τ 12 b' < 512 by omega)
  unfold F_SG_distance s_ds
  simp (disch := omega) only [↓dR_85_1 hL, c_elem1, kq_th, F_SG_distance_b42, cT_f5 hQ.1.1, cT_a12 hQ.1.1, kn_xor, c_bitCount, ↓dK_64 hL, ↓dG_64 hL, ↓dP_64 hL, ↓dR_64_2 hL, ↓dK_85 hL, ↓dG_85 hL, ↓dP_85 hL, ↓dZ_85 hL (x := nI 0) (Or.inl rfl), ↓dZ_85 hL (x := nI 1) (Or.inr rfl), ↓dZ_85 hL (Or.inl rfl), ↓dZ_85 hL (Or.inr rfl), ↓dZ_85 hL (nB_01 _), ↓dK_T hL ht, ↓dG_T hL ht, ↓dP_T hL ht, ↓dR_T_17 hL ht, dI_T12 hL ht, dS_T12 hL ht, ↓reduceIte, ↓kq_bi, ↓kq_let, ↓kq_rz0, ↓kq_rz1, ↓kq_rzB, ↓Option.bind_some, kq_dvn, kt_lt, kf_lt, kt_eq, kf_eq, decide_true, decide_false, eq_self, Bool.false_eq_true, Bool.true_eq_false, not_true_eq_false, not_false_eq_true, jU_eq, jU_ne, jU_U, jV_eq, jV_ne, jV_V, kn_lit, kn_add, kn_mul, kn_sdm, kn_sub, kn_div, kn_nsdm, kn_lt, kn_eq, kn_pred, kn_m1, kn_m1', kn_a31, kn_shl, kn_shr, kn_bit, nB_0, nB_1, nB_t, nB_f, Nat.zero_add, Nat.add_zero, Nat.reduceAdd, Nat.reduceMul, Nat.reduceSub, Nat.reducePow]
theorem m_isSignal (hL : jLay t u l m b c h) (hT : jMT J τ) (ho : jTOK τ) {g : Nat} (hg : g < τ 0 3) : F_Mod_isSignal 205 (nI g) (jz_I h J) = some (nB true, jz_I h J) := by
  have o0 : τ 0 3 ≤ 8 := ho.2.2.2.1
  unfold F_Mod_isSignal
  simp (disch := omega) only [hT.1, m_in1, ↓dK_205 hL, ↓dG_205 hL, ↓dP_205 hL, ↓dZ_205 hL (x := nI 0) (Or.inl rfl), ↓dZ_205 hL (x := nI 1) (Or.inr rfl), ↓dZ_205 hL (Or.inl rfl), ↓dZ_205 hL (Or.inr rfl), ↓dZ_205 hL (nB_01 _), ↓dR_205_12 hL, dI_209 hL, dS_209 hL, ↓reduceIte, ↓kq_bi, ↓kq_let, ↓kq_rz0, ↓kq_rz1, ↓kq_rzB, ↓Option.bind_some, kq_dvn, kt_lt, kf_lt, kt_eq, kf_eq, decide_true, decide_false, eq_self, Bool.false_eq_true, Bool.true_eq_false, not_true_eq_false, not_false_eq_true, jU_eq, jU_ne, jU_U, jV_eq, jV_ne, jV_V, kn_lit, kn_add, kn_mul, kn_sdm, kn_sub, kn_div, kn_nsdm, kn_lt, kn_eq, kn_pred, kn_m1, kn_m1', kn_a31, kn_shl, kn_shr, kn_bit, nB_0, nB_1, nB_t, nB_f, Nat.zero_add, Nat.add_zero, Nat.reduceAdd, Nat.reduceMul, Nat.reduceSub, Nat.reducePow]
theorem m_distance (hL : jLay t u l m b c h) (hQ : jQM I τ ω r) {a b' : Nat} (ha : a < τ 0 3) (hb : b' < τ 0 3) : ∃ J, F_Mod_distance 205 (nI a) (nI b') (jz_I h I) = some (nI (s_ds τ a (τ 12 b')), jz_I h J) ∧ jN I J := by
  have N0 := jN_0 hQ
  have hQ0 := jN_QM N0 hQ
  have ho := hQ.1.2.1
  have o3 : τ 0 3 ≤ 8 := ho.2.2.2.1
  have h6 := ho.2.2.2.2.2.2.2.2.2.2.2 b' hb
  refine ⟨_, ?_, N0⟩
  unfold F_Mod_distance
  simp (disch := omega) only [m_isSignal hL hQ0.1.1 ho, m_bad0 hL N0.2.2.2, F_Mod_distance_b27, hQ.1.1.2.2.2.1, m_distTo hL hQ0.1.1 ho, ↓dK_205 hL, ↓dG_205 hL, ↓dP_205 hL, ↓dZ_205 hL (x := nI 0) (Or.inl rfl), ↓dZ_205 hL (x := nI 1) (Or.inr rfl), ↓dZ_205 hL (Or.inl rfl), ↓dZ_205 hL (Or.inr rfl), ↓dZ_205 hL (nB_01 _), ↓dR_205_18 hL, dI_215 hL, dS_215 hL, ↓reduceIte, ↓kq_bi, ↓kq_let, ↓kq_rz0, ↓kq_rz1, ↓kq_rzB, ↓Option.bind_some, kq_dvn, kt_lt, kf_lt, kt_eq, kf_eq, decide_true, decide_false, eq_self, Bool.false_eq_true, Bool.true_eq_false, not_true_eq_false, not_false_eq_true, jU_eq, jU_ne, jU_U, jV_eq, jV_ne, jV_V, kn_lit, kn_add, kn_mul, kn_sdm, kn_sub, kn_div, kn_nsdm, kn_lt, kn_eq, kn_pred, kn_m1, kn_m1', kn_a31, kn_shl, kn_shr, kn_bit, nB_0, nB_1, nB_t, nB_f, Nat.zero_add, Nat.add_zero, Nat.reduceAdd, Nat.reduceMul, Nat.reduceSub, Nat.reducePow]
def nP1 (s : Option (Nat × Nat)) : Int32 := s.elim (-nI 1) (fun q => nI q.1)
def nP2 (s : Option (Nat × Nat)) : Int32 := s.elim (-nI 1) (fun q => nI q.2)
def nP9 (s : Option (Nat × Nat)) : Int32 := s.elim (nI 10) (fun q => nI q.2)
def jP9 (s : Option (Nat × Nat)) : Prop := ∀ q, s = some q → q.1 < 100 ∧ q.2 ≤ 9
theorem s_clu_9 (ho : jTOK τ) {a b : Nat} {s : Option (Nat × Nat)} (hs : jP9 s) (ha : a < τ 0 3) (hb : b < τ 0 3) : jP9 (s_clu τ a b s) := by
  have o3 : τ 0 3 ≤ 8 := ho.2.2.2.1
  have h6 := ho.2.2.2.2.2.2.2.2.2.2.2 b hb
  have hd := s_ds_le ho ha (show τ 12 b < 512 by omega)
  intro q hq
  cases s with
  | none => cases hq; exact ⟨by show 10 * a + b < 100; omega, hd⟩
  | some y =>
    have hy := hs y rfl
    have hq : (if s_ds τ a (τ 12 b) < y.2 then some (10 * a + b, s_ds τ a (τ 12 b)) else some y) = some q := hq
    split at hq
    · cases hq; exact ⟨by show 10 * a + b < 100; omega, hd⟩
    · cases hq; exact hy
theorem s_cli_9 (ho : jTOK τ) {a : Nat} {s : Option (Nat × Nat)} (hs : jP9 s) (ha : a < τ 0 3) : ∀ j, a + 1 + j ≤ τ 0 3 → jP9 (s_cli τ a s j)
  | 0, _ => hs
  | j + 1, h => s_clu_9 ho (s_cli_9 ho hs ha j (by omega)) ha (by omega)
theorem s_clo_9 (ho : jTOK τ) : ∀ a, a ≤ τ 0 3 → jP9 (s_clo τ a)
  | 0, _ => fun q hq => by cases hq
  | a + 1, h => s_cli_9 ho (s_clo_9 ho a (by omega)) (by omega) _ (by omega)
theorem c_closest (hL : jLay t u l m b c h) (hQ : jQC I t l τ ω r) : F_SG_closest 64 (jz_I h I) = some (nP1 (s_clo τ (τ 0 3)), jz_I h I) := by
  have ht := jLay_t hL
  have ho := hQ.1.2.1
  have o3 : τ 0 3 ≤ 8 := ho.2.2.2.1
  unfold F_SG_closest
  refine jz_forI (fun fuel a (s : Option (Nat × Nat)) => F_SG_closest_l7 fuel 64 (nP1 s) (nP9 s) (nI a) (jz_I h I)) (τ 0 3) (fun a => s_clo τ a) _ (s0 := none) rfl (fun n a ha => ?_) (fun n => ?_) jF (by show _ < 1000; omega)
  · have h5 := ho.2.2.2.2.2.2.2.2.2.2.2 a ha
    have h9 := s_clo_9 ho a (by omega)
    simp (disch := omega) only [↓dR_85_1 hL, F_SG_closest_l7, F_SG_closest_c7, cT_f5 hQ.1.1, ↓dK_64 hL, ↓dG_64 hL, ↓dP_64 hL, ↓dR_64_2 hL, ↓dK_85 hL, ↓dG_85 hL, ↓dP_85 hL, ↓dZ_85 hL (x := nI 0) (Or.inl rfl), ↓dZ_85 hL (x := nI 1) (Or.inr rfl), ↓dZ_85 hL (Or.inl rfl), ↓dZ_85 hL (Or.inr rfl), ↓dZ_85 hL (nB_01 _), ↓dK_T hL ht, ↓dG_T hL ht, ↓dP_T hL ht, ↓reduceIte, ↓kq_bi, ↓kq_let, ↓kq_rz0, ↓kq_rz1, ↓kq_rzB, ↓Option.bind_some, kq_dvn, kt_lt, kf_lt, kt_eq, kf_eq, decide_true, decide_false, eq_self, Bool.false_eq_true, Bool.true_eq_false, not_true_eq_false, not_false_eq_true, jU_eq, jU_ne, jU_U, jV_eq, jV_ne, jV_V, kn_lit, kn_add, kn_mul, kn_sdm, kn_sub, kn_div, kn_nsdm, kn_lt, kn_eq, kn_pred, kn_m1, kn_m1', kn_a31, kn_shl, kn_shr, kn_bit, nB_0, nB_1, nB_t, nB_f, Nat.zero_add, Nat.add_zero, Nat.reduceAdd, Nat.reduceMul, Nat.reduceSub, Nat.reducePow]
    refine jz_forI (fun fuel j (s : Option (Nat × Nat)) => F_SG_closest_l26 (F_SG_closest_l7 n) fuel 64 (nP1 s) (nP9 s) (nI a) (nI (a + 1 + j)) (jz_I h I)) (τ 0 3 - (a + 1)) (fun j => s_cli τ a (s_clo τ a) j) _ rfl (fun n2 j hj => ?_) (fun n2 => ?_) jF (by show _ < 1000; omega)
    · have h6 := ho.2.2.2.2.2.2.2.2.2.2.2 (a + 1 + j) (by omega)
      have h99 := s_cli_9 ho h9 ha j (by omega)
      have hx := s_xor9 (show τ 12 a < 512 by omega) (show τ 12 (a + 1 + j) < 512 by omega)
      have hd := s_ds_le ho ha (show τ 12 (a + 1 + j) < 512 by omega)
      have el : s_ones (τ 12 a ^^^ τ 12 (a + 1 + j)) 10 = s_ds τ a (τ 12 (a + 1 + j)) := rfl
      show F_SG_closest_c26 (F_SG_closest_l7 n) (F_SG_closest_l26 (F_SG_closest_l7 n) n2) 64 (nP1 (s_cli τ a (s_clo τ a) j)) (nP9 (s_cli τ a (s_clo τ a) j)) (nI a) (nI (a + 1 + j)) (jz_I h I) = F_SG_closest_l26 (F_SG_closest_l7 n) n2 64 (nP1 (s_clu τ a (a + 1 + j) (s_cli τ a (s_clo τ a) j))) (nP9 (s_clu τ a (a + 1 + j) (s_cli τ a (s_clo τ a) j))) (nI a) (nI (a + 1 + j + 1)) (jz_I h I)
      unfold F_SG_closest_c26
      generalize s_cli τ a (s_clo τ a) j = s at h99 ⊢
      cases s with
      | none =>
        simp only [nP1, nP9, s_clu, Option.elim_none, Option.elim_some]
        simp (disch := omega) only [↓dR_85_1 hL, cT_f5 hQ.1.1, cT_a12 hQ.1.1, kn_xor, c_bitCount, el, F_SG_closest_b89, ↓dK_64 hL, ↓dG_64 hL, ↓dP_64 hL, ↓dR_64_2 hL, ↓dK_85 hL, ↓dG_85 hL, ↓dP_85 hL, ↓dZ_85 hL (x := nI 0) (Or.inl rfl), ↓dZ_85 hL (x := nI 1) (Or.inr rfl), ↓dZ_85 hL (Or.inl rfl), ↓dZ_85 hL (Or.inr rfl), ↓dZ_85 hL (nB_01 _), ↓dK_T hL ht, ↓dG_T hL ht, ↓dP_T hL ht, ↓dR_T_17 hL ht, dI_T12 hL ht, dS_T12 hL ht, ↓reduceIte, ↓kq_bi, ↓kq_let, ↓kq_rz0, ↓kq_rz1, ↓kq_rzB, ↓Option.bind_some, kq_dvn, kt_lt, kf_lt, kt_eq, kf_eq, decide_true, decide_false, eq_self, Bool.false_eq_true, Bool.true_eq_false, not_true_eq_false, not_false_eq_true, jU_eq, jU_ne, jU_U, jV_eq, jV_ne, jV_V, kn_lit, kn_add, kn_mul, kn_sdm, kn_sub, kn_div, kn_nsdm, kn_lt, kn_eq, kn_pred, kn_m1, kn_m1', kn_a31, kn_shl, kn_shr, kn_bit, nB_0, nB_1, nB_t, nB_f, Nat.zero_add, Nat.add_zero, Nat.reduceAdd, Nat.reduceMul, Nat.reduceSub, Nat.reducePow]
      | some y =>
        obtain ⟨y1, y2⟩ := h99 y rfl
        by_cases hc : s_ds τ a (τ 12 (a + 1 + j)) < y.2
        · simp only [nP1, nP9, s_clu, Option.elim_none, Option.elim_some, hc, if_true]
          simp (disch := omega) only [↓dR_85_1 hL, cT_f5 hQ.1.1, cT_a12 hQ.1.1, kn_xor, c_bitCount, el, F_SG_closest_b89, ↓dK_64 hL, ↓dG_64 hL, ↓dP_64 hL, ↓dR_64_2 hL, ↓dK_85 hL, ↓dG_85 hL, ↓dP_85 hL, ↓dZ_85 hL (x := nI 0) (Or.inl rfl), ↓dZ_85 hL (x := nI 1) (Or.inr rfl), ↓dZ_85 hL (Or.inl rfl), ↓dZ_85 hL (Or.inr rfl), ↓dZ_85 hL (nB_01 _), ↓dK_T hL ht, ↓dG_T hL ht, ↓dP_T hL ht, ↓dR_T_17 hL ht, dI_T12 hL ht, dS_T12 hL ht, ↓reduceIte, ↓kq_bi, ↓kq_let, ↓kq_rz0, ↓kq_rz1, ↓kq_rzB, ↓Option.bind_some, kq_dvn, kt_lt, kf_lt, kt_eq, kf_eq, decide_true, decide_false, eq_self, Bool.false_eq_true, Bool.true_eq_false, not_true_eq_false, not_false_eq_true, jU_eq, jU_ne, jU_U, jV_eq, jV_ne, jV_V, kn_lit, kn_add, kn_mul, kn_sdm, kn_sub, kn_div, kn_nsdm, kn_lt, kn_eq, kn_pred, kn_m1, kn_m1', kn_a31, kn_shl, kn_shr, kn_bit, nB_0, nB_1, nB_t, nB_f, Nat.zero_add, Nat.add_zero, Nat.reduceAdd, Nat.reduceMul, Nat.reduceSub, Nat.reducePow]
        · simp only [nP1, nP9, s_clu, Option.elim_none, Option.elim_some, hc, if_false]
          simp (disch := omega) only [↓dR_85_1 hL, cT_f5 hQ.1.1, cT_a12 hQ.1.1, kn_xor, c_bitCount, el, F_SG_closest_b89, ↓dK_64 hL, ↓dG_64 hL, ↓dP_64 hL, ↓dR_64_2 hL, ↓dK_85 hL, ↓dG_85 hL, ↓dP_85 hL, ↓dZ_85 hL (x := nI 0) (Or.inl rfl), ↓dZ_85 hL (x := nI 1) (Or.inr rfl), ↓dZ_85 hL (Or.inl rfl), ↓dZ_85 hL (Or.inr rfl), ↓dZ_85 hL (nB_01 _), ↓dK_T hL ht, ↓dG_T hL ht, ↓dP_T hL ht, ↓dR_T_17 hL ht, dI_T12 hL ht, dS_T12 hL ht, ↓reduceIte, ↓kq_bi, ↓kq_let, ↓kq_rz0, ↓kq_rz1, ↓kq_rzB, ↓Option.bind_some, kq_dvn, kt_lt, kf_lt, kt_eq, kf_eq, decide_true, decide_false, eq_self, Bool.false_eq_true, Bool.true_eq_false, not_true_eq_false, not_false_eq_true, jU_eq, jU_ne, jU_U, jV_eq, jV_ne, jV_V, kn_lit, kn_add, kn_mul, kn_sdm, kn_sub, kn_div, kn_nsdm, kn_lt, kn_eq, kn_pred, kn_m1, kn_m1', kn_a31, kn_shl, kn_shr, kn_bit, nB_0, nB_1, nB_t, nB_f, Nat.zero_add, Nat.add_zero, Nat.reduceAdd, Nat.reduceMul, Nat.reduceSub, Nat.reducePow]
    · show F_SG_closest_c26 (F_SG_closest_l7 n) (F_SG_closest_l26 (F_SG_closest_l7 n) n2) 64 (nP1 (s_cli τ a (s_clo τ a) (τ 0 3 - (a + 1)))) (nP9 (s_cli τ a (s_clo τ a) (τ 0 3 - (a + 1)))) (nI a) (nI (a + 1 + (τ 0 3 - (a + 1)))) (jz_I h I) = F_SG_closest_l7 n 64 (nP1 (s_cli τ a (s_clo τ a) (τ 0 3 - (a + 1)))) (nP9 (s_cli τ a (s_clo τ a) (τ 0 3 - (a + 1)))) (nI (a + 1)) (jz_I h I)
      unfold F_SG_closest_c26
      simp (disch := omega) only [↓dR_85_1 hL, cT_f5 hQ.1.1, ↓dK_64 hL, ↓dG_64 hL, ↓dP_64 hL, ↓dR_64_2 hL, ↓dK_85 hL, ↓dG_85 hL, ↓dP_85 hL, ↓dZ_85 hL (x := nI 0) (Or.inl rfl), ↓dZ_85 hL (x := nI 1) (Or.inr rfl), ↓dZ_85 hL (Or.inl rfl), ↓dZ_85 hL (Or.inr rfl), ↓dZ_85 hL (nB_01 _), ↓dK_T hL ht, ↓dG_T hL ht, ↓dP_T hL ht, ↓reduceIte, ↓kq_bi, ↓kq_let, ↓kq_rz0, ↓kq_rz1, ↓kq_rzB, ↓Option.bind_some, kq_dvn, kt_lt, kf_lt, kt_eq, kf_eq, decide_true, decide_false, eq_self, Bool.false_eq_true, Bool.true_eq_false, not_true_eq_false, not_false_eq_true, jU_eq, jU_ne, jU_U, jV_eq, jV_ne, jV_V, kn_lit, kn_add, kn_mul, kn_sdm, kn_sub, kn_div, kn_nsdm, kn_lt, kn_eq, kn_pred, kn_m1, kn_m1', kn_a31, kn_shl, kn_shr, kn_bit, nB_0, nB_1, nB_t, nB_f, Nat.zero_add, Nat.add_zero, Nat.reduceAdd, Nat.reduceMul, Nat.reduceSub, Nat.reducePow]
  · simp (disch := omega) only [↓dR_85_1 hL, F_SG_closest_l7, F_SG_closest_c7, cT_f5 hQ.1.1, ↓dK_64 hL, ↓dG_64 hL, ↓dP_64 hL, ↓dR_64_2 hL, ↓dK_85 hL, ↓dG_85 hL, ↓dP_85 hL, ↓dZ_85 hL (x := nI 0) (Or.inl rfl), ↓dZ_85 hL (x := nI 1) (Or.inr rfl), ↓dZ_85 hL (Or.inl rfl), ↓dZ_85 hL (Or.inr rfl), ↓dZ_85 hL (nB_01 _), ↓dK_T hL ht, ↓dG_T hL ht, ↓dP_T hL ht, ↓reduceIte, ↓kq_bi, ↓kq_let, ↓kq_rz0, ↓kq_rz1, ↓kq_rzB, ↓Option.bind_some, kq_dvn, kt_lt, kf_lt, kt_eq, kf_eq, decide_true, decide_false, eq_self, Bool.false_eq_true, Bool.true_eq_false, not_true_eq_false, not_false_eq_true, jU_eq, jU_ne, jU_U, jV_eq, jV_ne, jV_V, kn_lit, kn_add, kn_mul, kn_sdm, kn_sub, kn_div, kn_nsdm, kn_lt, kn_eq, kn_pred, kn_m1, kn_m1', kn_a31, kn_shl, kn_shr, kn_bit, nB_0, nB_1, nB_t, nB_f, Nat.zero_add, Nat.add_zero, Nat.reduceAdd, Nat.reduceMul, Nat.reduceSub, Nat.reducePow]
theorem m_closest (hL : jLay t u l m b c h) (hQ : jQM I τ ω r) : ∃ J, F_Mod_closest 205 (jz_I h I) = some (nP1 (s_clo τ (τ 0 3)), jz_I h J) ∧ jN I J := by
  have N0 := jN_0 hQ
  have hQ0 := jN_QM N0 hQ
  have ho := hQ.1.2.1
  have o3 : τ 0 3 ≤ 8 := ho.2.2.2.1
  refine ⟨_, ?_, N0⟩
  unfold F_Mod_closest
  simp (disch := omega) only [↓dK_205 hL, ↓dG_205 hL, ↓dP_205 hL, ↓dZ_205 hL (x := nI 0) (Or.inl rfl), ↓dZ_205 hL (x := nI 1) (Or.inr rfl), ↓dZ_205 hL (Or.inl rfl), ↓dZ_205 hL (Or.inr rfl), ↓dZ_205 hL (nB_01 _), ↓reduceIte, ↓kq_bi, ↓kq_let, ↓kq_rz0, ↓kq_rz1, ↓kq_rzB, ↓Option.bind_some, kq_dvn, kt_lt, kf_lt, kt_eq, kf_eq, decide_true, decide_false, eq_self, Bool.false_eq_true, Bool.true_eq_false, not_true_eq_false, not_false_eq_true, jU_eq, jU_ne, jU_U, jV_eq, jV_ne, jV_V, kn_lit, kn_add, kn_mul, kn_sdm, kn_sub, kn_div, kn_nsdm, kn_lt, kn_eq, kn_pred, kn_m1, kn_m1', kn_a31, kn_shl, kn_shr, kn_bit, nB_0, nB_1, nB_t, nB_f, Nat.zero_add, Nat.add_zero, Nat.reduceAdd, Nat.reduceMul, Nat.reduceSub, Nat.reducePow]
  generalize jU I 205 (jV (I 205) 0 (nI 0)) = I' at hQ0
  refine jz_forI (fun fuel a (s : Option (Nat × Nat)) => F_Mod_closest_l11 fuel 205 (nP1 s) (nP2 s) (nI a) (jz_I h I')) (τ 0 3) (fun a => s_clo τ a) _ (s0 := none) rfl (fun n a ha => ?_) (fun n => ?_) jF (by show _ < 1000; omega)
  · have h9 := s_clo_9 ho a (by omega)
    simp (disch := omega) only [F_Mod_closest_l11, F_Mod_closest_c11, hQ0.1.1.1, ↓dK_205 hL, ↓dG_205 hL, ↓dP_205 hL, ↓dZ_205 hL (x := nI 0) (Or.inl rfl), ↓dZ_205 hL (x := nI 1) (Or.inr rfl), ↓dZ_205 hL (Or.inl rfl), ↓dZ_205 hL (Or.inr rfl), ↓dZ_205 hL (nB_01 _), ↓dR_205_12 hL, dI_209 hL, dS_209 hL, ↓reduceIte, ↓kq_bi, ↓kq_let, ↓kq_rz0, ↓kq_rz1, ↓kq_rzB, ↓Option.bind_some, kq_dvn, kt_lt, kf_lt, kt_eq, kf_eq, decide_true, decide_false, eq_self, Bool.false_eq_true, Bool.true_eq_false, not_true_eq_false, not_false_eq_true, jU_eq, jU_ne, jU_U, jV_eq, jV_ne, jV_V, kn_lit, kn_add, kn_mul, kn_sdm, kn_sub, kn_div, kn_nsdm, kn_lt, kn_eq, kn_pred, kn_m1, kn_m1', kn_a31, kn_shl, kn_shr, kn_bit, nB_0, nB_1, nB_t, nB_f, Nat.zero_add, Nat.add_zero, Nat.reduceAdd, Nat.reduceMul, Nat.reduceSub, Nat.reducePow]
    refine jz_forI (fun fuel j (s : Option (Nat × Nat)) => F_Mod_closest_l26 (F_Mod_closest_l11 n) fuel 205 (nP1 s) (nP2 s) (nI a) (nI (a + 1 + j)) (jz_I h I')) (τ 0 3 - (a + 1)) (fun j => s_cli τ a (s_clo τ a) j) _ rfl (fun n2 j hj => ?_) (fun n2 => ?_) jF (by show _ < 1000; omega)
    · have h6 := ho.2.2.2.2.2.2.2.2.2.2.2 (a + 1 + j) (by omega)
      have h99 := s_cli_9 ho h9 ha j (by omega)
      have hd := s_ds_le ho ha (show τ 12 (a + 1 + j) < 512 by omega)
      show F_Mod_closest_c26 (F_Mod_closest_l11 n) (F_Mod_closest_l26 (F_Mod_closest_l11 n) n2) 205 (nP1 (s_cli τ a (s_clo τ a) j)) (nP2 (s_cli τ a (s_clo τ a) j)) (nI a) (nI (a + 1 + j)) (jz_I h I') = F_Mod_closest_l26 (F_Mod_closest_l11 n) n2 205 (nP1 (s_clu τ a (a + 1 + j) (s_cli τ a (s_clo τ a) j))) (nP2 (s_clu τ a (a + 1 + j) (s_cli τ a (s_clo τ a) j))) (nI a) (nI (a + 1 + j + 1)) (jz_I h I')
      unfold F_Mod_closest_c26
      generalize s_cli τ a (s_clo τ a) j = s at h99 ⊢
      cases s with
      | none =>
        simp only [nP1, nP2, s_clu, Option.elim_none, Option.elim_some]
        simp (disch := omega) only [hQ0.1.1.1, hQ0.1.1.2.2.2.1, m_distTo hL hQ0.1.1 ho ha, F_Mod_closest_b61, F_Mod_closest_b82, ↓dK_205 hL, ↓dG_205 hL, ↓dP_205 hL, ↓dZ_205 hL (x := nI 0) (Or.inl rfl), ↓dZ_205 hL (x := nI 1) (Or.inr rfl), ↓dZ_205 hL (Or.inl rfl), ↓dZ_205 hL (Or.inr rfl), ↓dZ_205 hL (nB_01 _), ↓dR_205_12 hL, dI_209 hL, dS_209 hL, ↓dR_205_18 hL, dI_215 hL, dS_215 hL, ↓reduceIte, ↓kq_bi, ↓kq_let, ↓kq_rz0, ↓kq_rz1, ↓kq_rzB, ↓Option.bind_some, kq_dvn, kt_lt, kf_lt, kt_eq, kf_eq, decide_true, decide_false, eq_self, Bool.false_eq_true, Bool.true_eq_false, not_true_eq_false, not_false_eq_true, jU_eq, jU_ne, jU_U, jV_eq, jV_ne, jV_V, kn_lit, kn_add, kn_mul, kn_sdm, kn_sub, kn_div, kn_nsdm, kn_lt, kn_eq, kn_pred, kn_m1, kn_m1', kn_a31, kn_shl, kn_shr, kn_bit, nB_0, nB_1, nB_t, nB_f, Nat.zero_add, Nat.add_zero, Nat.reduceAdd, Nat.reduceMul, Nat.reduceSub, Nat.reducePow]
      | some y =>
        obtain ⟨y1, y2⟩ := h99 y rfl
        by_cases hc : s_ds τ a (τ 12 (a + 1 + j)) < y.2
        · simp only [nP1, nP2, s_clu, Option.elim_none, Option.elim_some, hc, if_true]
          simp (disch := omega) only [hQ0.1.1.1, hQ0.1.1.2.2.2.1, m_distTo hL hQ0.1.1 ho ha, F_Mod_closest_b61, F_Mod_closest_b82, ↓dK_205 hL, ↓dG_205 hL, ↓dP_205 hL, ↓dZ_205 hL (x := nI 0) (Or.inl rfl), ↓dZ_205 hL (x := nI 1) (Or.inr rfl), ↓dZ_205 hL (Or.inl rfl), ↓dZ_205 hL (Or.inr rfl), ↓dZ_205 hL (nB_01 _), ↓dR_205_12 hL, dI_209 hL, dS_209 hL, ↓dR_205_18 hL, dI_215 hL, dS_215 hL, ↓reduceIte, ↓kq_bi, ↓kq_let, ↓kq_rz0, ↓kq_rz1, ↓kq_rzB, ↓Option.bind_some, kq_dvn, kt_lt, kf_lt, kt_eq, kf_eq, decide_true, decide_false, eq_self, Bool.false_eq_true, Bool.true_eq_false, not_true_eq_false, not_false_eq_true, jU_eq, jU_ne, jU_U, jV_eq, jV_ne, jV_V, kn_lit, kn_add, kn_mul, kn_sdm, kn_sub, kn_div, kn_nsdm, kn_lt, kn_eq, kn_pred, kn_m1, kn_m1', kn_a31, kn_shl, kn_shr, kn_bit, nB_0, nB_1, nB_t, nB_f, Nat.zero_add, Nat.add_zero, Nat.reduceAdd, Nat.reduceMul, Nat.reduceSub, Nat.reducePow]
        · simp only [nP1, nP2, s_clu, Option.elim_none, Option.elim_some, hc, if_false]
          simp (disch := omega) only [hQ0.1.1.1, hQ0.1.1.2.2.2.1, m_distTo hL hQ0.1.1 ho ha, F_Mod_closest_b61, F_Mod_closest_b82, ↓dK_205 hL, ↓dG_205 hL, ↓dP_205 hL, ↓dZ_205 hL (x := nI 0) (Or.inl rfl), ↓dZ_205 hL (x := nI 1) (Or.inr rfl), ↓dZ_205 hL (Or.inl rfl), ↓dZ_205 hL (Or.inr rfl), ↓dZ_205 hL (nB_01 _), ↓dR_205_12 hL, dI_209 hL, dS_209 hL, ↓dR_205_18 hL, dI_215 hL, dS_215 hL, ↓reduceIte, ↓kq_bi, ↓kq_let, ↓kq_rz0, ↓kq_rz1, ↓kq_rzB, ↓Option.bind_some, kq_dvn, kt_lt, kf_lt, kt_eq, kf_eq, decide_true, decide_false, eq_self, Bool.false_eq_true, Bool.true_eq_false, not_true_eq_false, not_false_eq_true, jU_eq, jU_ne, jU_U, jV_eq, jV_ne, jV_V, kn_lit, kn_add, kn_mul, kn_sdm, kn_sub, kn_div, kn_nsdm, kn_lt, kn_eq, kn_pred, kn_m1, kn_m1', kn_a31, kn_shl, kn_shr, kn_bit, nB_0, nB_1, nB_t, nB_f, Nat.zero_add, Nat.add_zero, Nat.reduceAdd, Nat.reduceMul, Nat.reduceSub, Nat.reducePow]
    · show F_Mod_closest_c26 (F_Mod_closest_l11 n) (F_Mod_closest_l26 (F_Mod_closest_l11 n) n2) 205 (nP1 (s_cli τ a (s_clo τ a) (τ 0 3 - (a + 1)))) (nP2 (s_cli τ a (s_clo τ a) (τ 0 3 - (a + 1)))) (nI a) (nI (a + 1 + (τ 0 3 - (a + 1)))) (jz_I h I') = F_Mod_closest_l11 n 205 (nP1 (s_cli τ a (s_clo τ a) (τ 0 3 - (a + 1)))) (nP2 (s_cli τ a (s_clo τ a) (τ 0 3 - (a + 1)))) (nI (a + 1)) (jz_I h I')
      unfold F_Mod_closest_c26
      simp (disch := omega) only [hQ0.1.1.1, ↓dK_205 hL, ↓dG_205 hL, ↓dP_205 hL, ↓dZ_205 hL (x := nI 0) (Or.inl rfl), ↓dZ_205 hL (x := nI 1) (Or.inr rfl), ↓dZ_205 hL (Or.inl rfl), ↓dZ_205 hL (Or.inr rfl), ↓dZ_205 hL (nB_01 _), ↓dR_205_12 hL, dI_209 hL, dS_209 hL, ↓reduceIte, ↓kq_bi, ↓kq_let, ↓kq_rz0, ↓kq_rz1, ↓kq_rzB, ↓Option.bind_some, kq_dvn, kt_lt, kf_lt, kt_eq, kf_eq, decide_true, decide_false, eq_self, Bool.false_eq_true, Bool.true_eq_false, not_true_eq_false, not_false_eq_true, jU_eq, jU_ne, jU_U, jV_eq, jV_ne, jV_V, kn_lit, kn_add, kn_mul, kn_sdm, kn_sub, kn_div, kn_nsdm, kn_lt, kn_eq, kn_pred, kn_m1, kn_m1', kn_a31, kn_shl, kn_shr, kn_bit, nB_0, nB_1, nB_t, nB_f, Nat.zero_add, Nat.add_zero, Nat.reduceAdd, Nat.reduceMul, Nat.reduceSub, Nat.reducePow]
  · simp (disch := omega) only [F_Mod_closest_l11, F_Mod_closest_c11, hQ0.1.1.1, ↓dK_205 hL, ↓dG_205 hL, ↓dP_205 hL, ↓dZ_205 hL (x := nI 0) (Or.inl rfl), ↓dZ_205 hL (x := nI 1) (Or.inr rfl), ↓dZ_205 hL (Or.inl rfl), ↓dZ_205 hL (Or.inr rfl), ↓dZ_205 hL (nB_01 _), ↓dR_205_12 hL, dI_209 hL, dS_209 hL, ↓reduceIte, ↓kq_bi, ↓kq_let, ↓kq_rz0, ↓kq_rz1, ↓kq_rzB, ↓Option.bind_some, kq_dvn, kt_lt, kf_lt, kt_eq, kf_eq, decide_true, decide_false, eq_self, Bool.false_eq_true, Bool.true_eq_false, not_true_eq_false, not_false_eq_true, jU_eq, jU_ne, jU_U, jV_eq, jV_ne, jV_V, kn_lit, kn_add, kn_mul, kn_sdm, kn_sub, kn_div, kn_nsdm, kn_lt, kn_eq, kn_pred, kn_m1, kn_m1', kn_a31, kn_shl, kn_shr, kn_bit, nB_0, nB_1, nB_t, nB_f, Nat.zero_add, Nat.add_zero, Nat.reduceAdd, Nat.reduceMul, Nat.reduceSub, Nat.reducePow]
theorem c_siege (hL : jLay t u l m b c h) (hQ : jQC I t l τ ω r) {n : Nat} (h1 : 1 ≤ n) (h9 : n ≤ 9) (w : Bool) : F_SG_siege 64 (nI n) (nB w) (jz_I h I) = some (jo_i (nI (if w = true then s_store τ r % n else s_store τ r / n), jz_I h I)) := by
  have ho := hQ.1.2.1
  have hs : s_store τ r ≤ 594 := s_store_le ho hQ.2.2.1 ho.2.1
  unfold F_SG_siege
  cases w
  · simp (disch := omega) only [show nB false = nI 0 from rfl, c_need1, kq_th, F_SG_siege_b21, F_SG_siege_b26, F_SG_siege_b50, c_allStored hL (Or.inl rfl) hQ.1.1 ho hQ.2.1.1 hQ.2.2.1, ↓dK_64 hL, ↓dG_64 hL, ↓dP_64 hL, ↓dR_64_2 hL, ↓dK_85 hL, ↓dG_85 hL, ↓dP_85 hL, ↓dZ_85 hL (x := nI 0) (Or.inl rfl), ↓dZ_85 hL (x := nI 1) (Or.inr rfl), ↓dZ_85 hL (Or.inl rfl), ↓dZ_85 hL (Or.inr rfl), ↓dZ_85 hL (nB_01 _), ↓reduceIte, ↓kq_bi, ↓kq_let, ↓kq_rz0, ↓kq_rz1, ↓kq_rzB, ↓Option.bind_some, kq_dvn, kt_lt, kf_lt, kt_eq, kf_eq, decide_true, decide_false, eq_self, Bool.false_eq_true, Bool.true_eq_false, not_true_eq_false, not_false_eq_true, jU_eq, jU_ne, jU_U, jV_eq, jV_ne, jV_V, kn_lit, kn_add, kn_mul, kn_sdm, kn_sub, kn_div, kn_nsdm, kn_lt, kn_eq, kn_pred, kn_m1, kn_m1', kn_a31, kn_shl, kn_shr, kn_bit, nB_0, nB_1, nB_t, nB_f, Nat.zero_add, Nat.add_zero, Nat.reduceAdd, Nat.reduceMul, Nat.reduceSub, Nat.reducePow]
  · simp (disch := omega) only [show nB true = nI 1 from rfl, c_need1, kq_th, F_SG_siege_b21, F_SG_siege_b26, F_SG_siege_b50, c_allStored hL (Or.inl rfl) hQ.1.1 ho hQ.2.1.1 hQ.2.2.1, ↓dK_64 hL, ↓dG_64 hL, ↓dP_64 hL, ↓dR_64_2 hL, ↓dK_85 hL, ↓dG_85 hL, ↓dP_85 hL, ↓dZ_85 hL (x := nI 0) (Or.inl rfl), ↓dZ_85 hL (x := nI 1) (Or.inr rfl), ↓dZ_85 hL (Or.inl rfl), ↓dZ_85 hL (Or.inr rfl), ↓dZ_85 hL (nB_01 _), ↓reduceIte, ↓kq_bi, ↓kq_let, ↓kq_rz0, ↓kq_rz1, ↓kq_rzB, ↓Option.bind_some, kq_dvn, kt_lt, kf_lt, kt_eq, kf_eq, decide_true, decide_false, eq_self, Bool.false_eq_true, Bool.true_eq_false, not_true_eq_false, not_false_eq_true, jU_eq, jU_ne, jU_U, jV_eq, jV_ne, jV_V, kn_lit, kn_add, kn_mul, kn_sdm, kn_sub, kn_div, kn_nsdm, kn_lt, kn_eq, kn_pred, kn_m1, kn_m1', kn_a31, kn_shl, kn_shr, kn_bit, nB_0, nB_1, nB_t, nB_f, Nat.zero_add, Nat.add_zero, Nat.reduceAdd, Nat.reduceMul, Nat.reduceSub, Nat.reducePow]
theorem m_siege (hL : jLay t u l m b c h) (hQ : jQM I τ ω r) {n : Nat} (h1 : 1 ≤ n) (h9 : n ≤ 9) (w : Bool) : ∃ J, F_Mod_siege 205 (nI n) (nB w) (jz_I h I) = some (nI (if w = true then s_store τ r % n else s_store τ r / n), jz_I h J) ∧ jN I J := by
  have N0 := jN_0 hQ
  have hQ0 := jN_QM N0 hQ
  have ho := hQ.1.2.1
  have hs : s_store τ r ≤ 594 := s_store_le ho hQ.2.2.1 ho.2.1
  refine ⟨_, ?_, N0⟩
  unfold F_Mod_siege
  cases w
  · simp (disch := omega) only [show nB false = nI 0 from rfl, m_bad0 hL N0.2.2.2, m_in1, F_Mod_siege_b30, F_Mod_siege_b67, m_storedIn hL hQ0.1.1 ho (Or.inl rfl) hQ0.2.1 hQ.2.2.1, ↓dK_205 hL, ↓dG_205 hL, ↓dP_205 hL, ↓dZ_205 hL (x := nI 0) (Or.inl rfl), ↓dZ_205 hL (x := nI 1) (Or.inr rfl), ↓dZ_205 hL (Or.inl rfl), ↓dZ_205 hL (Or.inr rfl), ↓dZ_205 hL (nB_01 _), ↓dR_205_35 hL, dI_691 hL, dS_691 hL, ↓reduceIte, ↓kq_bi, ↓kq_let, ↓kq_rz0, ↓kq_rz1, ↓kq_rzB, ↓Option.bind_some, kq_dvn, kt_lt, kf_lt, kt_eq, kf_eq, decide_true, decide_false, eq_self, Bool.false_eq_true, Bool.true_eq_false, not_true_eq_false, not_false_eq_true, jU_eq, jU_ne, jU_U, jV_eq, jV_ne, jV_V, kn_lit, kn_add, kn_mul, kn_sdm, kn_sub, kn_div, kn_nsdm, kn_lt, kn_eq, kn_pred, kn_m1, kn_m1', kn_a31, kn_shl, kn_shr, kn_bit, nB_0, nB_1, nB_t, nB_f, Nat.zero_add, Nat.add_zero, Nat.reduceAdd, Nat.reduceMul, Nat.reduceSub, Nat.reducePow]
  · simp (disch := omega) only [show nB true = nI 1 from rfl, m_bad0 hL N0.2.2.2, m_in1, F_Mod_siege_b30, F_Mod_siege_b67, m_storedIn hL hQ0.1.1 ho (Or.inl rfl) hQ0.2.1 hQ.2.2.1, ↓dK_205 hL, ↓dG_205 hL, ↓dP_205 hL, ↓dZ_205 hL (x := nI 0) (Or.inl rfl), ↓dZ_205 hL (x := nI 1) (Or.inr rfl), ↓dZ_205 hL (Or.inl rfl), ↓dZ_205 hL (Or.inr rfl), ↓dZ_205 hL (nB_01 _), ↓dR_205_35 hL, dI_691 hL, dS_691 hL, ↓reduceIte, ↓kq_bi, ↓kq_let, ↓kq_rz0, ↓kq_rz1, ↓kq_rzB, ↓Option.bind_some, kq_dvn, kt_lt, kf_lt, kt_eq, kf_eq, decide_true, decide_false, eq_self, Bool.false_eq_true, Bool.true_eq_false, not_true_eq_false, not_false_eq_true, jU_eq, jU_ne, jU_U, jV_eq, jV_ne, jV_V, kn_lit, kn_add, kn_mul, kn_sdm, kn_sub, kn_div, kn_nsdm, kn_lt, kn_eq, kn_pred, kn_m1, kn_m1', kn_a31, kn_shl, kn_shr, kn_bit, nB_0, nB_1, nB_t, nB_f, Nat.zero_add, Nat.add_zero, Nat.reduceAdd, Nat.reduceMul, Nat.reduceSub, Nat.reducePow]
theorem s_mxi_le (hr : jROK τ r) {g m : Nat} (hg : g < 9) (hm : m ≤ 9) : ∀ k, k ≤ r (108 + g) → s_mxi r g m k ≤ 9
  | 0, _ => hm
  | k + 1, h => by
    have ih := s_mxi_le hr hg hm k (by omega)
    have := (hr.2.1 g k hg (by omega)).2.2
    show (if _ then _ else _) ≤ 9
    split <;> omega
theorem s_mxo_le (hr : jROK τ r) : ∀ g, g ≤ 9 → s_mxo r g ≤ 9
  | 0, _ => by show 0 ≤ 9; omega
  | g + 1, h => s_mxi_le hr (by omega) (s_mxo_le hr g (by omega)) _ (Nat.le_refl _)
theorem c_burnsOut (hL : jLay t u l m b c h) (hQ : jQC I t l τ ω r) : F_SG_burnsOut 64 (jz_I h I) = some (nI (s_mxo r (τ 0 0)), jz_I h I) := by
  have ht := jLay_t hL
  have ho := hQ.1.2.1
  have hr := hQ.2.2.1
  have o0 : τ 0 0 ≤ 9 := ho.1
  unfold F_SG_burnsOut
  refine jz_for (fun fuel g s => F_SG_burnsOut_l4 fuel 64 (nI s) (nI g) (jz_I h I)) (τ 0 0) (fun g => s_mxo r g) _ (fun n g hg => ?_) (fun n => ?_) jF (by show _ < 1000; omega)
  · have b6 := hr.1 g (by omega)
    have hm := s_mxo_le hr g (by omega)
    simp (disch := omega) only [↓dR_85_1 hL, F_SG_burnsOut_l4, F_SG_burnsOut_c4, cT_f0 hQ.1.1, ↓dK_64 hL, ↓dG_64 hL, ↓dP_64 hL, ↓dR_64_2 hL, ↓dK_85 hL, ↓dG_85 hL, ↓dP_85 hL, ↓dZ_85 hL (x := nI 0) (Or.inl rfl), ↓dZ_85 hL (x := nI 1) (Or.inr rfl), ↓dZ_85 hL (Or.inl rfl), ↓dZ_85 hL (Or.inr rfl), ↓dZ_85 hL (nB_01 _), ↓dK_T hL ht, ↓dG_T hL ht, ↓dP_T hL ht, ↓reduceIte, ↓kq_bi, ↓kq_let, ↓kq_rz0, ↓kq_rz1, ↓kq_rzB, ↓Option.bind_some, kq_dvn, kt_lt, kf_lt, kt_eq, kf_eq, decide_true, decide_false, eq_self, Bool.false_eq_true, Bool.true_eq_false, not_true_eq_false, not_false_eq_true, jU_eq, jU_ne, jU_U, jV_eq, jV_ne, jV_V, kn_lit, kn_add, kn_mul, kn_sdm, kn_sub, kn_div, kn_nsdm, kn_lt, kn_eq, kn_pred, kn_m1, kn_m1', kn_a31, kn_shl, kn_shr, kn_bit, nB_0, nB_1, nB_t, nB_f, Nat.zero_add, Nat.add_zero, Nat.reduceAdd, Nat.reduceMul, Nat.reduceSub, Nat.reducePow]
    refine jz_forI (fun fuel k s => F_SG_burnsOut_l20 (F_SG_burnsOut_l4 n) fuel 64 (nI s) (nI g) (nI k) (jz_I h I)) (r (108 + g)) (fun k => s_mxi r g (s_mxo r g) k) _ rfl (fun n2 k hk => ?_) (fun n2 => ?_) jF (by show _ < 1000; omega)
    · have h1 := s_mxi_le hr (show g < 9 by omega) hm k (by omega)
      have h2 := (hr.2.1 g k (by omega) hk).2.2
      show F_SG_burnsOut_c20 (F_SG_burnsOut_l4 n) (F_SG_burnsOut_l20 (F_SG_burnsOut_l4 n) n2) 64 (nI (s_mxi r g (s_mxo r g) k)) (nI g) (nI k) (jz_I h I) = F_SG_burnsOut_l20 (F_SG_burnsOut_l4 n) n2 64 (nI (if s_mxi r g (s_mxo r g) k < r (54 + (6 * g + k)) then r (54 + (6 * g + k)) else s_mxi r g (s_mxo r g) k)) (nI g) (nI (k + 1)) (jz_I h I)
      unfold F_SG_burnsOut_c20
      by_cases hc : s_mxi r g (s_mxo r g) k < r (54 + (6 * g + k))
      · simp (disch := omega) only [c_burning hL (Or.inl rfl) hQ.2.1.1, c_leftOf hL (Or.inl rfl) hQ.2.1.1 hr, ↓dK_64 hL, ↓dG_64 hL, ↓dP_64 hL, ↓dR_64_2 hL, ↓dK_85 hL, ↓dG_85 hL, ↓dP_85 hL, ↓dZ_85 hL (x := nI 0) (Or.inl rfl), ↓dZ_85 hL (x := nI 1) (Or.inr rfl), ↓dZ_85 hL (Or.inl rfl), ↓dZ_85 hL (Or.inr rfl), ↓dZ_85 hL (nB_01 _), ↓reduceIte, ↓kq_bi, ↓kq_let, ↓kq_rz0, ↓kq_rz1, ↓kq_rzB, ↓Option.bind_some, kq_dvn, kt_lt, kf_lt, kt_eq, kf_eq, decide_true, decide_false, eq_self, Bool.false_eq_true, Bool.true_eq_false, not_true_eq_false, not_false_eq_true, jU_eq, jU_ne, jU_U, jV_eq, jV_ne, jV_V, kn_lit, kn_add, kn_mul, kn_sdm, kn_sub, kn_div, kn_nsdm, kn_lt, kn_eq, kn_pred, kn_m1, kn_m1', kn_a31, kn_shl, kn_shr, kn_bit, nB_0, nB_1, nB_t, nB_f, Nat.zero_add, Nat.add_zero, Nat.reduceAdd, Nat.reduceMul, Nat.reduceSub, Nat.reducePow]
      · simp (disch := omega) only [c_burning hL (Or.inl rfl) hQ.2.1.1, c_leftOf hL (Or.inl rfl) hQ.2.1.1 hr, ↓dK_64 hL, ↓dG_64 hL, ↓dP_64 hL, ↓dR_64_2 hL, ↓dK_85 hL, ↓dG_85 hL, ↓dP_85 hL, ↓dZ_85 hL (x := nI 0) (Or.inl rfl), ↓dZ_85 hL (x := nI 1) (Or.inr rfl), ↓dZ_85 hL (Or.inl rfl), ↓dZ_85 hL (Or.inr rfl), ↓dZ_85 hL (nB_01 _), ↓reduceIte, ↓kq_bi, ↓kq_let, ↓kq_rz0, ↓kq_rz1, ↓kq_rzB, ↓Option.bind_some, kq_dvn, kt_lt, kf_lt, kt_eq, kf_eq, decide_true, decide_false, eq_self, Bool.false_eq_true, Bool.true_eq_false, not_true_eq_false, not_false_eq_true, jU_eq, jU_ne, jU_U, jV_eq, jV_ne, jV_V, kn_lit, kn_add, kn_mul, kn_sdm, kn_sub, kn_div, kn_nsdm, kn_lt, kn_eq, kn_pred, kn_m1, kn_m1', kn_a31, kn_shl, kn_shr, kn_bit, nB_0, nB_1, nB_t, nB_f, Nat.zero_add, Nat.add_zero, Nat.reduceAdd, Nat.reduceMul, Nat.reduceSub, Nat.reducePow]
    · show F_SG_burnsOut_c20 (F_SG_burnsOut_l4 n) (F_SG_burnsOut_l20 (F_SG_burnsOut_l4 n) n2) 64 (nI (s_mxi r g (s_mxo r g) (r (108 + g)))) (nI g) (nI (r (108 + g))) (jz_I h I) = F_SG_burnsOut_l4 n 64 (nI (s_mxi r g (s_mxo r g) (r (108 + g)))) (nI (g + 1)) (jz_I h I)
      unfold F_SG_burnsOut_c20
      simp (disch := omega) only [c_burning hL (Or.inl rfl) hQ.2.1.1, ↓dK_64 hL, ↓dG_64 hL, ↓dP_64 hL, ↓dR_64_2 hL, ↓dK_85 hL, ↓dG_85 hL, ↓dP_85 hL, ↓dZ_85 hL (x := nI 0) (Or.inl rfl), ↓dZ_85 hL (x := nI 1) (Or.inr rfl), ↓dZ_85 hL (Or.inl rfl), ↓dZ_85 hL (Or.inr rfl), ↓dZ_85 hL (nB_01 _), ↓reduceIte, ↓kq_bi, ↓kq_let, ↓kq_rz0, ↓kq_rz1, ↓kq_rzB, ↓Option.bind_some, kq_dvn, kt_lt, kf_lt, kt_eq, kf_eq, decide_true, decide_false, eq_self, Bool.false_eq_true, Bool.true_eq_false, not_true_eq_false, not_false_eq_true, jU_eq, jU_ne, jU_U, jV_eq, jV_ne, jV_V, kn_lit, kn_add, kn_mul, kn_sdm, kn_sub, kn_div, kn_nsdm, kn_lt, kn_eq, kn_pred, kn_m1, kn_m1', kn_a31, kn_shl, kn_shr, kn_bit, nB_0, nB_1, nB_t, nB_f, Nat.zero_add, Nat.add_zero, Nat.reduceAdd, Nat.reduceMul, Nat.reduceSub, Nat.reducePow]
  · simp (disch := omega) only [↓dR_85_1 hL, F_SG_burnsOut_l4, F_SG_burnsOut_c4, cT_f0 hQ.1.1, ↓dK_64 hL, ↓dG_64 hL, ↓dP_64 hL, ↓dR_64_2 hL, ↓dK_85 hL, ↓dG_85 hL, ↓dP_85 hL, ↓dZ_85 hL (x := nI 0) (Or.inl rfl), ↓dZ_85 hL (x := nI 1) (Or.inr rfl), ↓dZ_85 hL (Or.inl rfl), ↓dZ_85 hL (Or.inr rfl), ↓dZ_85 hL (nB_01 _), ↓dK_T hL ht, ↓dG_T hL ht, ↓dP_T hL ht, ↓reduceIte, ↓kq_bi, ↓kq_let, ↓kq_rz0, ↓kq_rz1, ↓kq_rzB, ↓Option.bind_some, kq_dvn, kt_lt, kf_lt, kt_eq, kf_eq, decide_true, decide_false, eq_self, Bool.false_eq_true, Bool.true_eq_false, not_true_eq_false, not_false_eq_true, jU_eq, jU_ne, jU_U, jV_eq, jV_ne, jV_V, kn_lit, kn_add, kn_mul, kn_sdm, kn_sub, kn_div, kn_nsdm, kn_lt, kn_eq, kn_pred, kn_m1, kn_m1', kn_a31, kn_shl, kn_shr, kn_bit, nB_0, nB_1, nB_t, nB_f, Nat.zero_add, Nat.add_zero, Nat.reduceAdd, Nat.reduceMul, Nat.reduceSub, Nat.reducePow]
theorem m_burnsOut (hL : jLay t u l m b c h) (hQ : jQM I τ ω r) : ∃ J, F_Mod_burnsOut 205 (jz_I h I) = some (nI (s_mxo r (τ 0 0)), jz_I h J) ∧ jN I J := by
  have N0 := jN_0 hQ
  have hQ0 := jN_QM N0 hQ
  have ho := hQ.1.2.1
  have hr := hQ.2.2.1
  have o0 : τ 0 0 ≤ 9 := ho.1
  refine ⟨_, ?_, N0⟩
  unfold F_Mod_burnsOut
  simp (disch := omega) only [↓dK_205 hL, ↓dG_205 hL, ↓dP_205 hL, ↓dZ_205 hL (x := nI 0) (Or.inl rfl), ↓dZ_205 hL (x := nI 1) (Or.inr rfl), ↓dZ_205 hL (Or.inl rfl), ↓dZ_205 hL (Or.inr rfl), ↓dZ_205 hL (nB_01 _), ↓reduceIte, ↓kq_bi, ↓kq_let, ↓kq_rz0, ↓kq_rz1, ↓kq_rzB, ↓Option.bind_some, kq_dvn, kt_lt, kf_lt, kt_eq, kf_eq, decide_true, decide_false, eq_self, Bool.false_eq_true, Bool.true_eq_false, not_true_eq_false, not_false_eq_true, jU_eq, jU_ne, jU_U, jV_eq, jV_ne, jV_V, kn_lit, kn_add, kn_mul, kn_sdm, kn_sub, kn_div, kn_nsdm, kn_lt, kn_eq, kn_pred, kn_m1, kn_m1', kn_a31, kn_shl, kn_shr, kn_bit, nB_0, nB_1, nB_t, nB_f, Nat.zero_add, Nat.add_zero, Nat.reduceAdd, Nat.reduceMul, Nat.reduceSub, Nat.reducePow]
  generalize jU I 205 (jV (I 205) 0 (nI 0)) = I' at hQ0
  refine jz_for (fun fuel g s => F_Mod_burnsOut_l9 fuel 205 (nI s) (nI g) (jz_I h I')) (τ 0 0) (fun g => s_mxo r g) _ (fun n g hg => ?_) (fun n => ?_) jF (by show _ < 1000; omega)
  · have b6 := hr.1 g (by omega)
    have hm := s_mxo_le hr g (by omega)
    simp (disch := omega) only [F_Mod_burnsOut_l9, F_Mod_burnsOut_c9, hQ0.1.1.1, ↓dK_205 hL, ↓dG_205 hL, ↓dP_205 hL, ↓dZ_205 hL (x := nI 0) (Or.inl rfl), ↓dZ_205 hL (x := nI 1) (Or.inr rfl), ↓dZ_205 hL (Or.inl rfl), ↓dZ_205 hL (Or.inr rfl), ↓dZ_205 hL (nB_01 _), ↓dR_205_12 hL, dI_209 hL, dS_209 hL, ↓reduceIte, ↓kq_bi, ↓kq_let, ↓kq_rz0, ↓kq_rz1, ↓kq_rzB, ↓Option.bind_some, kq_dvn, kt_lt, kf_lt, kt_eq, kf_eq, decide_true, decide_false, eq_self, Bool.false_eq_true, Bool.true_eq_false, not_true_eq_false, not_false_eq_true, jU_eq, jU_ne, jU_U, jV_eq, jV_ne, jV_V, kn_lit, kn_add, kn_mul, kn_sdm, kn_sub, kn_div, kn_nsdm, kn_lt, kn_eq, kn_pred, kn_m1, kn_m1', kn_a31, kn_shl, kn_shr, kn_bit, nB_0, nB_1, nB_t, nB_f, Nat.zero_add, Nat.add_zero, Nat.reduceAdd, Nat.reduceMul, Nat.reduceSub, Nat.reducePow]
    refine jz_forI (fun fuel k s => F_Mod_burnsOut_l21 (F_Mod_burnsOut_l9 n) fuel 205 (nI s) (nI g) (nI k) (jz_I h I')) (r (108 + g)) (fun k => s_mxi r g (s_mxo r g) k) _ rfl (fun n2 k hk => ?_) (fun n2 => ?_) jF (by show _ < 1000; omega)
    · have h1 := s_mxi_le hr (show g < 9 by omega) hm k (by omega)
      have h2 := (hr.2.1 g k (by omega) hk).2.2
      show F_Mod_burnsOut_c21 (F_Mod_burnsOut_l9 n) (F_Mod_burnsOut_l21 (F_Mod_burnsOut_l9 n) n2) 205 (nI (s_mxi r g (s_mxo r g) k)) (nI g) (nI k) (jz_I h I') = F_Mod_burnsOut_l21 (F_Mod_burnsOut_l9 n) n2 205 (nI (if s_mxi r g (s_mxo r g) k < r (54 + (6 * g + k)) then r (54 + (6 * g + k)) else s_mxi r g (s_mxo r g) k)) (nI g) (nI (k + 1)) (jz_I h I')
      have em : (if r (54 + (6 * g + k)) < s_mxi r g (s_mxo r g) k then s_mxi r g (s_mxo r g) k else r (54 + (6 * g + k))) = (if s_mxi r g (s_mxo r g) k < r (54 + (6 * g + k)) then r (54 + (6 * g + k)) else s_mxi r g (s_mxo r g) k) := by split <;> split <;> omega
      have e2 : 54 + 6 * g + k = 54 + (6 * g + k) := by omega
      unfold F_Mod_burnsOut_c21
      simp (disch := omega) only [jMR_at hQ0.2.1, e2, m_more, ↓dK_205 hL, ↓dG_205 hL, ↓dP_205 hL, ↓dZ_205 hL (x := nI 0) (Or.inl rfl), ↓dZ_205 hL (x := nI 1) (Or.inr rfl), ↓dZ_205 hL (Or.inl rfl), ↓dZ_205 hL (Or.inr rfl), ↓dZ_205 hL (nB_01 _), ↓dR_205_35 hL, dI_691 hL, dS_691 hL, ↓reduceIte, ↓kq_bi, ↓kq_let, ↓kq_rz0, ↓kq_rz1, ↓kq_rzB, ↓Option.bind_some, kq_dvn, kt_lt, kf_lt, kt_eq, kf_eq, decide_true, decide_false, eq_self, Bool.false_eq_true, Bool.true_eq_false, not_true_eq_false, not_false_eq_true, jU_eq, jU_ne, jU_U, jV_eq, jV_ne, jV_V, kn_lit, kn_add, kn_mul, kn_sdm, kn_sub, kn_div, kn_nsdm, kn_lt, kn_eq, kn_pred, kn_m1, kn_m1', kn_a31, kn_shl, kn_shr, kn_bit, nB_0, nB_1, nB_t, nB_f, Nat.zero_add, Nat.add_zero, Nat.reduceAdd, Nat.reduceMul, Nat.reduceSub, Nat.reducePow]
      rw [em]
    · show F_Mod_burnsOut_c21 (F_Mod_burnsOut_l9 n) (F_Mod_burnsOut_l21 (F_Mod_burnsOut_l9 n) n2) 205 (nI (s_mxi r g (s_mxo r g) (r (108 + g)))) (nI g) (nI (r (108 + g))) (jz_I h I') = F_Mod_burnsOut_l9 n 205 (nI (s_mxi r g (s_mxo r g) (r (108 + g)))) (nI (g + 1)) (jz_I h I')
      unfold F_Mod_burnsOut_c21
      simp (disch := omega) only [jMR_at hQ0.2.1, ↓dK_205 hL, ↓dG_205 hL, ↓dP_205 hL, ↓dZ_205 hL (x := nI 0) (Or.inl rfl), ↓dZ_205 hL (x := nI 1) (Or.inr rfl), ↓dZ_205 hL (Or.inl rfl), ↓dZ_205 hL (Or.inr rfl), ↓dZ_205 hL (nB_01 _), ↓dR_205_35 hL, dI_691 hL, dS_691 hL, ↓reduceIte, ↓kq_bi, ↓kq_let, ↓kq_rz0, ↓kq_rz1, ↓kq_rzB, ↓Option.bind_some, kq_dvn, kt_lt, kf_lt, kt_eq, kf_eq, decide_true, decide_false, eq_self, Bool.false_eq_true, Bool.true_eq_false, not_true_eq_false, not_false_eq_true, jU_eq, jU_ne, jU_U, jV_eq, jV_ne, jV_V, kn_lit, kn_add, kn_mul, kn_sdm, kn_sub, kn_div, kn_nsdm, kn_lt, kn_eq, kn_pred, kn_m1, kn_m1', kn_a31, kn_shl, kn_shr, kn_bit, nB_0, nB_1, nB_t, nB_f, Nat.zero_add, Nat.add_zero, Nat.reduceAdd, Nat.reduceMul, Nat.reduceSub, Nat.reducePow]
  · simp (disch := omega) only [F_Mod_burnsOut_l9, F_Mod_burnsOut_c9, hQ0.1.1.1, ↓dK_205 hL, ↓dG_205 hL, ↓dP_205 hL, ↓dZ_205 hL (x := nI 0) (Or.inl rfl), ↓dZ_205 hL (x := nI 1) (Or.inr rfl), ↓dZ_205 hL (Or.inl rfl), ↓dZ_205 hL (Or.inr rfl), ↓dZ_205 hL (nB_01 _), ↓dR_205_12 hL, dI_209 hL, dS_209 hL, ↓reduceIte, ↓kq_bi, ↓kq_let, ↓kq_rz0, ↓kq_rz1, ↓kq_rzB, ↓Option.bind_some, kq_dvn, kt_lt, kf_lt, kt_eq, kf_eq, decide_true, decide_false, eq_self, Bool.false_eq_true, Bool.true_eq_false, not_true_eq_false, not_false_eq_true, jU_eq, jU_ne, jU_U, jV_eq, jV_ne, jV_V, kn_lit, kn_add, kn_mul, kn_sdm, kn_sub, kn_div, kn_nsdm, kn_lt, kn_eq, kn_pred, kn_m1, kn_m1', kn_a31, kn_shl, kn_shr, kn_bit, nB_0, nB_1, nB_t, nB_f, Nat.zero_add, Nat.add_zero, Nat.reduceAdd, Nat.reduceMul, Nat.reduceSub, Nat.reducePow]
end

/-! PLAIN LEAN, 30: days -/
def s_sd (s : Int32) : Int32 := s * nI 1103515245 + nI 12345
def s_dr (s : Int32) : Nat := ((s >>> nI 16) &&& nI 32767).toBitVec.toNat % 16
theorem kn_ofbv (y : Int32) : nI y.toBitVec.toNat = y := kn_bvinj (BitVec.eq_of_toNat_eq (by rw [kn_bv, BitVec.toNat_ofNat]; exact Nat.mod_eq_of_lt (BitVec.isLt _)))
theorem kn_m15 (x : Int32) : (x &&& nI 32767).toBitVec.toNat < 32768 := by
  rw [Int32.toBitVec_and, BitVec.toNat_and]
  exact Nat.lt_of_le_of_lt Nat.and_le_right (by decide)
theorem kn_dr1 (s : Int32) : ((s >>> nI 16) &&& nI 32767) - ((s >>> nI 16) &&& nI 32767) / nI 16 * nI 16 = nI (s_dr s) := by
  have h1 := kn_m15 (s >>> nI 16)
  unfold s_dr
  generalize hy : (s >>> nI 16) &&& nI 32767 = y at h1
  rw [← kn_ofbv y, kn_rem (by omega) (by decide), kn_ofbv]
theorem kn_dr2 (s : Int32) : (s >>> nI 16) &&& nI 15 = nI (s_dr s) := by
  have h1 := kn_m15 (s >>> nI 16)
  have e : (s >>> nI 16) &&& nI 15 = ((s >>> nI 16) &&& nI 32767) &&& nI 15 := by
    rw [Int32.and_assoc, kn_and]
    rfl
  rw [e]
  unfold s_dr
  generalize hy : (s >>> nI 16) &&& nI 32767 = y at h1
  rw [← kn_ofbv y, kn_and, kn_ofbv]
  congr 1
  exact Nat.and_two_pow_sub_one_eq_mod y.toBitVec.toNat 4
theorem s_dr_lt (s : Int32) : s_dr s < 16 := Nat.mod_lt _ (by decide)
/-- logs laid on fires on which nothing burns -/
def s_leu (τ : JTn) (g : Nat) (p : JRw × Nat) : JRw × Nat := if p.1 (108 + g) = 0 then (s_full τ p.1 (τ 0 1)).elim p (fun w => (s_lay τ p.1 g w, p.2 + 1)) else p
def s_le (τ : JTn) (p : JRw × Nat) : Nat → JRw × Nat
  | 0 => p
  | g + 1 => s_leu τ g (s_le τ p g)
abbrev JDy : Type := Int32 × JRw × Nat × Nat
def s_dyd (n : Nat) (y : JDy) : Bool := decide (s_dr (s_sd y.1) < n)
def s_dyu (τ : JTn) (ω : JLw) (n : Nat) (y : JDy) : JDy := (s_sd y.1, s_hour τ ω (s_dyd n y) (s_le τ (y.2.1, y.2.2.1) (τ 0 0)).1, (s_le τ (y.2.1, y.2.2.1) (τ 0 0)).2, y.2.2.2 + (if s_rain τ (s_dyd n y) (y.2.1 133) = true then 1 else 0))
def s_dy (τ : JTn) (ω : JLw) (n : Nat) (s : Int32) (r : JRw) : Nat → JDy
  | 0 => (s, r, 0, 0)
  | k + 1 => s_dyu τ ω n (s_dy τ ω n s r k)
def s_days (τ : JTn) (ω : JLw) (r : JRw) (s : Int32) (n N w : Nat) : Nat := if w < 2 then s_came τ (s_dy τ ω n s r N).2.1 (w + 1) else if w = 2 then (s_dy τ ω n s r N).2.2.1 else (s_dy τ ω n s r N).2.2.2
def jSd (l : Nat) (I J : Nat → Nat → Int32) : Prop := ∀ a, ¬ (90 ≤ a ∧ a < 95) → ¬ a = l + 2 → ¬ a = 105 → J a = I a
section
variable {t u l m b c : Nat} {h : LH} {I J K : Nat → Nat → Int32} {τ : JTn} {r q : JRw} {σ ρ i : Nat} {Q : Type} {x : Int32} {d : Bool} {ω : JLw} {f : Nat → Int32}
theorem s_full_some {n w : Nat} (h : s_full τ r n = some w) : w < n ∧ ¬ r (117 + w) = 0 ∧ w = s_arg (fun w => r (117 + w)) n := by
  unfold s_full at h
  split at h
  · cases h
  · rename_i hc
    cases h
    refine ⟨s_arg_lt _ _ (by omega), fun z => hc (Or.inl z), rfl⟩
theorem s_lay_133 {g w : Nat} (hg : g < 9) (hw : w < 6) (hm : r (108 + g) ≤ 6) : s_lay τ r g w 133 = r 133 := by
  unfold s_lay
  simp (disch := omega) only [nV_ne]
theorem s_le_ok (ho : jTOK τ) {k : Nat} (hr : jROK τ r) : ∀ g, g ≤ 9 → jROK τ (s_le τ (r, k) g).1 ∧ (s_le τ (r, k) g).1 133 = r 133 ∧ (s_le τ (r, k) g).2 ≤ k + g
  | 0, _ => ⟨hr, rfl, Nat.le_refl _⟩
  | g + 1, hg => by
    obtain ⟨h1, h2, h3⟩ := s_le_ok ho (k := k) hr g (by omega)
    have o1 : τ 0 1 ≤ 6 := ho.2.1
    show jROK τ (s_leu τ g (s_le τ (r, k) g)).1 ∧ (s_leu τ g (s_le τ (r, k) g)).1 133 = r 133 ∧ (s_leu τ g (s_le τ (r, k) g)).2 ≤ k + (g + 1)
    generalize s_le τ (r, k) g = p at h1 h2 h3
    unfold s_leu
    by_cases h0 : p.1 (108 + g) = 0
    · rw [if_pos h0]
      cases hf : s_full τ p.1 (τ 0 1) with
      | none => exact ⟨h1, h2, by show p.2 ≤ _; omega⟩
      | some w =>
        obtain ⟨f1, f2, f3⟩ := s_full_some hf
        refine ⟨s_lay_ok ho h1 (by omega) f1 (decide_eq_true ⟨f2, by omega⟩), ?_, ?_⟩
        · show s_lay τ p.1 g w 133 = r 133
          rw [s_lay_133 (by omega) (by omega) (by omega)]; exact h2
        · show p.2 + 1 ≤ _; omega
    · rw [if_neg h0]
      exact ⟨h1, h2, by omega⟩
theorem s_dy_ok (ho : jTOK τ) (hr : jROK τ r) (hh : r 133 ≤ 1000) {s : Int32} {n : Nat} : ∀ k, k ≤ 500 → jROK τ (s_dy τ ω n s r k).2.1 ∧ (s_dy τ ω n s r k).2.1 133 = r 133 + k ∧ (s_dy τ ω n s r k).2.2.1 ≤ 9 * k ∧ (s_dy τ ω n s r k).2.2.2 ≤ k
  | 0, _ => ⟨hr, rfl, Nat.le_refl _, Nat.le_refl _⟩
  | k + 1, hk => by
    obtain ⟨h1, h2, h3, h4⟩ := s_dy_ok ho hr hh (s := s) (n := n) k (by omega)
    have o0 : τ 0 0 ≤ 9 := ho.1
    show jROK τ (s_dyu τ ω n (s_dy τ ω n s r k)).2.1 ∧ (s_dyu τ ω n (s_dy τ ω n s r k)).2.1 133 = r 133 + (k + 1) ∧ (s_dyu τ ω n (s_dy τ ω n s r k)).2.2.1 ≤ 9 * (k + 1) ∧ (s_dyu τ ω n (s_dy τ ω n s r k)).2.2.2 ≤ k + 1
    generalize s_dy τ ω n s r k = y at h1 h2 h3 h4
    obtain ⟨y1, y2, y3, y4⟩ := y
    dsimp only at h1 h2 h3 h4
    obtain ⟨g1, g2, g3⟩ := s_le_ok ho (k := y3) h1 (τ 0 0) o0
    unfold s_dyu
    dsimp only
    refine ⟨s_hour_ok ho g1 ?_, ?_, ?_, ?_⟩
    · rw [g2]
      have : y2 133 = r 133 + k := h2
      omega
    · rw [s_hour_133, g2]
      have : y2 133 = r 133 + k := h2
      omega
    · omega
    · split <;> omega
theorem jSd_trans (h1 : jSd l I J) (h2 : jSd l J K) : jSd l I K := fun a x y z => (h2 a x y z).trans (h1 a x y z)
theorem jSd_Sc (h1 : jSd l I J) (h2 : jSc l 90 J K) : jSd l I K := fun a x y z => (h2 a (by omega) y).trans (h1 a x y z)
theorem jQC_Sd (hL : jLay t u l m b c h) (hS : jSd l I J) (hQ : jQC I t l τ ω r) : jQC J t l τ ω r := by
  have ht := jLay_t hL
  have hl := jLay_l hL
  refine ⟨⟨jCT_congr (fun i hi => hS _ (by omega) (by omega) (by omega)) hQ.1.1, hQ.1.2.1, ⟨?_, fun k hk => ?_⟩, hQ.1.2.2.2⟩, jCS_congr (fun a h1 h2 => hS a (by omega) (by omega) (by omega)) hQ.2.1, hQ.2.2⟩
  · rw [hS l (by omega) (by omega) (by omega)]; exact hQ.1.2.2.1.1
  · rw [hS (l + 1) (by omega) (by omega) (by omega)]; exact hQ.1.2.2.1.2 k hk
theorem c_layEmpty (hL : jLay t u l m b c h) (hQ : jQC I t l τ ω r) (hS : jSd l I J) (hJ : jCS J 90 τ d q) (hq : jROK τ q) {k : Nat} (hk : k ≤ 2000) (h2 : J 105 2 = nI k) : ∃ K, F_Days_layOnEmptyFires 105 (jz_I h J) = some (jz_I h K) ∧ (jSd l I K ∧ jCS K 90 τ d (s_le τ (q, k) (τ 0 0)).1) ∧ K 105 2 = nI (s_le τ (q, k) (τ 0 0)).2 ∧ K 105 1 = J 105 1 ∧ K 105 3 = J 105 3 := by
  have ht := jLay_t hL
  have hl := jLay_l hL
  have ho := hQ.1.2.1
  have o0 : τ 0 0 ≤ 9 := ho.1
  have o1 : τ 0 1 ≤ 6 := ho.2.1
  have hQ' := jQC_Sd hL hS hQ
  refine jE_n (fun P hP => ?_)
  unfold F_Days_layOnEmptyFires
  by_cases hw0 : τ 0 1 = 0
  · have e : ∀ g, s_le τ (q, k) g = (q, k) := by
      intro g
      induction g with
      | zero => rfl
      | succ g ih =>
        show s_leu τ g (s_le τ (q, k) g) = _
        rw [ih]
        unfold s_leu
        have : s_full τ q (τ 0 1) = none := by unfold s_full; rw [if_pos (Or.inr hw0)]
        show (if q (108 + g) = 0 then (s_full τ q (τ 0 1)).elim (q, k) (fun w => (s_lay τ q g w, k + 1)) else (q, k)) = (q, k)
        rw [this]
        split <;> rfl
    rw [e] at hP
    simp (disch := omega) only [↓dR_105_0 hL, ↓dR_90_1 hL, cT_f1 hQ'.1.1, hw0, ↓dR_64_6 hL, ↓dK_105 hL, ↓dG_105 hL, ↓dP_105 hL, ↓dR_64_3 hL, ↓dR_95_0 hL, ↓dR_102_0 hL, ↓dR_105_0 hL, ↓dK_90 hL, ↓dG_90 hL, ↓dP_90 hL, ↓dZ_90 hL (x := nI 0) (Or.inl rfl), ↓dZ_90 hL (x := nI 1) (Or.inr rfl), ↓dZ_90 hL (Or.inl rfl), ↓dZ_90 hL (Or.inr rfl), ↓dZ_90 hL (nB_01 _), ↓dK_T hL ht, ↓dG_T hL ht, ↓dP_T hL ht, ↓reduceIte, ↓kq_bi, ↓kq_let, ↓kq_rz0, ↓kq_rz1, ↓kq_rzB, ↓Option.bind_some, kq_dvn, kt_lt, kf_lt, kt_eq, kf_eq, decide_true, decide_false, eq_self, Bool.false_eq_true, Bool.true_eq_false, not_true_eq_false, not_false_eq_true, jU_eq, jU_ne, jU_U, jV_eq, jV_ne, jV_V, kn_lit, kn_add, kn_mul, kn_sdm, kn_sub, kn_div, kn_nsdm, kn_lt, kn_eq, kn_pred, kn_m1, kn_m1', kn_a31, kn_shl, kn_shr, kn_bit, nB_0, nB_1, nB_t, nB_f, Nat.zero_add, Nat.add_zero, Nat.reduceAdd, Nat.reduceMul, Nat.reduceSub, Nat.reducePow]
    exact jW_s (hP J ⟨⟨hS, hJ⟩, h2, rfl, rfl⟩)
  · have hwp : 0 < τ 0 1 := by omega
    simp (disch := omega) only [↓dR_105_0 hL, ↓dR_90_1 hL, cT_f1 hQ'.1.1, ↓dR_64_6 hL, ↓dK_105 hL, ↓dG_105 hL, ↓dP_105 hL, ↓dR_64_3 hL, ↓dR_95_0 hL, ↓dR_102_0 hL, ↓dR_105_0 hL, ↓dK_90 hL, ↓dG_90 hL, ↓dP_90 hL, ↓dZ_90 hL (x := nI 0) (Or.inl rfl), ↓dZ_90 hL (x := nI 1) (Or.inr rfl), ↓dZ_90 hL (Or.inl rfl), ↓dZ_90 hL (Or.inr rfl), ↓dZ_90 hL (nB_01 _), ↓dK_T hL ht, ↓dG_T hL ht, ↓dP_T hL ht, ↓reduceIte, ↓kq_bi, ↓kq_let, ↓kq_rz0, ↓kq_rz1, ↓kq_rzB, ↓Option.bind_some, kq_dvn, kt_lt, kf_lt, kt_eq, kf_eq, decide_true, decide_false, eq_self, Bool.false_eq_true, Bool.true_eq_false, not_true_eq_false, not_false_eq_true, jU_eq, jU_ne, jU_U, jV_eq, jV_ne, jV_V, kn_lit, kn_add, kn_mul, kn_sdm, kn_sub, kn_div, kn_nsdm, kn_lt, kn_eq, kn_pred, kn_m1, kn_m1', kn_a31, kn_shl, kn_shr, kn_bit, nB_0, nB_1, nB_t, nB_f, Nat.zero_add, Nat.add_zero, Nat.reduceAdd, Nat.reduceMul, Nat.reduceSub, Nat.reducePow]
    refine jW_for0 (f := fun fuel g (K : Nat → Nat → Int32) => F_Days_layOnEmptyFires_l16 fuel 105 (nI g) (jz_I h K)) (τ 0 0) (fun g K => (jSd l I K ∧ jCS K 90 τ d (s_le τ (q, k) g).1) ∧ K 105 2 = nI (s_le τ (q, k) g).2 ∧ K 105 1 = J 105 1 ∧ K 105 3 = J 105 3) J ⟨⟨hS, hJ⟩, h2, rfl, rfl⟩ (by omega) (fun n g K hg hV ih => ?_) (fun n K hV => ?_)
    · obtain ⟨⟨v1, v2⟩, v3, v4, v5⟩ := hV
      have hQ2 := jQC_Sd hL v1 hQ
      obtain ⟨p1, p2, p3⟩ := s_le_ok ho (k := k) hq g (by omega)
      have es : s_le τ (q, k) (g + 1) = s_leu τ g (s_le τ (q, k) g) := rfl
      rw [es] at ih
      show jW (F_Days_layOnEmptyFires_c16 (F_Days_layOnEmptyFires_l16 n) 105 (nI g) (jz_I h K)) P
      unfold F_Days_layOnEmptyFires_c16
      generalize s_le τ (q, k) g = p at v2 v3 p1 p2 p3 ih
      have b6 := p1.1 g (by omega)
      unfold s_leu at ih
      by_cases h0 : p.1 (108 + g) = 0
      · rw [if_pos h0] at ih
        simp (disch := omega) only [↓dR_105_0 hL, ↓dR_90_1 hL, cT_f0 hQ2.1.1, c_burning hL (Or.inr rfl) v2.1, h0, c_mostStored hL (Or.inr rfl) hQ2.1.1 ho v2.1 p1 hwp, ↓dR_64_6 hL, ↓dK_105 hL, ↓dG_105 hL, ↓dP_105 hL, ↓dR_64_3 hL, ↓dR_95_0 hL, ↓dR_102_0 hL, ↓dR_105_0 hL, ↓dK_90 hL, ↓dG_90 hL, ↓dP_90 hL, ↓dZ_90 hL (x := nI 0) (Or.inl rfl), ↓dZ_90 hL (x := nI 1) (Or.inr rfl), ↓dZ_90 hL (Or.inl rfl), ↓dZ_90 hL (Or.inr rfl), ↓dZ_90 hL (nB_01 _), ↓dK_T hL ht, ↓dG_T hL ht, ↓dP_T hL ht, ↓reduceIte, ↓kq_bi, ↓kq_let, ↓kq_rz0, ↓kq_rz1, ↓kq_rzB, ↓Option.bind_some, kq_dvn, kt_lt, kf_lt, kt_eq, kf_eq, decide_true, decide_false, eq_self, Bool.false_eq_true, Bool.true_eq_false, not_true_eq_false, not_false_eq_true, jU_eq, jU_ne, jU_U, jV_eq, jV_ne, jV_V, kn_lit, kn_add, kn_mul, kn_sdm, kn_sub, kn_div, kn_nsdm, kn_lt, kn_eq, kn_pred, kn_m1, kn_m1', kn_a31, kn_shl, kn_shr, kn_bit, nB_0, nB_1, nB_t, nB_f, Nat.zero_add, Nat.add_zero, Nat.reduceAdd, Nat.reduceMul, Nat.reduceSub, Nat.reducePow]
        have ha := s_arg_lt (fun w => p.1 (117 + w)) (τ 0 1) hwp
        refine jW_bi (c_lay hL hQ2.1 (Or.inr rfl) v2 p1 (show g < 9 by omega) ha) (fun K2 hK2 => ?_)
        by_cases hz : p.1 (117 + s_arg (fun w => p.1 (117 + w)) (τ 0 1)) = 0
        · have hf : s_full τ p.1 (τ 0 1) = none := by unfold s_full; rw [if_pos (Or.inl hz)]
          have hc : s_can p.1 g (s_arg (fun w => p.1 (117 + w)) (τ 0 1)) = false := decide_eq_false (fun y => y.1 hz)
          unfold s_layd at hK2
          rw [hc, if_neg (show ¬ false = true by decide)] at hK2
          rw [hf] at ih
          rw [hc]
          simp (disch := omega) only [F_Days_layOnEmptyFires_b69, ↓reduceIte, ↓kq_bi, ↓kq_let, ↓kq_rz0, ↓kq_rz1, ↓kq_rzB, ↓Option.bind_some, kq_dvn, kt_lt, kf_lt, kt_eq, kf_eq, decide_true, decide_false, eq_self, Bool.false_eq_true, Bool.true_eq_false, not_true_eq_false, not_false_eq_true, jU_eq, jU_ne, jU_U, jV_eq, jV_ne, jV_V, kn_lit, kn_add, kn_mul, kn_sdm, kn_sub, kn_div, kn_nsdm, kn_lt, kn_eq, kn_pred, kn_m1, kn_m1', kn_a31, kn_shl, kn_shr, kn_bit, nB_0, nB_1, nB_t, nB_f, Nat.zero_add, Nat.add_zero, Nat.reduceAdd, Nat.reduceMul, Nat.reduceSub, Nat.reducePow]
          have e5 := hK2.2 105 (by omega) (by omega)
          exact ih K2 ⟨⟨jSd_Sc v1 hK2.2, hK2.1⟩, by rw [e5]; exact v3, by rw [e5]; exact v4, by rw [e5]; exact v5⟩
        · have hf : s_full τ p.1 (τ 0 1) = some (s_arg (fun w => p.1 (117 + w)) (τ 0 1)) := by unfold s_full; rw [if_neg (by omega)]
          have hc : s_can p.1 g (s_arg (fun w => p.1 (117 + w)) (τ 0 1)) = true := decide_eq_true ⟨hz, by omega⟩
          unfold s_layd at hK2
          rw [hc, if_pos (show true = true from rfl)] at hK2
          rw [hf] at ih
          rw [hc]
          have e5 := hK2.2 105 (by omega) (by omega)
          have e52 : K2 105 2 = nI p.2 := by rw [e5]; exact v3
          simp (disch := omega) only [e52, F_Days_layOnEmptyFires_b69, ↓dR_64_6 hL, ↓dK_105 hL, ↓dG_105 hL, ↓dP_105 hL, ↓reduceIte, ↓kq_bi, ↓kq_let, ↓kq_rz0, ↓kq_rz1, ↓kq_rzB, ↓Option.bind_some, kq_dvn, kt_lt, kf_lt, kt_eq, kf_eq, decide_true, decide_false, eq_self, Bool.false_eq_true, Bool.true_eq_false, not_true_eq_false, not_false_eq_true, jU_eq, jU_ne, jU_U, jV_eq, jV_ne, jV_V, kn_lit, kn_add, kn_mul, kn_sdm, kn_sub, kn_div, kn_nsdm, kn_lt, kn_eq, kn_pred, kn_m1, kn_m1', kn_a31, kn_shl, kn_shr, kn_bit, nB_0, nB_1, nB_t, nB_f, Nat.zero_add, Nat.add_zero, Nat.reduceAdd, Nat.reduceMul, Nat.reduceSub, Nat.reducePow]
          refine ih _ ⟨⟨jSd_trans (jSd_Sc v1 hK2.2) (fun a _ _ z => jU_ne z), jCS_congr (fun a _ _ => jU_ne (by omega)) hK2.1⟩, ?_, ?_, ?_⟩
          · rw [jU_eq, jV_eq]; rfl
          · rw [jU_eq, jV_ne (by omega), e5]; exact v4
          · rw [jU_eq, jV_ne (by omega), e5]; exact v5
      · rw [if_neg h0] at ih
        simp (disch := omega) only [↓dR_105_0 hL, ↓dR_90_1 hL, cT_f0 hQ2.1.1, c_burning hL (Or.inr rfl) v2.1, F_Days_layOnEmptyFires_b69, ↓dR_64_6 hL, ↓dK_105 hL, ↓dG_105 hL, ↓dP_105 hL, ↓dR_64_3 hL, ↓dR_95_0 hL, ↓dR_102_0 hL, ↓dR_105_0 hL, ↓dK_90 hL, ↓dG_90 hL, ↓dP_90 hL, ↓dZ_90 hL (x := nI 0) (Or.inl rfl), ↓dZ_90 hL (x := nI 1) (Or.inr rfl), ↓dZ_90 hL (Or.inl rfl), ↓dZ_90 hL (Or.inr rfl), ↓dZ_90 hL (nB_01 _), ↓dK_T hL ht, ↓dG_T hL ht, ↓dP_T hL ht, ↓reduceIte, ↓kq_bi, ↓kq_let, ↓kq_rz0, ↓kq_rz1, ↓kq_rzB, ↓Option.bind_some, kq_dvn, kt_lt, kf_lt, kt_eq, kf_eq, decide_true, decide_false, eq_self, Bool.false_eq_true, Bool.true_eq_false, not_true_eq_false, not_false_eq_true, jU_eq, jU_ne, jU_U, jV_eq, jV_ne, jV_V, kn_lit, kn_add, kn_mul, kn_sdm, kn_sub, kn_div, kn_nsdm, kn_lt, kn_eq, kn_pred, kn_m1, kn_m1', kn_a31, kn_shl, kn_shr, kn_bit, nB_0, nB_1, nB_t, nB_f, Nat.zero_add, Nat.add_zero, Nat.reduceAdd, Nat.reduceMul, Nat.reduceSub, Nat.reducePow]
        exact ih K ⟨⟨v1, v2⟩, v3, v4, v5⟩
    · obtain ⟨⟨v1, v2⟩, v3, v4, v5⟩ := hV
      have hQ2 := jQC_Sd hL v1 hQ
      show jW (F_Days_layOnEmptyFires_c16 (F_Days_layOnEmptyFires_l16 n) 105 (nI (τ 0 0)) (jz_I h K)) P
      unfold F_Days_layOnEmptyFires_c16
      simp (disch := omega) only [↓dR_105_0 hL, ↓dR_90_1 hL, cT_f0 hQ2.1.1, ↓dR_64_6 hL, ↓dK_105 hL, ↓dG_105 hL, ↓dP_105 hL, ↓dR_64_3 hL, ↓dR_95_0 hL, ↓dR_102_0 hL, ↓dR_105_0 hL, ↓dK_90 hL, ↓dG_90 hL, ↓dP_90 hL, ↓dZ_90 hL (x := nI 0) (Or.inl rfl), ↓dZ_90 hL (x := nI 1) (Or.inr rfl), ↓dZ_90 hL (Or.inl rfl), ↓dZ_90 hL (Or.inr rfl), ↓dZ_90 hL (nB_01 _), ↓dK_T hL ht, ↓dG_T hL ht, ↓dP_T hL ht, ↓reduceIte, ↓kq_bi, ↓kq_let, ↓kq_rz0, ↓kq_rz1, ↓kq_rzB, ↓Option.bind_some, kq_dvn, kt_lt, kf_lt, kt_eq, kf_eq, decide_true, decide_false, eq_self, Bool.false_eq_true, Bool.true_eq_false, not_true_eq_false, not_false_eq_true, jU_eq, jU_ne, jU_U, jV_eq, jV_ne, jV_V, kn_lit, kn_add, kn_mul, kn_sdm, kn_sub, kn_div, kn_nsdm, kn_lt, kn_eq, kn_pred, kn_m1, kn_m1', kn_a31, kn_shl, kn_shr, kn_bit, nB_0, nB_1, nB_t, nB_f, Nat.zero_add, Nat.add_zero, Nat.reduceAdd, Nat.reduceMul, Nat.reduceSub, Nat.reducePow]
      exact jW_s (hP K ⟨⟨v1, v2⟩, v3, v4, v5⟩)
theorem c_run (hL : jLay t u l m b c h) (hQ : jQC I t l τ ω r) (hS : jSd l I J) (hJ : jCS J 90 τ false r) {n N : Nat} {s : Int32} (hn : n ≤ 16) (hN : N ≤ 96) : ∃ K, F_Days_run 105 s (nI n) (nI N) (jz_I h J) = some (jz_I h K) ∧ (jSd l I K ∧ jCS K 90 τ false (s_dy τ ω n s r N).2.1) ∧ K 105 2 = nI (s_dy τ ω n s r N).2.2.1 ∧ K 105 3 = nI (s_dy τ ω n s r N).2.2.2 := by
  have ho := hQ.1.2.1
  have o0 : τ 0 0 ≤ 9 := ho.1
  have hl := jLay_l hL
  refine jE_n (fun P hP => ?_)
  unfold F_Days_run
  simp (disch := omega) only [↓dR_64_6 hL, ↓dK_105 hL, ↓dG_105 hL, ↓dP_105 hL, ↓reduceIte, ↓kq_bi, ↓kq_let, ↓kq_rz0, ↓kq_rz1, ↓kq_rzB, ↓Option.bind_some, kq_dvn, kt_lt, kf_lt, kt_eq, kf_eq, decide_true, decide_false, eq_self, Bool.false_eq_true, Bool.true_eq_false, not_true_eq_false, not_false_eq_true, jU_eq, jU_ne, jU_U, jV_eq, jV_ne, jV_V, kn_lit, kn_add, kn_mul, kn_sdm, kn_sub, kn_div, kn_nsdm, kn_lt, kn_eq, kn_pred, kn_m1, kn_m1', kn_a31, kn_shl, kn_shr, kn_bit, nB_0, nB_1, nB_t, nB_f, Nat.zero_add, Nat.add_zero, Nat.reduceAdd, Nat.reduceMul, Nat.reduceSub, Nat.reducePow]
  refine jW_for0 (f := fun fuel k (K : Nat → Nat → Int32) => F_Days_run_l18 fuel 105 (nI n) (nI N) (nI k) (jz_I h K)) N (fun k K => (jSd l I K ∧ jCS K 90 τ false (s_dy τ ω n s r k).2.1) ∧ K 105 1 = (s_dy τ ω n s r k).1 ∧ K 105 2 = nI (s_dy τ ω n s r k).2.2.1 ∧ K 105 3 = nI (s_dy τ ω n s r k).2.2.2) _ ⟨⟨jSd_trans hS (fun a _ _ z => jU_ne z), jCS_congr (fun a _ _ => jU_ne (by omega)) hJ⟩, ?_, ?_, ?_⟩ (by omega) (fun F k K hk hV ih => ?_) (fun F K hV => ?_)
  · simp (disch := omega) only [jU_eq, jV_ne, jV_eq]; rfl
  · simp (disch := omega) only [jU_eq, jV_ne, jV_eq]; rfl
  · simp (disch := omega) only [jU_eq, jV_ne, jV_eq]; rfl
  · obtain ⟨⟨v1, v2⟩, v3, v4, v5⟩ := hV
    obtain ⟨p1, p2, p3, p4⟩ := s_dy_ok (ω := ω) ho hQ.2.2.1 hQ.2.2.2 (s := s) (n := n) k (by omega)
    have es : s_dy τ ω n s r (k + 1) = s_dyu τ ω n (s_dy τ ω n s r k) := rfl
    rw [es] at ih
    show jW (F_Days_run_c18 (F_Days_run_l18 F) 105 (nI n) (nI N) (nI k) (jz_I h K)) P
    unfold F_Days_run_c18
    generalize s_dy τ ω n s r k = y at v2 v3 v4 v5 p1 p2 p3 p4 ih
    obtain ⟨y1, y2, y3, y4⟩ := y
    dsimp only at v2 v3 v4 v5 p1 p2 p3 p4
    have hd16 := s_dr_lt (s_sd y1)
    have esd : y1 * nI 1103515245 + nI 12345 = s_sd y1 := rfl
    simp (disch := omega) only [↓dR_105_0 hL, F_Days_draw, F_Days_draw_b38, v3, esd, kn_dr1, ↓dR_64_6 hL, ↓dK_105 hL, ↓dG_105 hL, ↓dP_105 hL, ↓dR_64_3 hL, ↓dR_95_0 hL, ↓dR_102_0 hL, ↓dR_105_0 hL, ↓dK_90 hL, ↓dG_90 hL, ↓dP_90 hL, ↓dZ_90 hL (x := nI 0) (Or.inl rfl), ↓dZ_90 hL (x := nI 1) (Or.inr rfl), ↓dZ_90 hL (Or.inl rfl), ↓dZ_90 hL (Or.inr rfl), ↓dZ_90 hL (nB_01 _), ↓reduceIte, ↓kq_bi, ↓kq_let, ↓kq_rz0, ↓kq_rz1, ↓kq_rzB, ↓Option.bind_some, kq_dvn, kt_lt, kf_lt, kt_eq, kf_eq, decide_true, decide_false, eq_self, Bool.false_eq_true, Bool.true_eq_false, not_true_eq_false, not_false_eq_true, jU_eq, jU_ne, jU_U, jV_eq, jV_ne, jV_V, kn_lit, kn_add, kn_mul, kn_sdm, kn_sub, kn_div, kn_nsdm, kn_lt, kn_eq, kn_pred, kn_m1, kn_m1', kn_a31, kn_shl, kn_shr, kn_bit, nB_0, nB_1, nB_t, nB_f, Nat.zero_add, Nat.add_zero, Nat.reduceAdd, Nat.reduceMul, Nat.reduceSub, Nat.reducePow]
    have key : ∀ dd : Bool, dd = s_dyd n (y1, y2, y3, y4) → jW (F_Days_run_b43 (F_Days_run_l18 F) 105 (nI n) (nI N) (nI k) 90 (nB dd) (jz_I h (jU K 105 (jV (K 105) 1 (s_sd y1))))) P := fun dd hdd => by
      unfold F_Days_run_b43
      simp (disch := omega) only [↓dR_105_0 hL, F_Scene_setRainDrawn, v5, ↓dR_64_6 hL, ↓dK_105 hL, ↓dG_105 hL, ↓dP_105 hL, ↓dR_64_3 hL, ↓dR_95_0 hL, ↓dR_102_0 hL, ↓dR_105_0 hL, ↓dK_90 hL, ↓dG_90 hL, ↓dP_90 hL, ↓dZ_90 hL (x := nI 0) (Or.inl rfl), ↓dZ_90 hL (x := nI 1) (Or.inr rfl), ↓dZ_90 hL (Or.inl rfl), ↓dZ_90 hL (Or.inr rfl), ↓dZ_90 hL (nB_01 _), ↓reduceIte, ↓kq_bi, ↓kq_let, ↓kq_rz0, ↓kq_rz1, ↓kq_rzB, ↓Option.bind_some, kq_dvn, kt_lt, kf_lt, kt_eq, kf_eq, decide_true, decide_false, eq_self, Bool.false_eq_true, Bool.true_eq_false, not_true_eq_false, not_false_eq_true, jU_eq, jU_ne, jU_U, jV_eq, jV_ne, jV_V, kn_lit, kn_add, kn_mul, kn_sdm, kn_sub, kn_div, kn_nsdm, kn_lt, kn_eq, kn_pred, kn_m1, kn_m1', kn_a31, kn_shl, kn_shr, kn_bit, nB_0, nB_1, nB_t, nB_f, Nat.zero_add, Nat.add_zero, Nat.reduceAdd, Nat.reduceMul, Nat.reduceSub, Nat.reducePow]
      have w1 : jSd l I (jU (jU K 105 (jV (K 105) 1 (s_sd y1))) 90 (jV (jV (K 90) 3 (nB dd)) 4 (nI 0))) := jSd_trans v1 (fun a a1 _ a3 => by rw [jU_ne (by omega), jU_ne a3])
      have w2 : jCS (jU (jU K 105 (jV (K 105) 1 (s_sd y1))) 90 (jV (jV (K 90) 3 (nB dd)) 4 (nI 0))) 90 τ dd y2 := ⟨jCR_congr (by rw [jU_ne (by omega), jU_ne (by omega)]) v2.1, by rw [jU_eq]; rfl, Or.inl (by rw [jU_eq]; rfl)⟩
      refine jW_bi (c_rainNow hL (jQC_Sd hL w1 hQ).1 (Or.inr rfl) w2 p1) (fun K2 hK2 => ?_)
      have e5 : K2 105 = jV (K 105) 1 (s_sd y1) := by rw [hK2.2 105 (by omega) (by omega), jU_ne (by omega), jU_eq]
      have er : nI y4 + nB (s_rain τ dd (y2 133)) = nI (y4 + (if s_rain τ dd (y2 133) = true then 1 else 0)) := by
        cases s_rain τ dd (y2 133)
        · exact kn_add y4 0
        · exact kn_add y4 1
      simp (disch := omega) only [er, e5, ↓dR_64_6 hL, ↓dK_105 hL, ↓dG_105 hL, ↓dP_105 hL, ↓reduceIte, ↓kq_bi, ↓kq_let, ↓kq_rz0, ↓kq_rz1, ↓kq_rzB, ↓Option.bind_some, kq_dvn, kt_lt, kf_lt, kt_eq, kf_eq, decide_true, decide_false, eq_self, Bool.false_eq_true, Bool.true_eq_false, not_true_eq_false, not_false_eq_true, jU_eq, jU_ne, jU_U, jV_eq, jV_ne, jV_V, kn_lit, kn_add, kn_mul, kn_sdm, kn_sub, kn_div, kn_nsdm, kn_lt, kn_eq, kn_pred, kn_m1, kn_m1', kn_a31, kn_shl, kn_shr, kn_bit, nB_0, nB_1, nB_t, nB_f, Nat.zero_add, Nat.add_zero, Nat.reduceAdd, Nat.reduceMul, Nat.reduceSub, Nat.reducePow]
      have w3 := jSd_Sc w1 hK2.2
      refine jW_bn (c_layEmpty hL hQ (J := jU K2 105 (jV (jV (K 105) 1 (s_sd y1)) 3 (nI (y4 + (if s_rain τ dd (y2 133) = true then 1 else 0))))) (jSd_trans w3 (fun a _ _ z => jU_ne z)) (jCS_congr (fun a _ _ => jU_ne (by omega)) hK2.1) p1 (k := y3) (by omega) (by rw [jU_eq, jV_ne (by omega), jV_ne (by omega)]; exact v4)) (fun K3 hK3 => ?_)
      obtain ⟨⟨u1, u2⟩, u3, u4, u5⟩ := hK3
      obtain ⟨g1, g2, g3⟩ := s_le_ok ho (k := y3) p1 (τ 0 0) o0
      simp (disch := omega) only [↓dR_105_0 hL, ↓dR_64_6 hL, ↓dK_105 hL, ↓dG_105 hL, ↓dP_105 hL, ↓dR_64_3 hL, ↓dR_95_0 hL, ↓dR_102_0 hL, ↓dR_105_0 hL, ↓dK_90 hL, ↓dG_90 hL, ↓dP_90 hL, ↓dZ_90 hL (x := nI 0) (Or.inl rfl), ↓dZ_90 hL (x := nI 1) (Or.inr rfl), ↓dZ_90 hL (Or.inl rfl), ↓dZ_90 hL (Or.inr rfl), ↓dZ_90 hL (nB_01 _), ↓reduceIte, ↓kq_bi, ↓kq_let, ↓kq_rz0, ↓kq_rz1, ↓kq_rzB, ↓Option.bind_some, kq_dvn, kt_lt, kf_lt, kt_eq, kf_eq, decide_true, decide_false, eq_self, Bool.false_eq_true, Bool.true_eq_false, not_true_eq_false, not_false_eq_true, jU_eq, jU_ne, jU_U, jV_eq, jV_ne, jV_V, kn_lit, kn_add, kn_mul, kn_sdm, kn_sub, kn_div, kn_nsdm, kn_lt, kn_eq, kn_pred, kn_m1, kn_m1', kn_a31, kn_shl, kn_shr, kn_bit, nB_0, nB_1, nB_t, nB_f, Nat.zero_add, Nat.add_zero, Nat.reduceAdd, Nat.reduceMul, Nat.reduceSub, Nat.reducePow]
      refine jW_bn (c_hourT hL (jQC_Sd hL u1 hQ) jSc_refl u2 g1) (fun K4 hK4 => ?_)
      have f5 := hK4.1 105 (by omega) (by omega)
      subst hdd
      refine ih K4 ⟨⟨jSd_Sc u1 hK4.1, hK4.2⟩, ?_, ?_, ?_⟩
      · rw [f5, u4, jU_eq]; rfl
      · rw [f5]; exact u3
      · rw [f5, u5, jU_eq]; rfl
    by_cases hc : s_dr (s_sd y1) < n
    · simp (disch := omega) only [hc, ↓reduceIte, ↓kq_bi, ↓kq_let, ↓kq_rz0, ↓kq_rz1, ↓kq_rzB, ↓Option.bind_some, kq_dvn, kt_lt, kf_lt, kt_eq, kf_eq, decide_true, decide_false, eq_self, Bool.false_eq_true, Bool.true_eq_false, not_true_eq_false, not_false_eq_true, jU_eq, jU_ne, jU_U, jV_eq, jV_ne, jV_V, kn_lit, kn_add, kn_mul, kn_sdm, kn_sub, kn_div, kn_nsdm, kn_lt, kn_eq, kn_pred, kn_m1, kn_m1', kn_a31, kn_shl, kn_shr, kn_bit, nB_0, nB_1, nB_t, nB_f, Nat.zero_add, Nat.add_zero, Nat.reduceAdd, Nat.reduceMul, Nat.reduceSub, Nat.reducePow]
      exact key true (decide_eq_true hc).symm
    · simp (disch := omega) only [hc, ↓reduceIte, ↓kq_bi, ↓kq_let, ↓kq_rz0, ↓kq_rz1, ↓kq_rzB, ↓Option.bind_some, kq_dvn, kt_lt, kf_lt, kt_eq, kf_eq, decide_true, decide_false, eq_self, Bool.false_eq_true, Bool.true_eq_false, not_true_eq_false, not_false_eq_true, jU_eq, jU_ne, jU_U, jV_eq, jV_ne, jV_V, kn_lit, kn_add, kn_mul, kn_sdm, kn_sub, kn_div, kn_nsdm, kn_lt, kn_eq, kn_pred, kn_m1, kn_m1', kn_a31, kn_shl, kn_shr, kn_bit, nB_0, nB_1, nB_t, nB_f, Nat.zero_add, Nat.add_zero, Nat.reduceAdd, Nat.reduceMul, Nat.reduceSub, Nat.reducePow]
      exact key false (decide_eq_false hc).symm
  · show jW (F_Days_run_c18 (F_Days_run_l18 F) 105 (nI n) (nI N) (nI N) (jz_I h K)) P
    unfold F_Days_run_c18
    simp (disch := omega) only [↓reduceIte, ↓kq_bi, ↓kq_let, ↓kq_rz0, ↓kq_rz1, ↓kq_rzB, ↓Option.bind_some, kq_dvn, kt_lt, kf_lt, kt_eq, kf_eq, decide_true, decide_false, eq_self, Bool.false_eq_true, Bool.true_eq_false, not_true_eq_false, not_false_eq_true, jU_eq, jU_ne, jU_U, jV_eq, jV_ne, jV_V, kn_lit, kn_add, kn_mul, kn_sdm, kn_sub, kn_div, kn_nsdm, kn_lt, kn_eq, kn_pred, kn_m1, kn_m1', kn_a31, kn_shl, kn_shr, kn_bit, nB_0, nB_1, nB_t, nB_f, Nat.zero_add, Nat.add_zero, Nat.reduceAdd, Nat.reduceMul, Nat.reduceSub, Nat.reducePow]
    exact jW_s (hP K ⟨hV.1, hV.2.2.1, hV.2.2.2⟩)
theorem c_days (hL : jLay t u l m b c h) (hQ : jQC I t l τ ω r) {n N w : Nat} {s : Int32} (hn : n ≤ 16) (h1 : 1 ≤ N) (hN : N ≤ 96) (hw : w ≤ 3) : ∃ J, F_SG_days 64 s (nI n) (nI N) (nI w) (jz_I h I) = some (jo_i (nI (s_days τ ω r s n N w), jz_I h J)) ∧ jSd l I J := by
  have ho := hQ.1.2.1
  refine jE_o (fun P hP => ?_)
  unfold F_SG_days
  simp (disch := omega) only [c_need1, kq_th, F_SG_days_b38, ↓dK_64 hL, ↓dG_64 hL, ↓dP_64 hL, ↓reduceIte, ↓kq_bi, ↓kq_let, ↓kq_rz0, ↓kq_rz1, ↓kq_rzB, ↓Option.bind_some, kq_dvn, kt_lt, kf_lt, kt_eq, kf_eq, decide_true, decide_false, eq_self, Bool.false_eq_true, Bool.true_eq_false, not_true_eq_false, not_false_eq_true, jU_eq, jU_ne, jU_U, jV_eq, jV_ne, jV_V, kn_lit, kn_add, kn_mul, kn_sdm, kn_sub, kn_div, kn_nsdm, kn_lt, kn_eq, kn_pred, kn_m1, kn_m1', kn_a31, kn_shl, kn_shr, kn_bit, nB_0, nB_1, nB_t, nB_f, Nat.zero_add, Nat.add_zero, Nat.reduceAdd, Nat.reduceMul, Nat.reduceSub, Nat.reducePow]
  refine jW_bn (c_trial hL hQ) (fun J hJ => ?_)
  simp (disch := omega) only [↓dK_64 hL, ↓dG_64 hL, ↓dP_64 hL, ↓dR_64_6 hL, ↓dK_105 hL, ↓dG_105 hL, ↓dP_105 hL, ↓reduceIte, ↓kq_bi, ↓kq_let, ↓kq_rz0, ↓kq_rz1, ↓kq_rzB, ↓Option.bind_some, kq_dvn, kt_lt, kf_lt, kt_eq, kf_eq, decide_true, decide_false, eq_self, Bool.false_eq_true, Bool.true_eq_false, not_true_eq_false, not_false_eq_true, jU_eq, jU_ne, jU_U, jV_eq, jV_ne, jV_V, kn_lit, kn_add, kn_mul, kn_sdm, kn_sub, kn_div, kn_nsdm, kn_lt, kn_eq, kn_pred, kn_m1, kn_m1', kn_a31, kn_shl, kn_shr, kn_bit, nB_0, nB_1, nB_t, nB_f, Nat.zero_add, Nat.add_zero, Nat.reduceAdd, Nat.reduceMul, Nat.reduceSub, Nat.reducePow]
  refine jW_bn (c_run hL hQ (jSd_Sc (fun _ _ _ _ => rfl) hJ.1) hJ.2 hn hN) (fun K hK => ?_)
  obtain ⟨⟨k1, k2⟩, k3, k4⟩ := hK
  have hQ2 := jQC_Sd hL k1 hQ
  obtain ⟨p1, -⟩ := s_dy_ok (ω := ω) ho hQ.2.2.1 hQ.2.2.2 (s := s) (n := n) N (by omega)
  have fin := hP K k1
  unfold s_days at fin
  generalize s_dy τ ω n s r N = y at fin k2 k3 k4 p1
  have : w = 0 ∨ w = 1 ∨ w = 2 ∨ w = 3 := by omega
  rcases this with rfl | rfl | rfl | rfl
  · rw [if_pos (show 0 < 2 by decide)] at fin
    simp (disch := omega) only [c_comersThat hL (Or.inr rfl) hQ2.1.1 ho k2.1 p1, ↓dK_64 hL, ↓dG_64 hL, ↓dP_64 hL, ↓dR_64_3 hL, ↓dR_95_0 hL, ↓dR_102_0 hL, ↓dR_105_0 hL, ↓dK_90 hL, ↓dG_90 hL, ↓dP_90 hL, ↓dZ_90 hL (x := nI 0) (Or.inl rfl), ↓dZ_90 hL (x := nI 1) (Or.inr rfl), ↓dZ_90 hL (Or.inl rfl), ↓dZ_90 hL (Or.inr rfl), ↓dZ_90 hL (nB_01 _), ↓reduceIte, ↓kq_bi, ↓kq_let, ↓kq_rz0, ↓kq_rz1, ↓kq_rzB, ↓Option.bind_some, kq_dvn, kt_lt, kf_lt, kt_eq, kf_eq, decide_true, decide_false, eq_self, Bool.false_eq_true, Bool.true_eq_false, not_true_eq_false, not_false_eq_true, jU_eq, jU_ne, jU_U, jV_eq, jV_ne, jV_V, kn_lit, kn_add, kn_mul, kn_sdm, kn_sub, kn_div, kn_nsdm, kn_lt, kn_eq, kn_pred, kn_m1, kn_m1', kn_a31, kn_shl, kn_shr, kn_bit, nB_0, nB_1, nB_t, nB_f, Nat.zero_add, Nat.add_zero, Nat.reduceAdd, Nat.reduceMul, Nat.reduceSub, Nat.reducePow]
    exact jW_s fin
  · rw [if_pos (show 1 < 2 by decide)] at fin
    simp (disch := omega) only [c_comersThat hL (Or.inr rfl) hQ2.1.1 ho k2.1 p1, ↓dK_64 hL, ↓dG_64 hL, ↓dP_64 hL, ↓dR_64_3 hL, ↓dR_95_0 hL, ↓dR_102_0 hL, ↓dR_105_0 hL, ↓dK_90 hL, ↓dG_90 hL, ↓dP_90 hL, ↓dZ_90 hL (x := nI 0) (Or.inl rfl), ↓dZ_90 hL (x := nI 1) (Or.inr rfl), ↓dZ_90 hL (Or.inl rfl), ↓dZ_90 hL (Or.inr rfl), ↓dZ_90 hL (nB_01 _), ↓reduceIte, ↓kq_bi, ↓kq_let, ↓kq_rz0, ↓kq_rz1, ↓kq_rzB, ↓Option.bind_some, kq_dvn, kt_lt, kf_lt, kt_eq, kf_eq, decide_true, decide_false, eq_self, Bool.false_eq_true, Bool.true_eq_false, not_true_eq_false, not_false_eq_true, jU_eq, jU_ne, jU_U, jV_eq, jV_ne, jV_V, kn_lit, kn_add, kn_mul, kn_sdm, kn_sub, kn_div, kn_nsdm, kn_lt, kn_eq, kn_pred, kn_m1, kn_m1', kn_a31, kn_shl, kn_shr, kn_bit, nB_0, nB_1, nB_t, nB_f, Nat.zero_add, Nat.add_zero, Nat.reduceAdd, Nat.reduceMul, Nat.reduceSub, Nat.reducePow]
    exact jW_s fin
  · rw [if_neg (show ¬ 2 < 2 by decide), if_pos (show 2 = 2 from rfl)] at fin
    simp (disch := omega) only [k3, ↓dK_64 hL, ↓dG_64 hL, ↓dP_64 hL, ↓dR_64_6 hL, ↓dK_105 hL, ↓dG_105 hL, ↓dP_105 hL, ↓reduceIte, ↓kq_bi, ↓kq_let, ↓kq_rz0, ↓kq_rz1, ↓kq_rzB, ↓Option.bind_some, kq_dvn, kt_lt, kf_lt, kt_eq, kf_eq, decide_true, decide_false, eq_self, Bool.false_eq_true, Bool.true_eq_false, not_true_eq_false, not_false_eq_true, jU_eq, jU_ne, jU_U, jV_eq, jV_ne, jV_V, kn_lit, kn_add, kn_mul, kn_sdm, kn_sub, kn_div, kn_nsdm, kn_lt, kn_eq, kn_pred, kn_m1, kn_m1', kn_a31, kn_shl, kn_shr, kn_bit, nB_0, nB_1, nB_t, nB_f, Nat.zero_add, Nat.add_zero, Nat.reduceAdd, Nat.reduceMul, Nat.reduceSub, Nat.reducePow]
    exact jW_s fin
  · rw [if_neg (show ¬ 3 < 2 by decide), if_neg (show ¬ 3 = 2 by decide)] at fin
    simp (disch := omega) only [k4, ↓dK_64 hL, ↓dG_64 hL, ↓dP_64 hL, ↓dR_64_6 hL, ↓dK_105 hL, ↓dG_105 hL, ↓dP_105 hL, ↓reduceIte, ↓kq_bi, ↓kq_let, ↓kq_rz0, ↓kq_rz1, ↓kq_rzB, ↓Option.bind_some, kq_dvn, kt_lt, kf_lt, kt_eq, kf_eq, decide_true, decide_false, eq_self, Bool.false_eq_true, Bool.true_eq_false, not_true_eq_false, not_false_eq_true, jU_eq, jU_ne, jU_U, jV_eq, jV_ne, jV_V, kn_lit, kn_add, kn_mul, kn_sdm, kn_sub, kn_div, kn_nsdm, kn_lt, kn_eq, kn_pred, kn_m1, kn_m1', kn_a31, kn_shl, kn_shr, kn_bit, nB_0, nB_1, nB_t, nB_f, Nat.zero_add, Nat.add_zero, Nat.reduceAdd, Nat.reduceMul, Nat.reduceSub, Nat.reducePow]
    exact jW_s fin
end

/-! PLAIN LEAN, 21: share, crowd, lean -/
def s_mn (a b : Nat) : Nat := if a < b then a else b
def s_clm (τ : JTn) (r : JRw) (v bd n : Nat) : Nat := s_sum (fun g => if v / 2 ^ g % 2 = 1 then s_mn bd (r (108 + g)) else 0) n
/-- the greatest bound by which no more than n are given -/
def s_dn (c : Nat → Nat) (n : Nat) : Nat → Nat
  | 0 => 0
  | b + 1 => if n < c (b + 1) then s_dn c n b else b + 1
def s_share (τ : JTn) (r : JRw) (g v n : Nat) : Nat := if v / 2 ^ g % 2 = 1 then s_mn (s_dn (fun b => s_clm τ r v b (τ 0 0)) n 6) (r (108 + g)) else 0
/-- the first of the most, if there is one -/
def s_fl (f : Nat → Nat) : Nat → Option Nat × Nat
  | 0 => (none, 0)
  | k + 1 => if (s_fl f k).2 < f k then (some k, f k) else s_fl f k
def s_crd (τ : JTn) (r : JRw) (x : Nat) : Nat := s_cnt (fun g => decide (0 < r (108 + g)) && decide (s_st τ r g = x)) (τ 0 0)
def s_crowd (τ : JTn) (r : JRw) (w : Bool) : Option Nat := if w = true then (s_fl (s_crd τ r) (τ 0 0)).1.map (fun _ => (s_fl (s_crd τ r) (τ 0 0)).2) else (s_fl (s_crd τ r) (τ 0 0)).1
/-- lean -/
def s_lnt (τ : JTn) (r : JRw) (g k x : Nat) : Nat := if x = g then s_stl τ r x k else s_st τ r x
def s_lns (τ : JTn) (r : JRw) (g v k n : Nat) : Nat := s_sum (fun x => if v / 2 ^ (s_lnt τ r g k x) % 2 = 1 then s_smf τ false r x else 0) n
def s_lnf (f : Nat → Nat) : Nat → Nat × Nat
  | 0 => (0, f 0)
  | k + 1 => if f (k + 1) < (s_lnf f k).2 then (k + 1, f (k + 1)) else s_lnf f k
section
variable {t u l m b c : Nat} {h : LH} {I J K : Nat → Nat → Int32} {τ : JTn} {r q : JRw} {σ ρ i : Nat} {Q : Type} {x : Int32} {d : Bool} {ω : JLw} {f : Nat → Int32}
theorem s_mn_le (a b : Nat) : s_mn a b ≤ b := by unfold s_mn; split <;> omega
theorem s_mn_mono {a a' : Nat} (b : Nat) (h : a ≤ a') : s_mn a b ≤ s_mn a' b := by unfold s_mn; split <;> split <;> omega
theorem s_clm_le (hr : jROK τ r) {v bd : Nat} {n : Nat} (hn : n ≤ 9) : s_clm τ r v bd n ≤ 54 := by
  have := s_sum_le (f := fun g => if v / 2 ^ g % 2 = 1 then s_mn bd (r (108 + g)) else 0) (c := 6) n (fun k hk => by
    show (if v / 2 ^ k % 2 = 1 then s_mn bd (r (108 + k)) else 0) ≤ 6
    have h1 := hr.1 k (by omega)
    have h2 := s_mn_le bd (r (108 + k))
    split <;> omega)
  unfold s_clm
  omega
theorem s_sum_mono {f g : Nat → Nat} : ∀ n, (∀ k, k < n → f k ≤ g k) → s_sum f n ≤ s_sum g n
  | 0, _ => Nat.le_refl 0
  | n + 1, h => by
    have h1 := s_sum_mono n (fun k hk => h k (by omega))
    have h2 := h n (by omega)
    show s_sum f n + f n ≤ s_sum g n + g n
    omega
theorem s_clm_mono {v a a' n : Nat} (h : a ≤ a') : s_clm τ r v a n ≤ s_clm τ r v a' n := by
  refine s_sum_mono n (fun k hk => ?_)
  show (if _ then _ else _) ≤ (if _ then _ else _)
  split
  · exact s_mn_mono _ h
  · exact Nat.le_refl _
theorem s_dn_le (c : Nat → Nat) (n : Nat) : ∀ N, s_dn c n N ≤ N
  | 0 => Nat.le_refl 0
  | b + 1 => by
    have := s_dn_le c n b
    show (if n < c (b + 1) then s_dn c n b else b + 1) ≤ b + 1
    split <;> omega
theorem s_dn_eq {c : Nat → Nat} {n k : Nat} (h2 : k = 0 ∨ c k ≤ n) : ∀ N, k ≤ N → (∀ j, k < j → j ≤ N → n < c j) → s_dn c n N = k
  | 0, hk, _ => by have : k = 0 := by omega
                   subst this; rfl
  | N + 1, hk, h1 => by
    show (if n < c (N + 1) then s_dn c n N else N + 1) = k
    by_cases he : k = N + 1
    · subst he
      rw [if_neg (by omega)]
    · rw [if_pos (h1 (N + 1) (by omega) (Nat.le_refl _))]
      exact s_dn_eq h2 N (by omega) (fun j h3 h4 => h1 j h3 (by omega))
theorem kn_mn {a b : Nat} : (if b < a then nI b else nI a) = nI (s_mn a b) := by
  unfold s_mn
  by_cases h1 : b < a
  · rw [if_pos h1, if_neg (by omega)]
  · rw [if_neg h1]
    by_cases h2 : a < b
    · rw [if_pos h2]
    · rw [if_neg h2]; congr 1; omega
theorem s_2p (ho : jTOK τ) {v : Nat} (hv : v < 2 ^ τ 0 0) : v < 512 := Nat.lt_of_lt_of_le hv (show 2 ^ τ 0 0 ≤ 2 ^ 9 from Nat.pow_le_pow_right (by omega) ho.1)
theorem c_givenBy (hL : jLay t u l m b c h) (hQ : jQC I t l τ ω r) {v bd : Nat} (hv : v < 2 ^ τ 0 0) (hb : bd ≤ 6) : F_SG_givenBy 64 (nI v) (nI bd) (jz_I h I) = some (nI (s_clm τ r v bd (τ 0 0)), jz_I h I) := by
  have ht := jLay_t hL
  have ho := hQ.1.2.1
  have o0 : τ 0 0 ≤ 9 := ho.1
  have hv9 := s_2p ho hv
  unfold F_SG_givenBy
  refine jz_for (fun fuel k s => F_SG_givenBy_l5 fuel 64 (nI v) (nI bd) (nI s) (nI k) (jz_I h I)) (τ 0 0) (fun k => s_clm τ r v bd k) _ (fun n k hk => ?_) (fun n => ?_) jF (by show _ < 1000; omega)
  · have b6 := hQ.2.2.1.1 k (by omega)
    have hs := s_clm_le (v := v) (bd := bd) hQ.2.2.1 (show k ≤ 9 by omega)
    have hm := Nat.mod_two_eq_zero_or_one (v / 2 ^ k)
    show F_SG_givenBy_c5 (F_SG_givenBy_l5 n) 64 (nI v) (nI bd) (nI (s_clm τ r v bd k)) (nI k) (jz_I h I) = F_SG_givenBy_l5 n 64 (nI v) (nI bd) (nI (s_clm τ r v bd k + (if v / 2 ^ k % 2 = 1 then s_mn bd (r (108 + k)) else 0))) (nI (k + 1)) (jz_I h I)
    unfold F_SG_givenBy_c5
    rcases hm with hm | hm
    · rw [hm, if_neg (show ¬ (0 : Nat) = 1 by decide)]
      simp (disch := omega) only [↓dR_85_1 hL, cT_f0 hQ.1.1, hm, F_SG_givenBy_b46, ↓dK_64 hL, ↓dG_64 hL, ↓dP_64 hL, ↓dR_64_2 hL, ↓dK_85 hL, ↓dG_85 hL, ↓dP_85 hL, ↓dZ_85 hL (x := nI 0) (Or.inl rfl), ↓dZ_85 hL (x := nI 1) (Or.inr rfl), ↓dZ_85 hL (Or.inl rfl), ↓dZ_85 hL (Or.inr rfl), ↓dZ_85 hL (nB_01 _), ↓dK_T hL ht, ↓dG_T hL ht, ↓dP_T hL ht, ↓reduceIte, ↓kq_bi, ↓kq_let, ↓kq_rz0, ↓kq_rz1, ↓kq_rzB, ↓Option.bind_some, kq_dvn, kt_lt, kf_lt, kt_eq, kf_eq, decide_true, decide_false, eq_self, Bool.false_eq_true, Bool.true_eq_false, not_true_eq_false, not_false_eq_true, jU_eq, jU_ne, jU_U, jV_eq, jV_ne, jV_V, kn_lit, kn_add, kn_mul, kn_sdm, kn_sub, kn_div, kn_nsdm, kn_lt, kn_eq, kn_pred, kn_m1, kn_m1', kn_a31, kn_shl, kn_shr, kn_bit, nB_0, nB_1, nB_t, nB_f, Nat.zero_add, Nat.add_zero, Nat.reduceAdd, Nat.reduceMul, Nat.reduceSub, Nat.reducePow]
    · rw [hm, if_pos rfl]
      simp (disch := omega) only [↓dR_85_1 hL, cT_f0 hQ.1.1, hm, c_burning hL (Or.inl rfl) hQ.2.1.1, kn_mn, F_SG_givenBy_b46, ↓dK_64 hL, ↓dG_64 hL, ↓dP_64 hL, ↓dR_64_2 hL, ↓dK_85 hL, ↓dG_85 hL, ↓dP_85 hL, ↓dZ_85 hL (x := nI 0) (Or.inl rfl), ↓dZ_85 hL (x := nI 1) (Or.inr rfl), ↓dZ_85 hL (Or.inl rfl), ↓dZ_85 hL (Or.inr rfl), ↓dZ_85 hL (nB_01 _), ↓dK_T hL ht, ↓dG_T hL ht, ↓dP_T hL ht, ↓reduceIte, ↓kq_bi, ↓kq_let, ↓kq_rz0, ↓kq_rz1, ↓kq_rzB, ↓Option.bind_some, kq_dvn, kt_lt, kf_lt, kt_eq, kf_eq, decide_true, decide_false, eq_self, Bool.false_eq_true, Bool.true_eq_false, not_true_eq_false, not_false_eq_true, jU_eq, jU_ne, jU_U, jV_eq, jV_ne, jV_V, kn_lit, kn_add, kn_mul, kn_sdm, kn_sub, kn_div, kn_nsdm, kn_lt, kn_eq, kn_pred, kn_m1, kn_m1', kn_a31, kn_shl, kn_shr, kn_bit, nB_0, nB_1, nB_t, nB_f, Nat.zero_add, Nat.add_zero, Nat.reduceAdd, Nat.reduceMul, Nat.reduceSub, Nat.reducePow]
  · simp (disch := omega) only [↓dR_85_1 hL, F_SG_givenBy_l5, F_SG_givenBy_c5, cT_f0 hQ.1.1, ↓dK_64 hL, ↓dG_64 hL, ↓dP_64 hL, ↓dR_64_2 hL, ↓dK_85 hL, ↓dG_85 hL, ↓dP_85 hL, ↓dZ_85 hL (x := nI 0) (Or.inl rfl), ↓dZ_85 hL (x := nI 1) (Or.inr rfl), ↓dZ_85 hL (Or.inl rfl), ↓dZ_85 hL (Or.inr rfl), ↓dZ_85 hL (nB_01 _), ↓dK_T hL ht, ↓dG_T hL ht, ↓dP_T hL ht, ↓reduceIte, ↓kq_bi, ↓kq_let, ↓kq_rz0, ↓kq_rz1, ↓kq_rzB, ↓Option.bind_some, kq_dvn, kt_lt, kf_lt, kt_eq, kf_eq, decide_true, decide_false, eq_self, Bool.false_eq_true, Bool.true_eq_false, not_true_eq_false, not_false_eq_true, jU_eq, jU_ne, jU_U, jV_eq, jV_ne, jV_V, kn_lit, kn_add, kn_mul, kn_sdm, kn_sub, kn_div, kn_nsdm, kn_lt, kn_eq, kn_pred, kn_m1, kn_m1', kn_a31, kn_shl, kn_shr, kn_bit, nB_0, nB_1, nB_t, nB_f, Nat.zero_add, Nat.add_zero, Nat.reduceAdd, Nat.reduceMul, Nat.reduceSub, Nat.reducePow]
theorem c_areGates (hL : jLay t u l m b c h) (hQ : jQC I t l τ ω r) {v : Nat} (hv : v < 2 ^ τ 0 0) : F_SG_areGates 64 (nI v) (jz_I h I) = some (nB true, jz_I h I) := by
  have ht := jLay_t hL
  have ho := hQ.1.2.1
  have o0 : τ 0 0 ≤ 9 := ho.1
  have hv9 := s_2p ho hv
  have hp := kn_pow (k := τ 0 0) (by omega)
  unfold F_SG_areGates
  simp (disch := omega) only [↓dR_85_1 hL, cT_f0 hQ.1.1, Nat.one_mul, F_SG_areGates_b25, ↓dK_64 hL, ↓dG_64 hL, ↓dP_64 hL, ↓dR_64_2 hL, ↓dK_85 hL, ↓dG_85 hL, ↓dP_85 hL, ↓dZ_85 hL (x := nI 0) (Or.inl rfl), ↓dZ_85 hL (x := nI 1) (Or.inr rfl), ↓dZ_85 hL (Or.inl rfl), ↓dZ_85 hL (Or.inr rfl), ↓dZ_85 hL (nB_01 _), ↓dK_T hL ht, ↓dG_T hL ht, ↓dP_T hL ht, ↓reduceIte, ↓kq_bi, ↓kq_let, ↓kq_rz0, ↓kq_rz1, ↓kq_rzB, ↓Option.bind_some, kq_dvn, kt_lt, kf_lt, kt_eq, kf_eq, decide_true, decide_false, eq_self, Bool.false_eq_true, Bool.true_eq_false, not_true_eq_false, not_false_eq_true, jU_eq, jU_ne, jU_U, jV_eq, jV_ne, jV_V, kn_lit, kn_add, kn_mul, kn_sdm, kn_sub, kn_div, kn_nsdm, kn_lt, kn_eq, kn_pred, kn_m1, kn_m1', kn_a31, kn_shl, kn_shr, kn_bit, nB_0, nB_1, nB_t, nB_f, Nat.zero_add, Nat.add_zero, Nat.reduceAdd, Nat.reduceMul, Nat.reduceSub, Nat.reducePow]
theorem c_share (hL : jLay t u l m b c h) (hQ : jQC I t l τ ω r) {g v N : Nat} (hg : g < τ 0 0) (hv : v < 2 ^ τ 0 0) (hN : N ≤ 99) : F_SG_share 64 (nI g) (nI v) (nI N) (jz_I h I) = some (jo_i (nI (s_share τ r g v N), jz_I h I)) := by
  have ho := hQ.1.2.1
  have o0 : τ 0 0 ≤ 9 := ho.1
  have hv9 := s_2p ho hv
  have b6 := hQ.2.2.1.1 g (by omega)
  have hm := Nat.mod_two_eq_zero_or_one (v / 2 ^ g)
  unfold F_SG_share s_share
  rcases hm with hm | hm
  · rw [hm, if_neg (show ¬ (0 : Nat) = 1 by decide)]
    simp (disch := omega) only [c_needGate hL hQ.1.1 ho hg, c_areGates hL hQ hv, c_need1, kq_th, hm, F_SG_share_b29, ↓dK_64 hL, ↓dG_64 hL, ↓dP_64 hL, ↓reduceIte, ↓kq_bi, ↓kq_let, ↓kq_rz0, ↓kq_rz1, ↓kq_rzB, ↓Option.bind_some, kq_dvn, kt_lt, kf_lt, kt_eq, kf_eq, decide_true, decide_false, eq_self, Bool.false_eq_true, Bool.true_eq_false, not_true_eq_false, not_false_eq_true, jU_eq, jU_ne, jU_U, jV_eq, jV_ne, jV_V, kn_lit, kn_add, kn_mul, kn_sdm, kn_sub, kn_div, kn_nsdm, kn_lt, kn_eq, kn_pred, kn_m1, kn_m1', kn_a31, kn_shl, kn_shr, kn_bit, nB_0, nB_1, nB_t, nB_f, Nat.zero_add, Nat.add_zero, Nat.reduceAdd, Nat.reduceMul, Nat.reduceSub, Nat.reducePow]
  · rw [hm, if_pos rfl]
    simp (disch := omega) only [c_needGate hL hQ.1.1 ho hg, c_areGates hL hQ hv, c_need1, kq_th, hm, F_SG_share_b29, ↓dK_64 hL, ↓dG_64 hL, ↓dP_64 hL, ↓reduceIte, ↓kq_bi, ↓kq_let, ↓kq_rz0, ↓kq_rz1, ↓kq_rzB, ↓Option.bind_some, kq_dvn, kt_lt, kf_lt, kt_eq, kf_eq, decide_true, decide_false, eq_self, Bool.false_eq_true, Bool.true_eq_false, not_true_eq_false, not_false_eq_true, jU_eq, jU_ne, jU_U, jV_eq, jV_ne, jV_V, kn_lit, kn_add, kn_mul, kn_sdm, kn_sub, kn_div, kn_nsdm, kn_lt, kn_eq, kn_pred, kn_m1, kn_m1', kn_a31, kn_shl, kn_shr, kn_bit, nB_0, nB_1, nB_t, nB_f, Nat.zero_add, Nat.add_zero, Nat.reduceAdd, Nat.reduceMul, Nat.reduceSub, Nat.reducePow]
    have key : ∀ (B fuel : Nat), B ≤ 6 → B < fuel → F_SG_share_l46 fuel 64 (nI g) (nI v) (nI N) (nI B) (jz_I h I) = some (jo_i (nI (s_mn (s_dn (fun b => s_clm τ r v b (τ 0 0)) N B) (r (108 + g))), jz_I h I)) := by
      intro B
      induction B with
      | zero =>
        intro fuel _ hf
        obtain ⟨n, rfl⟩ : ∃ n, fuel = n + 1 := ⟨fuel - 1, by omega⟩
        have e0 : s_mn 0 (r (108 + g)) = 0 := by unfold s_mn; split <;> omega
        simp (disch := omega) only [F_SG_share_l46, F_SG_share_c46, F_SG_share_b68, c_burning hL (Or.inl rfl) hQ.2.1.1, kn_mn, s_dn, e0, ↓dK_64 hL, ↓dG_64 hL, ↓dP_64 hL, ↓dR_64_2 hL, ↓dK_85 hL, ↓dG_85 hL, ↓dP_85 hL, ↓dZ_85 hL (x := nI 0) (Or.inl rfl), ↓dZ_85 hL (x := nI 1) (Or.inr rfl), ↓dZ_85 hL (Or.inl rfl), ↓dZ_85 hL (Or.inr rfl), ↓dZ_85 hL (nB_01 _), ↓reduceIte, ↓kq_bi, ↓kq_let, ↓kq_rz0, ↓kq_rz1, ↓kq_rzB, ↓Option.bind_some, kq_dvn, kt_lt, kf_lt, kt_eq, kf_eq, decide_true, decide_false, eq_self, Bool.false_eq_true, Bool.true_eq_false, not_true_eq_false, not_false_eq_true, jU_eq, jU_ne, jU_U, jV_eq, jV_ne, jV_V, kn_lit, kn_add, kn_mul, kn_sdm, kn_sub, kn_div, kn_nsdm, kn_lt, kn_eq, kn_pred, kn_m1, kn_m1', kn_a31, kn_shl, kn_shr, kn_bit, nB_0, nB_1, nB_t, nB_f, Nat.zero_add, Nat.add_zero, Nat.reduceAdd, Nat.reduceMul, Nat.reduceSub, Nat.reducePow]
      | succ B ih =>
        intro fuel hB hf
        obtain ⟨n, rfl⟩ : ∃ n, fuel = n + 1 := ⟨fuel - 1, by omega⟩
        have hs := s_clm_le (v := v) (bd := B + 1) hQ.2.2.1 o0
        by_cases hc : N < s_clm τ r v (B + 1) (τ 0 0)
        · simp (disch := omega) only [F_SG_share_l46, F_SG_share_c46, F_SG_share_b68, c_givenBy hL hQ hv hB, s_dn, hc, Nat.add_sub_cancel, ↓dK_64 hL, ↓dG_64 hL, ↓dP_64 hL, ↓dR_64_2 hL, ↓dK_85 hL, ↓dG_85 hL, ↓dP_85 hL, ↓dZ_85 hL (x := nI 0) (Or.inl rfl), ↓dZ_85 hL (x := nI 1) (Or.inr rfl), ↓dZ_85 hL (Or.inl rfl), ↓dZ_85 hL (Or.inr rfl), ↓dZ_85 hL (nB_01 _), ↓reduceIte, ↓kq_bi, ↓kq_let, ↓kq_rz0, ↓kq_rz1, ↓kq_rzB, ↓Option.bind_some, kq_dvn, kt_lt, kf_lt, kt_eq, kf_eq, decide_true, decide_false, eq_self, Bool.false_eq_true, Bool.true_eq_false, not_true_eq_false, not_false_eq_true, jU_eq, jU_ne, jU_U, jV_eq, jV_ne, jV_V, kn_lit, kn_add, kn_mul, kn_sdm, kn_sub, kn_div, kn_nsdm, kn_lt, kn_eq, kn_pred, kn_m1, kn_m1', kn_a31, kn_shl, kn_shr, kn_bit, nB_0, nB_1, nB_t, nB_f, Nat.zero_add, Nat.add_zero, Nat.reduceAdd, Nat.reduceMul, Nat.reduceSub, Nat.reducePow]
          exact ih n (by omega) (by omega)
        · simp (disch := omega) only [F_SG_share_l46, F_SG_share_c46, F_SG_share_b68, c_givenBy hL hQ hv hB, c_burning hL (Or.inl rfl) hQ.2.1.1, kn_mn, s_dn, hc, ↓dK_64 hL, ↓dG_64 hL, ↓dP_64 hL, ↓dR_64_2 hL, ↓dK_85 hL, ↓dG_85 hL, ↓dP_85 hL, ↓dZ_85 hL (x := nI 0) (Or.inl rfl), ↓dZ_85 hL (x := nI 1) (Or.inr rfl), ↓dZ_85 hL (Or.inl rfl), ↓dZ_85 hL (Or.inr rfl), ↓dZ_85 hL (nB_01 _), ↓reduceIte, ↓kq_bi, ↓kq_let, ↓kq_rz0, ↓kq_rz1, ↓kq_rzB, ↓Option.bind_some, kq_dvn, kt_lt, kf_lt, kt_eq, kf_eq, decide_true, decide_false, eq_self, Bool.false_eq_true, Bool.true_eq_false, not_true_eq_false, not_false_eq_true, jU_eq, jU_ne, jU_U, jV_eq, jV_ne, jV_V, kn_lit, kn_add, kn_mul, kn_sdm, kn_sub, kn_div, kn_nsdm, kn_lt, kn_eq, kn_pred, kn_m1, kn_m1', kn_a31, kn_shl, kn_shr, kn_bit, nB_0, nB_1, nB_t, nB_f, Nat.zero_add, Nat.add_zero, Nat.reduceAdd, Nat.reduceMul, Nat.reduceSub, Nat.reducePow]
    exact key 6 jF (by omega) (by show 6 < 1000; omega)
theorem m_claimsOf (hL : jLay t u l m b c h) (hQ : jQM I τ ω r) {v bd : Nat} (hv : v < 2 ^ τ 0 0) (hb : bd ≤ 6) : F_Mod_claimsOf 205 (nI v) (nI bd) (jz_I h I) = some (nI (s_clm τ r v bd (τ 0 0)), jz_I h I) := by
  have ho := hQ.1.2.1
  have o0 : τ 0 0 ≤ 9 := ho.1
  have hv9 := s_2p ho hv
  unfold F_Mod_claimsOf
  refine jz_for (fun fuel k s => F_Mod_claimsOf_l5 fuel 205 (nI v) (nI bd) (nI s) (nI k) (jz_I h I)) (τ 0 0) (fun k => s_clm τ r v bd k) _ (fun n k hk => ?_) (fun n => ?_) jF (by show _ < 1000; omega)
  · have b6 := hQ.2.2.1.1 k (by omega)
    have hs := s_clm_le (v := v) (bd := bd) hQ.2.2.1 (show k ≤ 9 by omega)
    have hm := Nat.mod_two_eq_zero_or_one (v / 2 ^ k)
    show F_Mod_claimsOf_c5 (F_Mod_claimsOf_l5 n) 205 (nI v) (nI bd) (nI (s_clm τ r v bd k)) (nI k) (jz_I h I) = F_Mod_claimsOf_l5 n 205 (nI v) (nI bd) (nI (s_clm τ r v bd k + (if v / 2 ^ k % 2 = 1 then s_mn bd (r (108 + k)) else 0))) (nI (k + 1)) (jz_I h I)
    unfold F_Mod_claimsOf_c5
    have em : (if bd < r (108 + k) then bd else r (108 + k)) = s_mn bd (r (108 + k)) := rfl
    rcases hm with hm | hm
    · rw [hm, if_neg (show ¬ (0 : Nat) = 1 by decide)]
      simp (disch := omega) only [hQ.1.1.1, m_has, hm, F_Mod_claimsOf_b44, ↓dK_205 hL, ↓dG_205 hL, ↓dP_205 hL, ↓dZ_205 hL (x := nI 0) (Or.inl rfl), ↓dZ_205 hL (x := nI 1) (Or.inr rfl), ↓dZ_205 hL (Or.inl rfl), ↓dZ_205 hL (Or.inr rfl), ↓dZ_205 hL (nB_01 _), ↓dR_205_12 hL, dI_209 hL, dS_209 hL, ↓reduceIte, ↓kq_bi, ↓kq_let, ↓kq_rz0, ↓kq_rz1, ↓kq_rzB, ↓Option.bind_some, kq_dvn, kt_lt, kf_lt, kt_eq, kf_eq, decide_true, decide_false, eq_self, Bool.false_eq_true, Bool.true_eq_false, not_true_eq_false, not_false_eq_true, jU_eq, jU_ne, jU_U, jV_eq, jV_ne, jV_V, kn_lit, kn_add, kn_mul, kn_sdm, kn_sub, kn_div, kn_nsdm, kn_lt, kn_eq, kn_pred, kn_m1, kn_m1', kn_a31, kn_shl, kn_shr, kn_bit, nB_0, nB_1, nB_t, nB_f, Nat.zero_add, Nat.add_zero, Nat.reduceAdd, Nat.reduceMul, Nat.reduceSub, Nat.reducePow]
    · rw [hm, if_pos rfl]
      simp (disch := omega) only [hQ.1.1.1, jMR_at hQ.2.1, m_has, hm, m_less, em, F_Mod_claimsOf_b44, ↓dK_205 hL, ↓dG_205 hL, ↓dP_205 hL, ↓dZ_205 hL (x := nI 0) (Or.inl rfl), ↓dZ_205 hL (x := nI 1) (Or.inr rfl), ↓dZ_205 hL (Or.inl rfl), ↓dZ_205 hL (Or.inr rfl), ↓dZ_205 hL (nB_01 _), ↓dR_205_12 hL, dI_209 hL, dS_209 hL, ↓dR_205_35 hL, dI_691 hL, dS_691 hL, ↓reduceIte, ↓kq_bi, ↓kq_let, ↓kq_rz0, ↓kq_rz1, ↓kq_rzB, ↓Option.bind_some, kq_dvn, kt_lt, kf_lt, kt_eq, kf_eq, decide_true, decide_false, eq_self, Bool.false_eq_true, Bool.true_eq_false, not_true_eq_false, not_false_eq_true, jU_eq, jU_ne, jU_U, jV_eq, jV_ne, jV_V, kn_lit, kn_add, kn_mul, kn_sdm, kn_sub, kn_div, kn_nsdm, kn_lt, kn_eq, kn_pred, kn_m1, kn_m1', kn_a31, kn_shl, kn_shr, kn_bit, nB_0, nB_1, nB_t, nB_f, Nat.zero_add, Nat.add_zero, Nat.reduceAdd, Nat.reduceMul, Nat.reduceSub, Nat.reducePow]
  · simp (disch := omega) only [F_Mod_claimsOf_l5, F_Mod_claimsOf_c5, hQ.1.1.1, ↓dK_205 hL, ↓dG_205 hL, ↓dP_205 hL, ↓dZ_205 hL (x := nI 0) (Or.inl rfl), ↓dZ_205 hL (x := nI 1) (Or.inr rfl), ↓dZ_205 hL (Or.inl rfl), ↓dZ_205 hL (Or.inr rfl), ↓dZ_205 hL (nB_01 _), ↓dR_205_12 hL, dI_209 hL, dS_209 hL, ↓reduceIte, ↓kq_bi, ↓kq_let, ↓kq_rz0, ↓kq_rz1, ↓kq_rzB, ↓Option.bind_some, kq_dvn, kt_lt, kf_lt, kt_eq, kf_eq, decide_true, decide_false, eq_self, Bool.false_eq_true, Bool.true_eq_false, not_true_eq_false, not_false_eq_true, jU_eq, jU_ne, jU_U, jV_eq, jV_ne, jV_V, kn_lit, kn_add, kn_mul, kn_sdm, kn_sub, kn_div, kn_nsdm, kn_lt, kn_eq, kn_pred, kn_m1, kn_m1', kn_a31, kn_shl, kn_shr, kn_bit, nB_0, nB_1, nB_t, nB_f, Nat.zero_add, Nat.add_zero, Nat.reduceAdd, Nat.reduceMul, Nat.reduceSub, Nat.reducePow]
theorem m_areGates (hL : jLay t u l m b c h) (hQ : jQM I τ ω r) {v : Nat} (hv : v < 2 ^ τ 0 0) : F_Mod_areGates 205 (nI v) (jz_I h I) = some (nB true, jz_I h I) := by
  have ho := hQ.1.2.1
  have o0 : τ 0 0 ≤ 9 := ho.1
  have hp := kn_pow (k := τ 0 0) (by omega)
  have hp1 : 1 ≤ 2 ^ τ 0 0 := Nat.one_le_two_pow
  unfold F_Mod_areGates
  simp (disch := omega) only [hQ.1.1.1, Nat.one_mul, m_in1, ↓dK_205 hL, ↓dG_205 hL, ↓dP_205 hL, ↓dZ_205 hL (x := nI 0) (Or.inl rfl), ↓dZ_205 hL (x := nI 1) (Or.inr rfl), ↓dZ_205 hL (Or.inl rfl), ↓dZ_205 hL (Or.inr rfl), ↓dZ_205 hL (nB_01 _), ↓dR_205_12 hL, dI_209 hL, dS_209 hL, ↓reduceIte, ↓kq_bi, ↓kq_let, ↓kq_rz0, ↓kq_rz1, ↓kq_rzB, ↓Option.bind_some, kq_dvn, kt_lt, kf_lt, kt_eq, kf_eq, decide_true, decide_false, eq_self, Bool.false_eq_true, Bool.true_eq_false, not_true_eq_false, not_false_eq_true, jU_eq, jU_ne, jU_U, jV_eq, jV_ne, jV_V, kn_lit, kn_add, kn_mul, kn_sdm, kn_sub, kn_div, kn_nsdm, kn_lt, kn_eq, kn_pred, kn_m1, kn_m1', kn_a31, kn_shl, kn_shr, kn_bit, nB_0, nB_1, nB_t, nB_f, Nat.zero_add, Nat.add_zero, Nat.reduceAdd, Nat.reduceMul, Nat.reduceSub, Nat.reducePow]
theorem m_share (hL : jLay t u l m b c h) (hQ : jQM I τ ω r) {g v N : Nat} (hg : g < τ 0 0) (hv : v < 2 ^ τ 0 0) (hN : N ≤ 99) : ∃ J, F_Mod_share 205 (nI g) (nI v) (nI N) (jz_I h I) = some (nI (s_share τ r g v N), jz_I h J) ∧ jN I J := by
  have N0 := jN_0 hQ
  have hQ0 := jN_QM N0 hQ
  have ho := hQ.1.2.1
  have o0 : τ 0 0 ≤ 9 := ho.1
  have hv9 := s_2p ho hv
  have b6 := hQ.2.2.1.1 g (by omega)
  refine jE_i (fun P hP => ?_)
  unfold F_Mod_share
  simp (disch := omega) only [m_isGate hL hQ0.1.1 ho hg, m_areGates hL hQ0 hv, m_in1, m_bad0 hL N0.2.2.2, F_Mod_share_b19, F_Mod_share_b51, ↓dK_205 hL, ↓dG_205 hL, ↓dP_205 hL, ↓dZ_205 hL (x := nI 0) (Or.inl rfl), ↓dZ_205 hL (x := nI 1) (Or.inr rfl), ↓dZ_205 hL (Or.inl rfl), ↓dZ_205 hL (Or.inr rfl), ↓dZ_205 hL (nB_01 _), ↓reduceIte, ↓kq_bi, ↓kq_let, ↓kq_rz0, ↓kq_rz1, ↓kq_rzB, ↓Option.bind_some, kq_dvn, kt_lt, kf_lt, kt_eq, kf_eq, decide_true, decide_false, eq_self, Bool.false_eq_true, Bool.true_eq_false, not_true_eq_false, not_false_eq_true, jU_eq, jU_ne, jU_U, jV_eq, jV_ne, jV_V, kn_lit, kn_add, kn_mul, kn_sdm, kn_sub, kn_div, kn_nsdm, kn_lt, kn_eq, kn_pred, kn_m1, kn_m1', kn_a31, kn_shl, kn_shr, kn_bit, nB_0, nB_1, nB_t, nB_f, Nat.zero_add, Nat.add_zero, Nat.reduceAdd, Nat.reduceMul, Nat.reduceSub, Nat.reducePow]
  generalize jU I 205 (jV (I 205) 0 (nI 0)) = I' at N0 hQ0
  have fin : ∀ k, k ≤ 6 → k = s_dn (fun b => s_clm τ r v b (τ 0 0)) N 6 → jW (F_Mod_share_b90 205 (nI g) (nI v) (nI k) (jz_I h I')) P := fun k hk6 hk => by
    have go := hP I' N0
    unfold s_share at go
    rw [← hk] at go
    have em : (if k < r (108 + g) then k else r (108 + g)) = s_mn k (r (108 + g)) := rfl
    have hm := Nat.mod_two_eq_zero_or_one (v / 2 ^ g)
    unfold F_Mod_share_b90
    rcases hm with hm | hm
    · rw [hm, if_neg (by decide)] at go
      simp (disch := omega) only [m_has, hm, F_Mod_share_b116, ↓dK_205 hL, ↓dG_205 hL, ↓dP_205 hL, ↓dZ_205 hL (x := nI 0) (Or.inl rfl), ↓dZ_205 hL (x := nI 1) (Or.inr rfl), ↓dZ_205 hL (Or.inl rfl), ↓dZ_205 hL (Or.inr rfl), ↓dZ_205 hL (nB_01 _), ↓reduceIte, ↓kq_bi, ↓kq_let, ↓kq_rz0, ↓kq_rz1, ↓kq_rzB, ↓Option.bind_some, kq_dvn, kt_lt, kf_lt, kt_eq, kf_eq, decide_true, decide_false, eq_self, Bool.false_eq_true, Bool.true_eq_false, not_true_eq_false, not_false_eq_true, jU_eq, jU_ne, jU_U, jV_eq, jV_ne, jV_V, kn_lit, kn_add, kn_mul, kn_sdm, kn_sub, kn_div, kn_nsdm, kn_lt, kn_eq, kn_pred, kn_m1, kn_m1', kn_a31, kn_shl, kn_shr, kn_bit, nB_0, nB_1, nB_t, nB_f, Nat.zero_add, Nat.add_zero, Nat.reduceAdd, Nat.reduceMul, Nat.reduceSub, Nat.reducePow]
      exact jW_s go
    · rw [hm, if_pos rfl] at go
      simp (disch := omega) only [m_has, hm, jMR_at hQ0.2.1, m_less, em, F_Mod_share_b116, ↓dK_205 hL, ↓dG_205 hL, ↓dP_205 hL, ↓dZ_205 hL (x := nI 0) (Or.inl rfl), ↓dZ_205 hL (x := nI 1) (Or.inr rfl), ↓dZ_205 hL (Or.inl rfl), ↓dZ_205 hL (Or.inr rfl), ↓dZ_205 hL (nB_01 _), ↓dR_205_35 hL, dI_691 hL, dS_691 hL, ↓reduceIte, ↓kq_bi, ↓kq_let, ↓kq_rz0, ↓kq_rz1, ↓kq_rzB, ↓Option.bind_some, kq_dvn, kt_lt, kf_lt, kt_eq, kf_eq, decide_true, decide_false, eq_self, Bool.false_eq_true, Bool.true_eq_false, not_true_eq_false, not_false_eq_true, jU_eq, jU_ne, jU_U, jV_eq, jV_ne, jV_V, kn_lit, kn_add, kn_mul, kn_sdm, kn_sub, kn_div, kn_nsdm, kn_lt, kn_eq, kn_pred, kn_m1, kn_m1', kn_a31, kn_shl, kn_shr, kn_bit, nB_0, nB_1, nB_t, nB_f, Nat.zero_add, Nat.add_zero, Nat.reduceAdd, Nat.reduceMul, Nat.reduceSub, Nat.reducePow]
      exact jW_s go
  refine jW_for0 (f := fun fuel k (_ : Unit) => F_Mod_share_l64 fuel 205 (nI g) (nI v) (nI N) (nI k) (jz_I h I')) 6 (fun k _ => k = 0 ∨ s_clm τ r v k (τ 0 0) ≤ N) () (Or.inl rfl) (by omega) (fun n k _ hk hV ih => ?_) (fun n _ hV => ?_)
  · have hs := s_clm_le (v := v) (bd := k + 1) hQ.2.2.1 o0
    show jW (F_Mod_share_c64 (F_Mod_share_l64 n) 205 (nI g) (nI v) (nI N) (nI k) (jz_I h I')) P
    unfold F_Mod_share_c64
    by_cases hc : N < s_clm τ r v (k + 1) (τ 0 0)
    · simp (disch := omega) only [m_claimsOf hL hQ0 hv (show k + 1 ≤ 6 by omega), ↓dK_205 hL, ↓dG_205 hL, ↓dP_205 hL, ↓dZ_205 hL (x := nI 0) (Or.inl rfl), ↓dZ_205 hL (x := nI 1) (Or.inr rfl), ↓dZ_205 hL (Or.inl rfl), ↓dZ_205 hL (Or.inr rfl), ↓dZ_205 hL (nB_01 _), ↓reduceIte, ↓kq_bi, ↓kq_let, ↓kq_rz0, ↓kq_rz1, ↓kq_rzB, ↓Option.bind_some, kq_dvn, kt_lt, kf_lt, kt_eq, kf_eq, decide_true, decide_false, eq_self, Bool.false_eq_true, Bool.true_eq_false, not_true_eq_false, not_false_eq_true, jU_eq, jU_ne, jU_U, jV_eq, jV_ne, jV_V, kn_lit, kn_add, kn_mul, kn_sdm, kn_sub, kn_div, kn_nsdm, kn_lt, kn_eq, kn_pred, kn_m1, kn_m1', kn_a31, kn_shl, kn_shr, kn_bit, nB_0, nB_1, nB_t, nB_f, Nat.zero_add, Nat.add_zero, Nat.reduceAdd, Nat.reduceMul, Nat.reduceSub, Nat.reducePow]
      exact fin k (by omega) (s_dn_eq hV 6 (by omega) (fun j h1 h2 => Nat.lt_of_lt_of_le hc (s_clm_mono (by omega)))).symm
    · simp (disch := omega) only [m_claimsOf hL hQ0 hv (show k + 1 ≤ 6 by omega), ↓dK_205 hL, ↓dG_205 hL, ↓dP_205 hL, ↓dZ_205 hL (x := nI 0) (Or.inl rfl), ↓dZ_205 hL (x := nI 1) (Or.inr rfl), ↓dZ_205 hL (Or.inl rfl), ↓dZ_205 hL (Or.inr rfl), ↓dZ_205 hL (nB_01 _), ↓reduceIte, ↓kq_bi, ↓kq_let, ↓kq_rz0, ↓kq_rz1, ↓kq_rzB, ↓Option.bind_some, kq_dvn, kt_lt, kf_lt, kt_eq, kf_eq, decide_true, decide_false, eq_self, Bool.false_eq_true, Bool.true_eq_false, not_true_eq_false, not_false_eq_true, jU_eq, jU_ne, jU_U, jV_eq, jV_ne, jV_V, kn_lit, kn_add, kn_mul, kn_sdm, kn_sub, kn_div, kn_nsdm, kn_lt, kn_eq, kn_pred, kn_m1, kn_m1', kn_a31, kn_shl, kn_shr, kn_bit, nB_0, nB_1, nB_t, nB_f, Nat.zero_add, Nat.add_zero, Nat.reduceAdd, Nat.reduceMul, Nat.reduceSub, Nat.reducePow]
      exact ih () (Or.inr (by omega))
  · show jW (F_Mod_share_c64 (F_Mod_share_l64 n) 205 (nI g) (nI v) (nI N) (nI 6) (jz_I h I')) P
    unfold F_Mod_share_c64
    simp (disch := omega) only [↓dK_205 hL, ↓dG_205 hL, ↓dP_205 hL, ↓dZ_205 hL (x := nI 0) (Or.inl rfl), ↓dZ_205 hL (x := nI 1) (Or.inr rfl), ↓dZ_205 hL (Or.inl rfl), ↓dZ_205 hL (Or.inr rfl), ↓dZ_205 hL (nB_01 _), ↓reduceIte, ↓kq_bi, ↓kq_let, ↓kq_rz0, ↓kq_rz1, ↓kq_rzB, ↓Option.bind_some, kq_dvn, kt_lt, kf_lt, kt_eq, kf_eq, decide_true, decide_false, eq_self, Bool.false_eq_true, Bool.true_eq_false, not_true_eq_false, not_false_eq_true, jU_eq, jU_ne, jU_U, jV_eq, jV_ne, jV_V, kn_lit, kn_add, kn_mul, kn_sdm, kn_sub, kn_div, kn_nsdm, kn_lt, kn_eq, kn_pred, kn_m1, kn_m1', kn_a31, kn_shl, kn_shr, kn_bit, nB_0, nB_1, nB_t, nB_f, Nat.zero_add, Nat.add_zero, Nat.reduceAdd, Nat.reduceMul, Nat.reduceSub, Nat.reducePow]
    exact fin 6 (by omega) (s_dn_eq hV 6 (by omega) (fun j h1 h2 => by omega)).symm
theorem s_crd_le (ho : jTOK τ) {x : Nat} : s_crd τ r x ≤ 9 := Nat.le_trans (s_cnt_le _ _) ho.1
theorem s_fl_le {f : Nat → Nat} {c : Nat} (hf : ∀ k, f k ≤ c) : ∀ n, (s_fl f n).2 ≤ c
  | 0 => Nat.zero_le c
  | k + 1 => by
    show (if (s_fl f k).2 < f k then (some k, f k) else s_fl f k).2 ≤ c
    split
    · exact hf k
    · exact s_fl_le hf k
theorem s_fl_lt {f : Nat → Nat} : ∀ n b, (s_fl f n).1 = some b → b < n
  | 0, b, h => by cases h
  | k + 1, b, h => by
    have h : (if (s_fl f k).2 < f k then (some k, f k) else s_fl f k).1 = some b := h
    split at h
    · cases h; omega
    · have := s_fl_lt k b h; omega
theorem c_fires (hL : jLay t u l m b c h) (hE : jCE I t l τ ω) (hS : jCS I 85 τ false r) (hr : jROK τ r) {x : Nat} (hx : x < τ 0 0) : ∃ J, F_Scene_firesThatStandAt 85 (nI x) (jz_I h I) = some (nI (s_crd τ r x), jz_I h J) ∧ jCS J 85 τ false r ∧ jSc l 85 I J := by
  have ht := jLay_t hL
  have hσ : (85 : Nat) = 85 ∨ (85 : Nat) = 90 := Or.inl rfl
  have ho := hE.2.1
  have o0 : τ 0 0 ≤ 9 := ho.1
  refine jE_i (fun P hP => ?_)
  unfold F_Scene_firesThatStandAt
  refine jW_for0 (f := fun fuel k (J : Nat → Nat → Int32) => F_Scene_firesThatStandAt_l4 fuel 85 (nI x) (nI (s_cnt (fun g => decide (0 < r (108 + g)) && decide (s_st τ r g = x)) k)) (nI k) (jz_I h J)) (τ 0 0) (fun k J => jCS J 85 τ false r ∧ jSc l 85 I J) I ⟨hS, jSc_refl⟩ (by omega) (fun n k J hk hJ ih => ?_) (fun n J hJ => ?_)
  · have hE' := jCE_Sc hL hσ hJ.2 hE
    have b6 := hr.1 k (by omega)
    have es : s_cnt (fun g => decide (0 < r (108 + g)) && decide (s_st τ r g = x)) (k + 1) = s_cnt (fun g => decide (0 < r (108 + g)) && decide (s_st τ r g = x)) k + (if (decide (0 < r (108 + k)) && decide (s_st τ r k = x)) = true then 1 else 0) := rfl
    show jW (F_Scene_firesThatStandAt_c4 (F_Scene_firesThatStandAt_l4 n) 85 (nI x) (nI (s_cnt (fun g => decide (0 < r (108 + g)) && decide (s_st τ r g = x)) k)) (nI k) (jz_I h J)) P
    unfold F_Scene_firesThatStandAt_c4
    by_cases h0 : 0 < r (108 + k)
    · simp (disch := omega) only [↓dR_85_1 hL, cT_f0 hE'.1, c_burning hL hσ hJ.1.1, ↓dR_64_2 hL, ↓dK_85 hL, ↓dG_85 hL, ↓dP_85 hL, ↓dZ_85 hL (x := nI 0) (Or.inl rfl), ↓dZ_85 hL (x := nI 1) (Or.inr rfl), ↓dZ_85 hL (Or.inl rfl), ↓dZ_85 hL (Or.inr rfl), ↓dZ_85 hL (nB_01 _), ↓dK_T hL ht, ↓dG_T hL ht, ↓dP_T hL ht, ↓reduceIte, ↓kq_bi, ↓kq_let, ↓kq_rz0, ↓kq_rz1, ↓kq_rzB, ↓Option.bind_some, kq_dvn, kt_lt, kf_lt, kt_eq, kf_eq, decide_true, decide_false, eq_self, Bool.false_eq_true, Bool.true_eq_false, not_true_eq_false, not_false_eq_true, jU_eq, jU_ne, jU_U, jV_eq, jV_ne, jV_V, kn_lit, kn_add, kn_mul, kn_sdm, kn_sub, kn_div, kn_nsdm, kn_lt, kn_eq, kn_pred, kn_m1, kn_m1', kn_a31, kn_shl, kn_shr, kn_bit, nB_0, nB_1, nB_t, nB_f, Nat.zero_add, Nat.add_zero, Nat.reduceAdd, Nat.reduceMul, Nat.reduceSub, Nat.reducePow]
      refine jW_bi (c_standsAt hL hE' hσ hJ.1 hr hk) (fun J2 hJ2 => ?_)
      have ih' := ih J2 ⟨hJ2.1, jSc_trans hJ.2 hJ2.2⟩
      have hst : s_st τ r k < 9 := Nat.lt_of_lt_of_le (s_st_lt ho r (g := k) (k := τ 1 k) (by omega)) o0
      rw [es, decide_eq_true h0, Bool.true_and] at ih'
      by_cases hc : s_st τ r k = x
      · rw [decide_eq_true hc, if_pos rfl] at ih'
        simp (disch := omega) only [hc, F_Scene_firesThatStandAt_b35, ↓reduceIte, ↓kq_bi, ↓kq_let, ↓kq_rz0, ↓kq_rz1, ↓kq_rzB, ↓Option.bind_some, kq_dvn, kt_lt, kf_lt, kt_eq, kf_eq, decide_true, decide_false, eq_self, Bool.false_eq_true, Bool.true_eq_false, not_true_eq_false, not_false_eq_true, jU_eq, jU_ne, jU_U, jV_eq, jV_ne, jV_V, kn_lit, kn_add, kn_mul, kn_sdm, kn_sub, kn_div, kn_nsdm, kn_lt, kn_eq, kn_pred, kn_m1, kn_m1', kn_a31, kn_shl, kn_shr, kn_bit, nB_0, nB_1, nB_t, nB_f, Nat.zero_add, Nat.add_zero, Nat.reduceAdd, Nat.reduceMul, Nat.reduceSub, Nat.reducePow]
        exact ih'
      · rw [decide_eq_false hc, if_neg (by decide)] at ih'
        simp (disch := omega) only [F_Scene_firesThatStandAt_b35, ↓reduceIte, ↓kq_bi, ↓kq_let, ↓kq_rz0, ↓kq_rz1, ↓kq_rzB, ↓Option.bind_some, kq_dvn, kt_lt, kf_lt, kt_eq, kf_eq, decide_true, decide_false, eq_self, Bool.false_eq_true, Bool.true_eq_false, not_true_eq_false, not_false_eq_true, jU_eq, jU_ne, jU_U, jV_eq, jV_ne, jV_V, kn_lit, kn_add, kn_mul, kn_sdm, kn_sub, kn_div, kn_nsdm, kn_lt, kn_eq, kn_pred, kn_m1, kn_m1', kn_a31, kn_shl, kn_shr, kn_bit, nB_0, nB_1, nB_t, nB_f, Nat.zero_add, Nat.add_zero, Nat.reduceAdd, Nat.reduceMul, Nat.reduceSub, Nat.reducePow]
        exact ih'
    · have ih' := ih J hJ
      rw [es, decide_eq_false h0, Bool.false_and, if_neg (by decide)] at ih'
      simp (disch := omega) only [↓dR_85_1 hL, cT_f0 hE'.1, c_burning hL hσ hJ.1.1, F_Scene_firesThatStandAt_b35, ↓dR_64_2 hL, ↓dK_85 hL, ↓dG_85 hL, ↓dP_85 hL, ↓dZ_85 hL (x := nI 0) (Or.inl rfl), ↓dZ_85 hL (x := nI 1) (Or.inr rfl), ↓dZ_85 hL (Or.inl rfl), ↓dZ_85 hL (Or.inr rfl), ↓dZ_85 hL (nB_01 _), ↓dK_T hL ht, ↓dG_T hL ht, ↓dP_T hL ht, ↓reduceIte, ↓kq_bi, ↓kq_let, ↓kq_rz0, ↓kq_rz1, ↓kq_rzB, ↓Option.bind_some, kq_dvn, kt_lt, kf_lt, kt_eq, kf_eq, decide_true, decide_false, eq_self, Bool.false_eq_true, Bool.true_eq_false, not_true_eq_false, not_false_eq_true, jU_eq, jU_ne, jU_U, jV_eq, jV_ne, jV_V, kn_lit, kn_add, kn_mul, kn_sdm, kn_sub, kn_div, kn_nsdm, kn_lt, kn_eq, kn_pred, kn_m1, kn_m1', kn_a31, kn_shl, kn_shr, kn_bit, nB_0, nB_1, nB_t, nB_f, Nat.zero_add, Nat.add_zero, Nat.reduceAdd, Nat.reduceMul, Nat.reduceSub, Nat.reducePow]
      exact ih'
  · have hE' := jCE_Sc hL hσ hJ.2 hE
    show jW (F_Scene_firesThatStandAt_c4 (F_Scene_firesThatStandAt_l4 n) 85 (nI x) (nI (s_crd τ r x)) (nI (τ 0 0)) (jz_I h J)) P
    unfold F_Scene_firesThatStandAt_c4
    simp (disch := omega) only [↓dR_85_1 hL, cT_f0 hE'.1, ↓dR_64_2 hL, ↓dK_85 hL, ↓dG_85 hL, ↓dP_85 hL, ↓dZ_85 hL (x := nI 0) (Or.inl rfl), ↓dZ_85 hL (x := nI 1) (Or.inr rfl), ↓dZ_85 hL (Or.inl rfl), ↓dZ_85 hL (Or.inr rfl), ↓dZ_85 hL (nB_01 _), ↓dK_T hL ht, ↓dG_T hL ht, ↓dP_T hL ht, ↓reduceIte, ↓kq_bi, ↓kq_let, ↓kq_rz0, ↓kq_rz1, ↓kq_rzB, ↓Option.bind_some, kq_dvn, kt_lt, kf_lt, kt_eq, kf_eq, decide_true, decide_false, eq_self, Bool.false_eq_true, Bool.true_eq_false, not_true_eq_false, not_false_eq_true, jU_eq, jU_ne, jU_U, jV_eq, jV_ne, jV_V, kn_lit, kn_add, kn_mul, kn_sdm, kn_sub, kn_div, kn_nsdm, kn_lt, kn_eq, kn_pred, kn_m1, kn_m1', kn_a31, kn_shl, kn_shr, kn_bit, nB_0, nB_1, nB_t, nB_f, Nat.zero_add, Nat.add_zero, Nat.reduceAdd, Nat.reduceMul, Nat.reduceSub, Nat.reducePow]
    exact jW_s (hP J hJ)
theorem c_crowd (hL : jLay t u l m b c h) (hQ : jQC I t l τ ω r) (w : Bool) : ∃ J, F_SG_crowd 64 (nB w) (jz_I h I) = some (jo_i (nO (s_crowd τ r w), jz_I h J)) ∧ jCS J 85 τ false r ∧ jSc l 85 I J := by
  have ht := jLay_t hL
  have ho := hQ.1.2.1
  have o0 : τ 0 0 ≤ 9 := ho.1
  refine jE_o (fun P hP => ?_)
  have key : jW (F_SG_crowd_b15 64 (nB w) 64 (nI 1) (jz_I h I)) P := by
    unfold F_SG_crowd_b15
    simp (disch := omega) only [c_need1, kq_th, ↓dK_64 hL, ↓dG_64 hL, ↓dP_64 hL, ↓reduceIte, ↓kq_bi, ↓kq_let, ↓kq_rz0, ↓kq_rz1, ↓kq_rzB, ↓Option.bind_some, kq_dvn, kt_lt, kf_lt, kt_eq, kf_eq, decide_true, decide_false, eq_self, Bool.false_eq_true, Bool.true_eq_false, not_true_eq_false, not_false_eq_true, jU_eq, jU_ne, jU_U, jV_eq, jV_ne, jV_V, kn_lit, kn_add, kn_mul, kn_sdm, kn_sub, kn_div, kn_nsdm, kn_lt, kn_eq, kn_pred, kn_m1, kn_m1', kn_a31, kn_shl, kn_shr, kn_bit, nB_0, nB_1, nB_t, nB_f, Nat.zero_add, Nat.add_zero, Nat.reduceAdd, Nat.reduceMul, Nat.reduceSub, Nat.reducePow]
    refine jW_for0 (f := fun fuel k (J : Nat → Nat → Int32) => F_SG_crowd_l25 fuel 64 (nB w) (nO (s_fl (s_crd τ r) k).1) (nI (s_fl (s_crd τ r) k).2) (nI k) (jz_I h J)) (τ 0 0) (fun k J => jCS J 85 τ false r ∧ jSc l 85 I J) I ⟨hQ.2.1, jSc_refl⟩ (by omega) (fun n k J hk hV ih => ?_) (fun n J hV => ?_)
    · have hE' := jCE_Sc hL (Or.inl rfl) hV.2 hQ.1
      show jW (F_SG_crowd_c25 (F_SG_crowd_l25 n) 64 (nB w) (nO (s_fl (s_crd τ r) k).1) (nI (s_fl (s_crd τ r) k).2) (nI k) (jz_I h J)) P
      unfold F_SG_crowd_c25
      simp (disch := omega) only [↓dR_85_1 hL, cT_f0 hE'.1, ↓dK_64 hL, ↓dG_64 hL, ↓dP_64 hL, ↓dR_64_2 hL, ↓dK_85 hL, ↓dG_85 hL, ↓dP_85 hL, ↓dZ_85 hL (x := nI 0) (Or.inl rfl), ↓dZ_85 hL (x := nI 1) (Or.inr rfl), ↓dZ_85 hL (Or.inl rfl), ↓dZ_85 hL (Or.inr rfl), ↓dZ_85 hL (nB_01 _), ↓dK_T hL ht, ↓dG_T hL ht, ↓dP_T hL ht, ↓reduceIte, ↓kq_bi, ↓kq_let, ↓kq_rz0, ↓kq_rz1, ↓kq_rzB, ↓Option.bind_some, kq_dvn, kt_lt, kf_lt, kt_eq, kf_eq, decide_true, decide_false, eq_self, Bool.false_eq_true, Bool.true_eq_false, not_true_eq_false, not_false_eq_true, jU_eq, jU_ne, jU_U, jV_eq, jV_ne, jV_V, kn_lit, kn_add, kn_mul, kn_sdm, kn_sub, kn_div, kn_nsdm, kn_lt, kn_eq, kn_pred, kn_m1, kn_m1', kn_a31, kn_shl, kn_shr, kn_bit, nB_0, nB_1, nB_t, nB_f, Nat.zero_add, Nat.add_zero, Nat.reduceAdd, Nat.reduceMul, Nat.reduceSub, Nat.reducePow]
      refine jW_bi (c_fires hL hE' hV.1 hQ.2.2.1 hk) (fun J2 hJ2 => ?_)
      have ih' := ih J2 ⟨hJ2.1, jSc_trans hV.2 hJ2.2⟩
      have b1 := s_crd_le (r := r) (x := k) ho
      have b2 := s_fl_le (f := s_crd τ r) (fun _ => s_crd_le ho) k
      rw [show s_fl (s_crd τ r) (k + 1) = (if (s_fl (s_crd τ r) k).2 < s_crd τ r k then (some k, s_crd τ r k) else s_fl (s_crd τ r) k) from rfl] at ih'
      by_cases hc : (s_fl (s_crd τ r) k).2 < s_crd τ r k
      · rw [if_pos hc] at ih'
        simp (disch := omega) only [F_SG_crowd_b63, ↓reduceIte, ↓kq_bi, ↓kq_let, ↓kq_rz0, ↓kq_rz1, ↓kq_rzB, ↓Option.bind_some, kq_dvn, kt_lt, kf_lt, kt_eq, kf_eq, decide_true, decide_false, eq_self, Bool.false_eq_true, Bool.true_eq_false, not_true_eq_false, not_false_eq_true, jU_eq, jU_ne, jU_U, jV_eq, jV_ne, jV_V, kn_lit, kn_add, kn_mul, kn_sdm, kn_sub, kn_div, kn_nsdm, kn_lt, kn_eq, kn_pred, kn_m1, kn_m1', kn_a31, kn_shl, kn_shr, kn_bit, nB_0, nB_1, nB_t, nB_f, Nat.zero_add, Nat.add_zero, Nat.reduceAdd, Nat.reduceMul, Nat.reduceSub, Nat.reducePow]
        exact ih'
      · rw [if_neg hc] at ih'
        simp (disch := omega) only [F_SG_crowd_b63, ↓reduceIte, ↓kq_bi, ↓kq_let, ↓kq_rz0, ↓kq_rz1, ↓kq_rzB, ↓Option.bind_some, kq_dvn, kt_lt, kf_lt, kt_eq, kf_eq, decide_true, decide_false, eq_self, Bool.false_eq_true, Bool.true_eq_false, not_true_eq_false, not_false_eq_true, jU_eq, jU_ne, jU_U, jV_eq, jV_ne, jV_V, kn_lit, kn_add, kn_mul, kn_sdm, kn_sub, kn_div, kn_nsdm, kn_lt, kn_eq, kn_pred, kn_m1, kn_m1', kn_a31, kn_shl, kn_shr, kn_bit, nB_0, nB_1, nB_t, nB_f, Nat.zero_add, Nat.add_zero, Nat.reduceAdd, Nat.reduceMul, Nat.reduceSub, Nat.reducePow]
        exact ih'
    · have hE' := jCE_Sc hL (Or.inl rfl) hV.2 hQ.1
      have go := hP J hV
      have b2 := s_fl_lt (f := s_crd τ r) (τ 0 0)
      unfold s_crowd at go
      show jW (F_SG_crowd_c25 (F_SG_crowd_l25 n) 64 (nB w) (nO (s_fl (s_crd τ r) (τ 0 0)).1) (nI (s_fl (s_crd τ r) (τ 0 0)).2) (nI (τ 0 0)) (jz_I h J)) P
      unfold F_SG_crowd_c25
      generalize s_fl (s_crd τ r) (τ 0 0) = y at go b2 ⊢
      obtain ⟨y1, y2⟩ := y
      cases w
      · rw [if_neg (by decide)] at go
        simp (disch := omega) only [↓dR_85_1 hL, cT_f0 hE'.1, F_SG_crowd_b78, F_SG_crowd_b83, ↓dK_64 hL, ↓dG_64 hL, ↓dP_64 hL, ↓dR_64_2 hL, ↓dK_85 hL, ↓dG_85 hL, ↓dP_85 hL, ↓dZ_85 hL (x := nI 0) (Or.inl rfl), ↓dZ_85 hL (x := nI 1) (Or.inr rfl), ↓dZ_85 hL (Or.inl rfl), ↓dZ_85 hL (Or.inr rfl), ↓dZ_85 hL (nB_01 _), ↓dK_T hL ht, ↓dG_T hL ht, ↓dP_T hL ht, ↓reduceIte, ↓kq_bi, ↓kq_let, ↓kq_rz0, ↓kq_rz1, ↓kq_rzB, ↓Option.bind_some, kq_dvn, kt_lt, kf_lt, kt_eq, kf_eq, decide_true, decide_false, eq_self, Bool.false_eq_true, Bool.true_eq_false, not_true_eq_false, not_false_eq_true, jU_eq, jU_ne, jU_U, jV_eq, jV_ne, jV_V, kn_lit, kn_add, kn_mul, kn_sdm, kn_sub, kn_div, kn_nsdm, kn_lt, kn_eq, kn_pred, kn_m1, kn_m1', kn_a31, kn_shl, kn_shr, kn_bit, nB_0, nB_1, nB_t, nB_f, Nat.zero_add, Nat.add_zero, Nat.reduceAdd, Nat.reduceMul, Nat.reduceSub, Nat.reducePow]
        exact jW_s go
      · rw [if_pos rfl] at go
        cases y1 with
        | none =>
          simp only [nO, Option.elim_none, Option.map_none] at go ⊢
          simp (disch := omega) only [↓dR_85_1 hL, cT_f0 hE'.1, F_SG_crowd_b78, F_SG_crowd_b83, ↓dK_64 hL, ↓dG_64 hL, ↓dP_64 hL, ↓dR_64_2 hL, ↓dK_85 hL, ↓dG_85 hL, ↓dP_85 hL, ↓dZ_85 hL (x := nI 0) (Or.inl rfl), ↓dZ_85 hL (x := nI 1) (Or.inr rfl), ↓dZ_85 hL (Or.inl rfl), ↓dZ_85 hL (Or.inr rfl), ↓dZ_85 hL (nB_01 _), ↓dK_T hL ht, ↓dG_T hL ht, ↓dP_T hL ht, ↓reduceIte, ↓kq_bi, ↓kq_let, ↓kq_rz0, ↓kq_rz1, ↓kq_rzB, ↓Option.bind_some, kq_dvn, kt_lt, kf_lt, kt_eq, kf_eq, decide_true, decide_false, eq_self, Bool.false_eq_true, Bool.true_eq_false, not_true_eq_false, not_false_eq_true, jU_eq, jU_ne, jU_U, jV_eq, jV_ne, jV_V, kn_lit, kn_add, kn_mul, kn_sdm, kn_sub, kn_div, kn_nsdm, kn_lt, kn_eq, kn_pred, kn_m1, kn_m1', kn_a31, kn_shl, kn_shr, kn_bit, nB_0, nB_1, nB_t, nB_f, Nat.zero_add, Nat.add_zero, Nat.reduceAdd, Nat.reduceMul, Nat.reduceSub, Nat.reducePow]
          exact jW_s go
        | some z =>
          have hz := b2 z rfl
          simp only [nO, Option.elim_some, Option.map_some] at go ⊢
          simp (disch := omega) only [↓dR_85_1 hL, cT_f0 hE'.1, F_SG_crowd_b78, F_SG_crowd_b83, ↓dK_64 hL, ↓dG_64 hL, ↓dP_64 hL, ↓dR_64_2 hL, ↓dK_85 hL, ↓dG_85 hL, ↓dP_85 hL, ↓dZ_85 hL (x := nI 0) (Or.inl rfl), ↓dZ_85 hL (x := nI 1) (Or.inr rfl), ↓dZ_85 hL (Or.inl rfl), ↓dZ_85 hL (Or.inr rfl), ↓dZ_85 hL (nB_01 _), ↓dK_T hL ht, ↓dG_T hL ht, ↓dP_T hL ht, ↓reduceIte, ↓kq_bi, ↓kq_let, ↓kq_rz0, ↓kq_rz1, ↓kq_rzB, ↓Option.bind_some, kq_dvn, kt_lt, kf_lt, kt_eq, kf_eq, decide_true, decide_false, eq_self, Bool.false_eq_true, Bool.true_eq_false, not_true_eq_false, not_false_eq_true, jU_eq, jU_ne, jU_U, jV_eq, jV_ne, jV_V, kn_lit, kn_add, kn_mul, kn_sdm, kn_sub, kn_div, kn_nsdm, kn_lt, kn_eq, kn_pred, kn_m1, kn_m1', kn_a31, kn_shl, kn_shr, kn_bit, nB_0, nB_1, nB_t, nB_f, Nat.zero_add, Nat.add_zero, Nat.reduceAdd, Nat.reduceMul, Nat.reduceSub, Nat.reducePow]
          exact jW_s go
  unfold F_SG_crowd
  cases w
  · simp (disch := omega) only [show nB false = nI 0 from rfl, F_SG_crowd_b10, ↓reduceIte, ↓kq_bi, ↓kq_let, ↓kq_rz0, ↓kq_rz1, ↓kq_rzB, ↓Option.bind_some, kq_dvn, kt_lt, kf_lt, kt_eq, kf_eq, decide_true, decide_false, eq_self, Bool.false_eq_true, Bool.true_eq_false, not_true_eq_false, not_false_eq_true, jU_eq, jU_ne, jU_U, jV_eq, jV_ne, jV_V, kn_lit, kn_add, kn_mul, kn_sdm, kn_sub, kn_div, kn_nsdm, kn_lt, kn_eq, kn_pred, kn_m1, kn_m1', kn_a31, kn_shl, kn_shr, kn_bit, nB_0, nB_1, nB_t, nB_f, Nat.zero_add, Nat.add_zero, Nat.reduceAdd, Nat.reduceMul, Nat.reduceSub, Nat.reducePow]
    exact key
  · simp (disch := omega) only [show nB true = nI 1 from rfl, F_SG_crowd_b10, ↓reduceIte, ↓kq_bi, ↓kq_let, ↓kq_rz0, ↓kq_rz1, ↓kq_rzB, ↓Option.bind_some, kq_dvn, kt_lt, kf_lt, kt_eq, kf_eq, decide_true, decide_false, eq_self, Bool.false_eq_true, Bool.true_eq_false, not_true_eq_false, not_false_eq_true, jU_eq, jU_ne, jU_U, jV_eq, jV_ne, jV_V, kn_lit, kn_add, kn_mul, kn_sdm, kn_sub, kn_div, kn_nsdm, kn_lt, kn_eq, kn_pred, kn_m1, kn_m1', kn_a31, kn_shl, kn_shr, kn_bit, nB_0, nB_1, nB_t, nB_f, Nat.zero_add, Nat.add_zero, Nat.reduceAdd, Nat.reduceMul, Nat.reduceSub, Nat.reducePow]
    exact key
theorem m_crowd (hL : jLay t u l m b c h) (hQ : jQM I τ ω r) (w : Bool) : ∃ J, F_Mod_crowd 205 (nB w) (jz_I h I) = some (nO (s_crowd τ r w), jz_I h J) ∧ jN I J := by
  have N0 := jN_0 hQ
  have hQ0 := jN_QM N0 hQ
  have ho := hQ.1.2.1
  have hr := hQ.2.2.1
  have o0 : τ 0 0 ≤ 9 := ho.1
  refine ⟨_, ?_, N0⟩
  have key : F_Mod_crowd_b20 205 (nB w) 205 (nI 0) (jz_I h (jU I 205 (jV (I 205) 0 (nI 0)))) = some (nO (s_crowd τ r w), jz_I h (jU I 205 (jV (I 205) 0 (nI 0)))) := by
    unfold F_Mod_crowd_b20
    simp (disch := omega) only [m_bad0 hL N0.2.2.2, ↓dK_205 hL, ↓dG_205 hL, ↓dP_205 hL, ↓dZ_205 hL (x := nI 0) (Or.inl rfl), ↓dZ_205 hL (x := nI 1) (Or.inr rfl), ↓dZ_205 hL (Or.inl rfl), ↓dZ_205 hL (Or.inr rfl), ↓dZ_205 hL (nB_01 _), ↓reduceIte, ↓kq_bi, ↓kq_let, ↓kq_rz0, ↓kq_rz1, ↓kq_rzB, ↓Option.bind_some, kq_dvn, kt_lt, kf_lt, kt_eq, kf_eq, decide_true, decide_false, eq_self, Bool.false_eq_true, Bool.true_eq_false, not_true_eq_false, not_false_eq_true, jU_eq, jU_ne, jU_U, jV_eq, jV_ne, jV_V, kn_lit, kn_add, kn_mul, kn_sdm, kn_sub, kn_div, kn_nsdm, kn_lt, kn_eq, kn_pred, kn_m1, kn_m1', kn_a31, kn_shl, kn_shr, kn_bit, nB_0, nB_1, nB_t, nB_f, Nat.zero_add, Nat.add_zero, Nat.reduceAdd, Nat.reduceMul, Nat.reduceSub, Nat.reducePow]
    generalize jU I 205 (jV (I 205) 0 (nI 0)) = I' at N0 hQ0
    refine jz_forI (fun fuel k (s : Option Nat × Nat) => F_Mod_crowd_l37 fuel 205 (nB w) (nO s.1) (nI s.2) (nI k) (jz_I h I')) (τ 0 0) (fun k => s_fl (s_crd τ r) k) _ (s0 := (none, 0)) rfl (fun n x hx => ?_) (fun n => ?_) jF (by show _ < 1000; omega)
    · have b1 := s_crd_le (r := r) (x := x) ho
      have b2 := s_fl_le (f := s_crd τ r) (fun _ => s_crd_le ho) x
      simp (disch := omega) only [F_Mod_crowd_l37, F_Mod_crowd_c37, hQ0.1.1.1, ↓dK_205 hL, ↓dG_205 hL, ↓dP_205 hL, ↓dZ_205 hL (x := nI 0) (Or.inl rfl), ↓dZ_205 hL (x := nI 1) (Or.inr rfl), ↓dZ_205 hL (Or.inl rfl), ↓dZ_205 hL (Or.inr rfl), ↓dZ_205 hL (nB_01 _), ↓dR_205_12 hL, dI_209 hL, dS_209 hL, ↓reduceIte, ↓kq_bi, ↓kq_let, ↓kq_rz0, ↓kq_rz1, ↓kq_rzB, ↓Option.bind_some, kq_dvn, kt_lt, kf_lt, kt_eq, kf_eq, decide_true, decide_false, eq_self, Bool.false_eq_true, Bool.true_eq_false, not_true_eq_false, not_false_eq_true, jU_eq, jU_ne, jU_U, jV_eq, jV_ne, jV_V, kn_lit, kn_add, kn_mul, kn_sdm, kn_sub, kn_div, kn_nsdm, kn_lt, kn_eq, kn_pred, kn_m1, kn_m1', kn_a31, kn_shl, kn_shr, kn_bit, nB_0, nB_1, nB_t, nB_f, Nat.zero_add, Nat.add_zero, Nat.reduceAdd, Nat.reduceMul, Nat.reduceSub, Nat.reducePow]
      refine jz_for (fun fuel g s => F_Mod_crowd_l54 (F_Mod_crowd_l37 n) fuel 205 (nB w) (nO (s_fl (s_crd τ r) x).1) (nI (s_fl (s_crd τ r) x).2) (nI x) (nI s) (nI g) (jz_I h I')) (τ 0 0) (fun g => s_cnt (fun g => decide (0 < r (108 + g)) && decide (s_st τ r g = x)) g) _ (fun n2 g hg => ?_) (fun n2 => ?_) jF (by show _ < 1000; omega)
      · have b6 := hr.1 g (by omega)
        have hst : s_st τ r g < 9 := Nat.lt_of_lt_of_le (s_st_lt ho r (g := g) (k := τ 1 g) (by omega)) o0
        have hcl := s_cnt_le (fun g => decide (0 < r (108 + g)) && decide (s_st τ r g = x)) g
        show F_Mod_crowd_c54 (F_Mod_crowd_l37 n) (F_Mod_crowd_l54 (F_Mod_crowd_l37 n) n2) 205 (nB w) (nO (s_fl (s_crd τ r) x).1) (nI (s_fl (s_crd τ r) x).2) (nI x) (nI (s_cnt (fun g => decide (0 < r (108 + g)) && decide (s_st τ r g = x)) g)) (nI g) (jz_I h I') = F_Mod_crowd_l54 (F_Mod_crowd_l37 n) n2 205 (nB w) (nO (s_fl (s_crd τ r) x).1) (nI (s_fl (s_crd τ r) x).2) (nI x) (nI (s_cnt (fun g => decide (0 < r (108 + g)) && decide (s_st τ r g = x)) g + (if (decide (0 < r (108 + g)) && decide (s_st τ r g = x)) = true then 1 else 0))) (nI (g + 1)) (jz_I h I')
        unfold F_Mod_crowd_c54
        by_cases h0 : 0 < r (108 + g)
        · rw [decide_eq_true h0, Bool.true_and]
          by_cases hc : s_st τ r g = x
          · rw [decide_eq_true hc, if_pos rfl]
            simp (disch := omega) only [hQ0.1.1.1, jMR_at hQ0.2.1, m_standsOf hL hQ0.1.1 ho (Or.inl rfl) hQ0.2.1 hr hg, hc, F_Mod_crowd_b100, F_Mod_crowd_b99, ↓dK_205 hL, ↓dG_205 hL, ↓dP_205 hL, ↓dZ_205 hL (x := nI 0) (Or.inl rfl), ↓dZ_205 hL (x := nI 1) (Or.inr rfl), ↓dZ_205 hL (Or.inl rfl), ↓dZ_205 hL (Or.inr rfl), ↓dZ_205 hL (nB_01 _), ↓dR_205_12 hL, dI_209 hL, dS_209 hL, ↓dR_205_35 hL, dI_691 hL, dS_691 hL, ↓reduceIte, ↓kq_bi, ↓kq_let, ↓kq_rz0, ↓kq_rz1, ↓kq_rzB, ↓Option.bind_some, kq_dvn, kt_lt, kf_lt, kt_eq, kf_eq, decide_true, decide_false, eq_self, Bool.false_eq_true, Bool.true_eq_false, not_true_eq_false, not_false_eq_true, jU_eq, jU_ne, jU_U, jV_eq, jV_ne, jV_V, kn_lit, kn_add, kn_mul, kn_sdm, kn_sub, kn_div, kn_nsdm, kn_lt, kn_eq, kn_pred, kn_m1, kn_m1', kn_a31, kn_shl, kn_shr, kn_bit, nB_0, nB_1, nB_t, nB_f, Nat.zero_add, Nat.add_zero, Nat.reduceAdd, Nat.reduceMul, Nat.reduceSub, Nat.reducePow]
          · rw [decide_eq_false hc, if_neg (show ¬ false = true by decide)]
            simp (disch := omega) only [hQ0.1.1.1, jMR_at hQ0.2.1, m_standsOf hL hQ0.1.1 ho (Or.inl rfl) hQ0.2.1 hr hg, F_Mod_crowd_b100, F_Mod_crowd_b99, ↓dK_205 hL, ↓dG_205 hL, ↓dP_205 hL, ↓dZ_205 hL (x := nI 0) (Or.inl rfl), ↓dZ_205 hL (x := nI 1) (Or.inr rfl), ↓dZ_205 hL (Or.inl rfl), ↓dZ_205 hL (Or.inr rfl), ↓dZ_205 hL (nB_01 _), ↓dR_205_12 hL, dI_209 hL, dS_209 hL, ↓dR_205_35 hL, dI_691 hL, dS_691 hL, ↓reduceIte, ↓kq_bi, ↓kq_let, ↓kq_rz0, ↓kq_rz1, ↓kq_rzB, ↓Option.bind_some, kq_dvn, kt_lt, kf_lt, kt_eq, kf_eq, decide_true, decide_false, eq_self, Bool.false_eq_true, Bool.true_eq_false, not_true_eq_false, not_false_eq_true, jU_eq, jU_ne, jU_U, jV_eq, jV_ne, jV_V, kn_lit, kn_add, kn_mul, kn_sdm, kn_sub, kn_div, kn_nsdm, kn_lt, kn_eq, kn_pred, kn_m1, kn_m1', kn_a31, kn_shl, kn_shr, kn_bit, nB_0, nB_1, nB_t, nB_f, Nat.zero_add, Nat.add_zero, Nat.reduceAdd, Nat.reduceMul, Nat.reduceSub, Nat.reducePow]
        · rw [decide_eq_false h0, Bool.false_and, if_neg (show ¬ false = true by decide)]
          simp (disch := omega) only [hQ0.1.1.1, jMR_at hQ0.2.1, F_Mod_crowd_b100, F_Mod_crowd_b99, ↓dK_205 hL, ↓dG_205 hL, ↓dP_205 hL, ↓dZ_205 hL (x := nI 0) (Or.inl rfl), ↓dZ_205 hL (x := nI 1) (Or.inr rfl), ↓dZ_205 hL (Or.inl rfl), ↓dZ_205 hL (Or.inr rfl), ↓dZ_205 hL (nB_01 _), ↓dR_205_12 hL, dI_209 hL, dS_209 hL, ↓dR_205_35 hL, dI_691 hL, dS_691 hL, ↓reduceIte, ↓kq_bi, ↓kq_let, ↓kq_rz0, ↓kq_rz1, ↓kq_rzB, ↓Option.bind_some, kq_dvn, kt_lt, kf_lt, kt_eq, kf_eq, decide_true, decide_false, eq_self, Bool.false_eq_true, Bool.true_eq_false, not_true_eq_false, not_false_eq_true, jU_eq, jU_ne, jU_U, jV_eq, jV_ne, jV_V, kn_lit, kn_add, kn_mul, kn_sdm, kn_sub, kn_div, kn_nsdm, kn_lt, kn_eq, kn_pred, kn_m1, kn_m1', kn_a31, kn_shl, kn_shr, kn_bit, nB_0, nB_1, nB_t, nB_f, Nat.zero_add, Nat.add_zero, Nat.reduceAdd, Nat.reduceMul, Nat.reduceSub, Nat.reducePow]
      · show F_Mod_crowd_c54 (F_Mod_crowd_l37 n) (F_Mod_crowd_l54 (F_Mod_crowd_l37 n) n2) 205 (nB w) (nO (s_fl (s_crd τ r) x).1) (nI (s_fl (s_crd τ r) x).2) (nI x) (nI (s_crd τ r x)) (nI (τ 0 0)) (jz_I h I') = F_Mod_crowd_l37 n 205 (nB w) (nO (if (s_fl (s_crd τ r) x).2 < s_crd τ r x then (some x, s_crd τ r x) else s_fl (s_crd τ r) x).1) (nI (if (s_fl (s_crd τ r) x).2 < s_crd τ r x then (some x, s_crd τ r x) else s_fl (s_crd τ r) x).2) (nI (x + 1)) (jz_I h I')
        unfold F_Mod_crowd_c54
        by_cases hc : (s_fl (s_crd τ r) x).2 < s_crd τ r x
        · rw [if_pos hc]
          simp (disch := omega) only [hQ0.1.1.1, F_Mod_crowd_b124, ↓dK_205 hL, ↓dG_205 hL, ↓dP_205 hL, ↓dZ_205 hL (x := nI 0) (Or.inl rfl), ↓dZ_205 hL (x := nI 1) (Or.inr rfl), ↓dZ_205 hL (Or.inl rfl), ↓dZ_205 hL (Or.inr rfl), ↓dZ_205 hL (nB_01 _), ↓dR_205_12 hL, dI_209 hL, dS_209 hL, ↓reduceIte, ↓kq_bi, ↓kq_let, ↓kq_rz0, ↓kq_rz1, ↓kq_rzB, ↓Option.bind_some, kq_dvn, kt_lt, kf_lt, kt_eq, kf_eq, decide_true, decide_false, eq_self, Bool.false_eq_true, Bool.true_eq_false, not_true_eq_false, not_false_eq_true, jU_eq, jU_ne, jU_U, jV_eq, jV_ne, jV_V, kn_lit, kn_add, kn_mul, kn_sdm, kn_sub, kn_div, kn_nsdm, kn_lt, kn_eq, kn_pred, kn_m1, kn_m1', kn_a31, kn_shl, kn_shr, kn_bit, nB_0, nB_1, nB_t, nB_f, Nat.zero_add, Nat.add_zero, Nat.reduceAdd, Nat.reduceMul, Nat.reduceSub, Nat.reducePow]
          rfl
        · rw [if_neg hc]
          simp (disch := omega) only [hQ0.1.1.1, F_Mod_crowd_b124, ↓dK_205 hL, ↓dG_205 hL, ↓dP_205 hL, ↓dZ_205 hL (x := nI 0) (Or.inl rfl), ↓dZ_205 hL (x := nI 1) (Or.inr rfl), ↓dZ_205 hL (Or.inl rfl), ↓dZ_205 hL (Or.inr rfl), ↓dZ_205 hL (nB_01 _), ↓dR_205_12 hL, dI_209 hL, dS_209 hL, ↓reduceIte, ↓kq_bi, ↓kq_let, ↓kq_rz0, ↓kq_rz1, ↓kq_rzB, ↓Option.bind_some, kq_dvn, kt_lt, kf_lt, kt_eq, kf_eq, decide_true, decide_false, eq_self, Bool.false_eq_true, Bool.true_eq_false, not_true_eq_false, not_false_eq_true, jU_eq, jU_ne, jU_U, jV_eq, jV_ne, jV_V, kn_lit, kn_add, kn_mul, kn_sdm, kn_sub, kn_div, kn_nsdm, kn_lt, kn_eq, kn_pred, kn_m1, kn_m1', kn_a31, kn_shl, kn_shr, kn_bit, nB_0, nB_1, nB_t, nB_f, Nat.zero_add, Nat.add_zero, Nat.reduceAdd, Nat.reduceMul, Nat.reduceSub, Nat.reducePow]
    · have b2 := s_fl_lt (f := s_crd τ r) (τ 0 0)
      unfold s_crowd
      show F_Mod_crowd_c37 (F_Mod_crowd_l37 n) 205 (nB w) (nO (s_fl (s_crd τ r) (τ 0 0)).1) (nI (s_fl (s_crd τ r) (τ 0 0)).2) (nI (τ 0 0)) (jz_I h I') = _
      unfold F_Mod_crowd_c37
      generalize s_fl (s_crd τ r) (τ 0 0) = y at b2 ⊢
      obtain ⟨y1, y2⟩ := y
      cases w
      · rw [if_neg (show ¬ false = true by decide)]
        simp (disch := omega) only [hQ0.1.1.1, F_Mod_crowd_b139, F_Mod_crowd_b144, ↓dK_205 hL, ↓dG_205 hL, ↓dP_205 hL, ↓dZ_205 hL (x := nI 0) (Or.inl rfl), ↓dZ_205 hL (x := nI 1) (Or.inr rfl), ↓dZ_205 hL (Or.inl rfl), ↓dZ_205 hL (Or.inr rfl), ↓dZ_205 hL (nB_01 _), ↓dR_205_12 hL, dI_209 hL, dS_209 hL, ↓reduceIte, ↓kq_bi, ↓kq_let, ↓kq_rz0, ↓kq_rz1, ↓kq_rzB, ↓Option.bind_some, kq_dvn, kt_lt, kf_lt, kt_eq, kf_eq, decide_true, decide_false, eq_self, Bool.false_eq_true, Bool.true_eq_false, not_true_eq_false, not_false_eq_true, jU_eq, jU_ne, jU_U, jV_eq, jV_ne, jV_V, kn_lit, kn_add, kn_mul, kn_sdm, kn_sub, kn_div, kn_nsdm, kn_lt, kn_eq, kn_pred, kn_m1, kn_m1', kn_a31, kn_shl, kn_shr, kn_bit, nB_0, nB_1, nB_t, nB_f, Nat.zero_add, Nat.add_zero, Nat.reduceAdd, Nat.reduceMul, Nat.reduceSub, Nat.reducePow]
      · rw [if_pos (show true = true from rfl)]
        cases y1 with
        | none =>
          simp only [nO, Option.elim_none, Option.map_none]
          simp (disch := omega) only [hQ0.1.1.1, F_Mod_crowd_b139, F_Mod_crowd_b144, ↓dK_205 hL, ↓dG_205 hL, ↓dP_205 hL, ↓dZ_205 hL (x := nI 0) (Or.inl rfl), ↓dZ_205 hL (x := nI 1) (Or.inr rfl), ↓dZ_205 hL (Or.inl rfl), ↓dZ_205 hL (Or.inr rfl), ↓dZ_205 hL (nB_01 _), ↓dR_205_12 hL, dI_209 hL, dS_209 hL, ↓reduceIte, ↓kq_bi, ↓kq_let, ↓kq_rz0, ↓kq_rz1, ↓kq_rzB, ↓Option.bind_some, kq_dvn, kt_lt, kf_lt, kt_eq, kf_eq, decide_true, decide_false, eq_self, Bool.false_eq_true, Bool.true_eq_false, not_true_eq_false, not_false_eq_true, jU_eq, jU_ne, jU_U, jV_eq, jV_ne, jV_V, kn_lit, kn_add, kn_mul, kn_sdm, kn_sub, kn_div, kn_nsdm, kn_lt, kn_eq, kn_pred, kn_m1, kn_m1', kn_a31, kn_shl, kn_shr, kn_bit, nB_0, nB_1, nB_t, nB_f, Nat.zero_add, Nat.add_zero, Nat.reduceAdd, Nat.reduceMul, Nat.reduceSub, Nat.reducePow]
        | some z =>
          have hz := b2 z rfl
          simp only [nO, Option.elim_some, Option.map_some]
          simp (disch := omega) only [hQ0.1.1.1, F_Mod_crowd_b139, F_Mod_crowd_b144, ↓dK_205 hL, ↓dG_205 hL, ↓dP_205 hL, ↓dZ_205 hL (x := nI 0) (Or.inl rfl), ↓dZ_205 hL (x := nI 1) (Or.inr rfl), ↓dZ_205 hL (Or.inl rfl), ↓dZ_205 hL (Or.inr rfl), ↓dZ_205 hL (nB_01 _), ↓dR_205_12 hL, dI_209 hL, dS_209 hL, ↓reduceIte, ↓kq_bi, ↓kq_let, ↓kq_rz0, ↓kq_rz1, ↓kq_rzB, ↓Option.bind_some, kq_dvn, kt_lt, kf_lt, kt_eq, kf_eq, decide_true, decide_false, eq_self, Bool.false_eq_true, Bool.true_eq_false, not_true_eq_false, not_false_eq_true, jU_eq, jU_ne, jU_U, jV_eq, jV_ne, jV_V, kn_lit, kn_add, kn_mul, kn_sdm, kn_sub, kn_div, kn_nsdm, kn_lt, kn_eq, kn_pred, kn_m1, kn_m1', kn_a31, kn_shl, kn_shr, kn_bit, nB_0, nB_1, nB_t, nB_f, Nat.zero_add, Nat.add_zero, Nat.reduceAdd, Nat.reduceMul, Nat.reduceSub, Nat.reducePow]
  unfold F_Mod_crowd
  cases w
  · simp (disch := omega) only [m_in1, show nB false = nI 0 from rfl, ↓dK_205 hL, ↓dG_205 hL, ↓dP_205 hL, ↓dZ_205 hL (x := nI 0) (Or.inl rfl), ↓dZ_205 hL (x := nI 1) (Or.inr rfl), ↓dZ_205 hL (Or.inl rfl), ↓dZ_205 hL (Or.inr rfl), ↓dZ_205 hL (nB_01 _), ↓reduceIte, ↓kq_bi, ↓kq_let, ↓kq_rz0, ↓kq_rz1, ↓kq_rzB, ↓Option.bind_some, kq_dvn, kt_lt, kf_lt, kt_eq, kf_eq, decide_true, decide_false, eq_self, Bool.false_eq_true, Bool.true_eq_false, not_true_eq_false, not_false_eq_true, jU_eq, jU_ne, jU_U, jV_eq, jV_ne, jV_V, kn_lit, kn_add, kn_mul, kn_sdm, kn_sub, kn_div, kn_nsdm, kn_lt, kn_eq, kn_pred, kn_m1, kn_m1', kn_a31, kn_shl, kn_shr, kn_bit, nB_0, nB_1, nB_t, nB_f, Nat.zero_add, Nat.add_zero, Nat.reduceAdd, Nat.reduceMul, Nat.reduceSub, Nat.reducePow]
    exact key
  · simp (disch := omega) only [m_in1, show nB true = nI 1 from rfl, ↓dK_205 hL, ↓dG_205 hL, ↓dP_205 hL, ↓dZ_205 hL (x := nI 0) (Or.inl rfl), ↓dZ_205 hL (x := nI 1) (Or.inr rfl), ↓dZ_205 hL (Or.inl rfl), ↓dZ_205 hL (Or.inr rfl), ↓dZ_205 hL (nB_01 _), ↓reduceIte, ↓kq_bi, ↓kq_let, ↓kq_rz0, ↓kq_rz1, ↓kq_rzB, ↓Option.bind_some, kq_dvn, kt_lt, kf_lt, kt_eq, kf_eq, decide_true, decide_false, eq_self, Bool.false_eq_true, Bool.true_eq_false, not_true_eq_false, not_false_eq_true, jU_eq, jU_ne, jU_U, jV_eq, jV_ne, jV_V, kn_lit, kn_add, kn_mul, kn_sdm, kn_sub, kn_div, kn_nsdm, kn_lt, kn_eq, kn_pred, kn_m1, kn_m1', kn_a31, kn_shl, kn_shr, kn_bit, nB_0, nB_1, nB_t, nB_f, Nat.zero_add, Nat.add_zero, Nat.reduceAdd, Nat.reduceMul, Nat.reduceSub, Nat.reducePow]
    exact key
end

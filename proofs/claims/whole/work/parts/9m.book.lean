/-! PLAIN LEAN: the book; what a line does; the class reads a book -/
section
variable {tp : Nat → Nat} {n G : Nat} {z y : JTs} {β : JBk} {g : Nat} {τ : JTn}
def s_ln2 (tp : Nat → Nat) (n G : Nat) (β : JBk) (z : JTs) : JTs := if (s_sm β.2 (s_nuv tp n z) β.1).isSome = true then s_fa 2 z.1 (s_num tp n 0 G z) else s_num tp n 0 G z
def s_ln3 (tp : Nat → Nat) (n G : Nat) (β : JBk) (z : JTs) : JTs := if 9 ≤ β.1 then s_fa 3 z.1 (s_ln2 tp n G β z) else s_ln2 tp n G β z
def s_ln4 (tp : Nat → Nat) (n G : Nat) (β : JBk) (z : JTs) : JTs × JBk := (s_num tp n 0 32 (s_ln3 tp n G β z), s_nt (s_nuv tp n z) (s_nuv tp n (s_ln3 tp n G β z)) β)
def s_ln (tp : Nat → Nat) (n G : Nat) (β : JBk) (z : JTs) : JTs × JBk := (s_nd tp n 59 (s_ln4 tp n G β z).1, (s_ln4 tp n G β z).2)
def s_bk (tp : Nat → Nat) (n G : Nat) : Nat → JTs × JBk → JTs × JBk
  | 0, s => s
  | f + 1, s => if s_nc tp n s.1 = none then (s_nx tp n s.1, s.2) else s_bk tp n G f (s_ln tp n G s.2 (s_nx tp n s.1))
def s_book (tp : Nat → Nat) (n G : Nat) : JTs × JBk := s_bk tp n G 10 ((0, 0, 0), (0, fun _ _ => 0))
theorem s_ln2_0 (h0 : (s_ln2 tp n G β z).2.1 = 0) : (s_num tp n 0 G z).2.1 = 0 ∧ s_sm β.2 (s_nuv tp n z) β.1 = none ∧ s_ln2 tp n G β z = s_num tp n 0 G z := by
  unfold s_ln2 at h0 ⊢
  split at h0
  · exact absurd h0 (s_fa_0 (by omega))
  · rename_i a
    refine ⟨h0, ?_, if_neg a⟩
    cases e : s_sm β.2 (s_nuv tp n z) β.1 with
    | none => rfl
    | some v => rw [e] at a; exact absurd rfl a
theorem s_ln3_0 (h0 : (s_ln3 tp n G β z).2.1 = 0) : β.1 < 9 ∧ (s_ln2 tp n G β z).2.1 = 0 ∧ s_ln3 tp n G β z = s_ln2 tp n G β z := by
  unfold s_ln3 at h0 ⊢
  split at h0
  · exact absurd h0 (s_fa_0 (by omega))
  · rename_i a
    exact ⟨by omega, h0, if_neg a⟩
theorem s_ln2_y (hz : jTy n z) : jTy n (s_ln2 tp n G β z) := by
  unfold s_ln2
  split
  · exact s_fa_y (s_num_y hz) (by omega) hz.1
  · exact s_num_y hz
theorem s_ln3_y (hz : jTy n z) : jTy n (s_ln3 tp n G β z) := by
  unfold s_ln3
  split
  · exact s_fa_y (s_ln2_y hz) (by omega) hz.1
  · exact s_ln2_y hz
theorem s_sm_none : ∀ {k : Nat} {f : Nat → Nat → Nat}, s_sm f g k = none → ∀ i, i < k → ¬ f i 0 = g
  | 0, _, _, i, hi => absurd hi (Nat.not_lt_zero i)
  | k + 1, f, h, i, hi => by
    have h : (if f k 0 = g then some (f k 1) else s_sm f g k) = none := h
    by_cases e : f k 0 = g
    · rw [if_pos e] at h; cases h
    · rw [if_neg e] at h
      by_cases e2 : i = k
      · rw [e2]; exact e
      · exact s_sm_none h i (by omega)
theorem s_sm_cg : ∀ {k : Nat} {f f' : Nat → Nat → Nat}, (∀ i j, i < k → f' i j = f i j) → s_sm f' g k = s_sm f g k
  | 0, _, _, _ => rfl
  | k + 1, f, f', h => by
    show (if f' k 0 = g then some (f' k 1) else s_sm f' g k) = (if f k 0 = g then some (f k 1) else s_sm f g k)
    rw [h k 0 (by omega), h k 1 (by omega), s_sm_cg (fun i j hi => h i j (by omega))]
theorem s_sm_nt {w v : Nat} : s_sm (s_nt w v β).2 g (β.1 + 1) = if w = g then some v else s_sm β.2 g β.1 := by
  show (if (s_nt w v β).2 β.1 0 = g then some ((s_nt w v β).2 β.1 1) else s_sm (s_nt w v β).2 g β.1) = _
  rw [s_nt_0, s_nt_1, s_sm_cg (fun i j hi => s_nt_lo (by omega))]
/-- a good line makes a good book -/
theorem s_ln_ok (hB : jBOK τ β) (h0 : (s_ln4 tp n (τ 0 0) β z).1.2.1 = 0) : jBOK τ (s_ln4 tp n (τ 0 0) β z).2 := by
  have z3 : (s_ln3 tp n (τ 0 0) β z).2.1 = 0 ∧ 0 ≤ s_nuv tp n (s_ln3 tp n (τ 0 0) β z) ∧ s_nuv tp n (s_ln3 tp n (τ 0 0) β z) < 32 := s_num_ok h0
  obtain ⟨a1, a2, -⟩ := s_ln3_0 z3.1
  obtain ⟨b1, b2, -⟩ := s_ln2_0 a2
  have z1 := s_num_ok b1
  refine ⟨by show β.1 + 1 ≤ 9; omega, fun k hk => ?_⟩
  have hk : k < β.1 + 1 := hk
  show (s_nt (s_nuv tp n z) (s_nuv tp n (s_ln3 tp n (τ 0 0) β z)) β).2 k 0 < τ 0 0 ∧ (s_nt (s_nuv tp n z) (s_nuv tp n (s_ln3 tp n (τ 0 0) β z)) β).2 k 1 ≤ 31 ∧ ∀ k', k' < k → ¬ (s_nt (s_nuv tp n z) (s_nuv tp n (s_ln3 tp n (τ 0 0) β z)) β).2 k' 0 = (s_nt (s_nuv tp n z) (s_nuv tp n (s_ln3 tp n (τ 0 0) β z)) β).2 k 0
  by_cases e : k = β.1
  · rw [e, s_nt_0, s_nt_1]
    exact ⟨z1.2.2, by omega, fun k' hk' => by rw [s_nt_lo (by omega)]; exact s_sm_none b2 k' hk'⟩
  · rw [s_nt_lo e, s_nt_lo e]
    obtain ⟨q1, q2, q3⟩ := hB.2 k (by omega)
    exact ⟨q1, q2, fun k' hk' => by rw [s_nt_lo (by omega)]; exact q3 k' hk'⟩
theorem s_bk_ok : ∀ f (s : JTs × JBk), (s.1.2.1 = 0 → jBOK τ s.2) → (s_bk tp n (τ 0 0) f s).1.2.1 = 0 → jBOK τ (s_bk tp n (τ 0 0) f s).2
  | 0, s, hs, h0 => hs h0
  | f + 1, s, hs, h0 => by
    have e : s_bk tp n (τ 0 0) (f + 1) s = if s_nc tp n s.1 = none then (s_nx tp n s.1, s.2) else s_bk tp n (τ 0 0) f (s_ln tp n (τ 0 0) s.2 (s_nx tp n s.1)) := rfl
    rw [e] at h0 ⊢
    by_cases z : s_nc tp n s.1 = none
    · rw [if_pos z] at h0 ⊢
      have h0 : (s_nx tp n s.1).2.1 = 0 := h0
      rw [s_nx_2] at h0
      exact hs h0
    · rw [if_neg z] at h0 ⊢
      refine s_bk_ok f _ (fun w => ?_) h0
      have w4 : (s_ln4 tp n (τ 0 0) s.2 (s_nx tp n s.1)).1.2.1 = 0 := s_nd_0 w
      have z3 := s_num_ok w4
      obtain ⟨a1, a2, -⟩ := s_ln3_0 z3.1
      obtain ⟨b1, b2, -⟩ := s_ln2_0 a2
      have z1 := s_num_ok b1
      rw [s_nx_2] at z1
      exact s_ln_ok (hs z1.1) w4
end
def jBkC (J : Nat → Nat → Int32) (q : Nat) (tp : Nat → Nat) (n : Nat) (s : JTs × JBk) : Prop := jTX J tp n s.1 ∧ ∃ k, k ≤ 9 ∧ J q 2 = nI k ∧ (s.1.2.1 = 0 → k = s.2.1 ∧ ∀ g, g < 9 → J (q + 1) g = nO (s_sm s.2.2 g s.2.1))
section
variable {t u l m b c : Nat} {h : LH} {I J K : Nat → Nat → Int32} {tp : Nat → Nat} {n q G : Nat} {y z : JTs} {x : Int32} {β : JBk} {τ : JTn}
theorem jBkC_T1 (hq : q = 199 ∨ q = 202) (hJ : jBkC J q tp n (y, β)) (hX : jTX K tp n z) (h1 : jT1 J K) (h0 : z.2.1 = 0 → y.2.1 = 0) : jBkC K q tp n (z, β) := by
  obtain ⟨-, k, a1, a2, a3⟩ := hJ
  refine ⟨hX, k, a1, ?_, fun e => ?_⟩
  · rw [h1.2 q (by omega)]; exact a2
  · rw [h1.2 (q + 1) (by omega)]; exact a3 (h0 e)
theorem c_line (hL : jLay t u l m b c h) (hq : q = 199 ∨ q = 202) (hT : jCT J t τ) (ho : jTOK τ) (hid : s_nx tp n z = z) (hB : z.2.1 = 0 → jBOK τ β) (hJ : jBkC J q tp n (z, β)) : ∃ K, F_Book_readLine q 65 t (jz_I h J) = some (jz_I h K) ∧ jBkC K q tp n (s_ln4 tp n (τ 0 0) β z) ∧ jFC q J K := by
  have ht := jLay_t hL
  have o0 : τ 0 0 ≤ 9 := ho.1
  have t0 : J t 0 = nI (τ 0 0) := hT.1
  have hz : jTy n z := hJ.1.2.1
  refine jE_n (fun P hP => ?_)
  have b49 : ∀ L, jBkC L q tp n (s_ln3 tp n (τ 0 0) β z, β) → jFC q J L → jW (F_Book_readLine_b49 q 65 (nI (s_nuv tp n z)) (jz_I h L)) P := fun L hL' lF => by
    unfold F_Book_readLine_b49
    simp (disch := omega) only [↓dR_64_0 hL, ↓dK_65 hL, ↓dG_65 hL, ↓dP_65 hL, ↓reduceIte, ↓kq_bi, ↓kq_let, ↓kq_rz0, ↓kq_rz1, ↓kq_rzB, ↓Option.bind_some, kq_dvn, kt_lt, kf_lt, kt_eq, kf_eq, decide_true, decide_false, eq_self, Bool.false_eq_true, Bool.true_eq_false, not_true_eq_false, not_false_eq_true, jU_eq, jU_ne, jU_U, jV_eq, jV_ne, jV_V, kn_lit, kn_add, kn_mul, kn_sdm, kn_sub, kn_div, kn_nsdm, kn_lt, kn_eq, kn_pred, kn_m1, kn_m1', kn_a31, kn_shl, kn_shr, kn_bit, nB_0, nB_1, nB_t, nB_f, Nat.zero_add, Nat.add_zero, Nat.reduceAdd, Nat.reduceMul, Nat.reduceSub, Nat.reducePow]
    refine jW_bi (c_number hL hL'.1 (lo := 0) (hi := 32) (by omega) (hH_lit (a := 31) (by omega))) (fun M hM => ?_)
    obtain ⟨m1, -, mT⟩ := hM
    have M1 := jBkC_T1 hq hL' m1 mT (fun e => (s_num_ok e).1)
    have m2 : M 65 2 = nI (s_num tp n 0 32 (s_ln3 tp n (τ 0 0) β z)).2.1 := m1.1.1
    have my := (s_num_y (tp := tp) (lo := 0) (hi := 32) (s_ln3_y (tp := tp) (G := τ 0 0) (β := β) hz)).2.1
    by_cases h0 : (s_num tp n 0 32 (s_ln3 tp n (τ 0 0) β z)).2.1 = 0
    · obtain ⟨a1, a2, -⟩ := s_ln3_0 (s_num_ok h0).1
      obtain ⟨b1, b2, -⟩ := s_ln2_0 a2
      have z1 := s_num_ok b1
      obtain ⟨-, k, k1, k2, k3⟩ := M1
      obtain ⟨k3, k4⟩ := k3 h0
      have k3 : k = β.1 := k3
      have k4 : ∀ g, g < 9 → M (q + 1) g = nO (s_sm β.2 g β.1) := k4
      rw [h0] at m2
      simp (disch := omega) only [m2, ↓dR_B_0 hL hq, dS_B1 hL hq, ↓dG_B hL hq, ↓dP_B hL hq, k2, F_Book_readLine_b83, ↓dR_64_0 hL, ↓dK_65 hL, ↓dG_65 hL, ↓dP_65 hL, ↓reduceIte, ↓kq_bi, ↓kq_let, ↓kq_rz0, ↓kq_rz1, ↓kq_rzB, ↓Option.bind_some, kq_dvn, kt_lt, kf_lt, kt_eq, kf_eq, decide_true, decide_false, eq_self, Bool.false_eq_true, Bool.true_eq_false, not_true_eq_false, not_false_eq_true, jU_eq, jU_ne, jU_U, jV_eq, jV_ne, jV_V, kn_lit, kn_add, kn_mul, kn_sdm, kn_sub, kn_div, kn_nsdm, kn_lt, kn_eq, kn_pred, kn_m1, kn_m1', kn_a31, kn_shl, kn_shr, kn_bit, nB_0, nB_1, nB_t, nB_f, Nat.zero_add, Nat.add_zero, Nat.reduceAdd, Nat.reduceMul, Nat.reduceSub, Nat.reducePow]
      refine jW_s (hP _ ⟨⟨jTX_U (jTX_U m1 (by omega)) (by omega), k + 1, by omega, by rw [jU_eq, jV_eq], fun _ => ⟨by show k + 1 = β.1 + 1; omega, fun g hg => ?_⟩⟩, ?_, fun a x1 x2 x3 => ?_⟩)
      · rw [jU_ne (by omega), jU_eq]
        show _ = nO (s_sm (s_nt (s_nuv tp n z) (s_nuv tp n (s_ln3 tp n (τ 0 0) β z)) β).2 g (β.1 + 1))
        rw [s_sm_nt]
        by_cases e : g = s_nuv tp n z
        · rw [e, jV_eq, if_pos rfl, nO_some]
        · rw [jV_ne e, if_neg (fun a => e a.symm)]; exact k4 g hg
      · rw [jU_ne (by omega), jU_ne (by omega), mT.1]; exact lF.1
      · rw [jU_ne x2, jU_ne x3, mT.2 a x1]; exact lF.2 a x1 x2 x3
    · simp (disch := omega) only [m2, F_Book_readLine_b83, ↓dR_64_0 hL, ↓dK_65 hL, ↓dG_65 hL, ↓dP_65 hL, ↓reduceIte, ↓kq_bi, ↓kq_let, ↓kq_rz0, ↓kq_rz1, ↓kq_rzB, ↓Option.bind_some, kq_dvn, kt_lt, kf_lt, kt_eq, kf_eq, decide_true, decide_false, eq_self, Bool.false_eq_true, Bool.true_eq_false, not_true_eq_false, not_false_eq_true, jU_eq, jU_ne, jU_U, jV_eq, jV_ne, jV_V, kn_lit, kn_add, kn_mul, kn_sdm, kn_sub, kn_div, kn_nsdm, kn_lt, kn_eq, kn_pred, kn_m1, kn_m1', kn_a31, kn_shl, kn_shr, kn_bit, nB_0, nB_1, nB_t, nB_f, Nat.zero_add, Nat.add_zero, Nat.reduceAdd, Nat.reduceMul, Nat.reduceSub, Nat.reducePow]
      refine jW_s (hP M ⟨⟨m1, ?_⟩, jFC_trans lF (jFC_T1 mT)⟩)
      obtain ⟨k, k1, k2, -⟩ := M1.2
      exact ⟨k, k1, k2, fun e => absurd e h0⟩
  have b35 : ∀ L, jBkC L q tp n (s_ln2 tp n (τ 0 0) β z, β) → L 65 6 = nI z.1 → jFC q J L → jW (F_Book_readLine_b35 q 65 (nI (s_nuv tp n z)) (jz_I h L)) P := fun L hL' l6 lF => by
    have hL2 := hL'
    obtain ⟨lX, k, k1, k2, k3⟩ := hL'
    have k3 : (s_ln2 tp n (τ 0 0) β z).2.1 = 0 → k = β.1 := fun e => (k3 e).1
    unfold F_Book_readLine_b35
    by_cases hk : k < 9
    · simp (disch := omega) only [↓dG_B hL hq, k2, ↓dR_64_0 hL, ↓dK_65 hL, ↓dG_65 hL, ↓dP_65 hL, ↓reduceIte, ↓kq_bi, ↓kq_let, ↓kq_rz0, ↓kq_rz1, ↓kq_rzB, ↓Option.bind_some, kq_dvn, kt_lt, kf_lt, kt_eq, kf_eq, decide_true, decide_false, eq_self, Bool.false_eq_true, Bool.true_eq_false, not_true_eq_false, not_false_eq_true, jU_eq, jU_ne, jU_U, jV_eq, jV_ne, jV_V, kn_lit, kn_add, kn_mul, kn_sdm, kn_sub, kn_div, kn_nsdm, kn_lt, kn_eq, kn_pred, kn_m1, kn_m1', kn_a31, kn_shl, kn_shr, kn_bit, nB_0, nB_1, nB_t, nB_f, Nat.zero_add, Nat.add_zero, Nat.reduceAdd, Nat.reduceMul, Nat.reduceSub, Nat.reducePow]
      refine b49 L ?_ lF
      have e : s_ln3 tp n (τ 0 0) β z = s_ln2 tp n (τ 0 0) β z := by
        unfold s_ln3
        by_cases h0 : (s_ln2 tp n (τ 0 0) β z).2.1 = 0
        · rw [if_neg (by have := k3 h0; omega)]
        · split
          · exact if_neg h0
          · rfl
      rw [e]; exact hL2
    · simp (disch := omega) only [↓dG_B hL hq, k2, ↓dR_64_0 hL, ↓dK_65 hL, ↓dG_65 hL, ↓dP_65 hL, ↓reduceIte, ↓kq_bi, ↓kq_let, ↓kq_rz0, ↓kq_rz1, ↓kq_rzB, ↓Option.bind_some, kq_dvn, kt_lt, kf_lt, kt_eq, kf_eq, decide_true, decide_false, eq_self, Bool.false_eq_true, Bool.true_eq_false, not_true_eq_false, not_false_eq_true, jU_eq, jU_ne, jU_U, jV_eq, jV_ne, jV_V, kn_lit, kn_add, kn_mul, kn_sdm, kn_sub, kn_div, kn_nsdm, kn_lt, kn_eq, kn_pred, kn_m1, kn_m1', kn_a31, kn_shl, kn_shr, kn_bit, nB_0, nB_1, nB_t, nB_f, Nat.zero_add, Nat.add_zero, Nat.reduceAdd, Nat.reduceMul, Nat.reduceSub, Nat.reducePow]
      refine jW_bn (c_fail hL lX (show 1 ≤ 3 by omega) (by omega) hz.1 l6) (fun M hM => ?_)
      obtain ⟨m1, -, mT⟩ := hM
      refine b49 M ?_ (jFC_trans lF (jFC_T1 mT))
      have e : s_ln3 tp n (τ 0 0) β z = s_fa 3 z.1 (s_ln2 tp n (τ 0 0) β z) := by
        unfold s_ln3
        by_cases h0 : (s_ln2 tp n (τ 0 0) β z).2.1 = 0
        · rw [if_pos (by have := k3 h0; omega)]
        · split
          · rfl
          · exact (if_neg h0).symm
      rw [e]
      exact jBkC_T1 hq hL2 m1 mT (fun e => absurd e (s_fa_0 (by omega)))
  unfold F_Book_readLine
  simp (disch := omega) only [↓dR_64_0 hL, ↓dK_65 hL, ↓dG_65 hL, ↓dP_65 hL, ↓dG_T hL ht, t0, kn_lit]
  refine jW_bi (c_number hL hJ.1 (lo := 0) (hi := τ 0 0) (by omega) (hH_pred (by omega))) (fun L hL' => ?_)
  obtain ⟨l1, l6, lT⟩ := hL'
  rw [hid] at l6
  have L1 := jBkC_T1 hq hJ l1 lT (fun e => (s_num_ok e).1)
  have hv := s_nuv_le (tp := tp) (n := n) (y := z)
  have e2 : ∀ (L' : Nat → Nat → Int32), jBkC L' q tp n (s_num tp n 0 (τ 0 0) z, β) → ((s_num tp n 0 (τ 0 0) z).2.1 = 0 → s_sm β.2 (s_nuv tp n z) β.1 = none) → jBkC L' q tp n (s_ln2 tp n (τ 0 0) β z, β) := fun L' a1 a2 => by
    have e : s_ln2 tp n (τ 0 0) β z = s_num tp n 0 (τ 0 0) z := by
      unfold s_ln2
      by_cases h0 : (s_num tp n 0 (τ 0 0) z).2.1 = 0
      · rw [a2 h0]; rfl
      · split
        · exact if_neg h0
        · rfl
    rw [e]; exact a1
  by_cases hg : s_nuv tp n z < 9
  · have hX := L1
    obtain ⟨-, k, k1, k2, k3⟩ := hX
    have k3 : (s_num tp n 0 (τ 0 0) z).2.1 = 0 → L (q + 1) (s_nuv tp n z) = nO (s_sm β.2 (s_nuv tp n z) β.1) := fun e => (k3 e).2 _ hg
    by_cases hx : L (q + 1) (s_nuv tp n z) = -nI 1
    · have := b35 L (e2 L L1 (fun e => by
        have e9 := k3 e
        rw [hx] at e9
        cases es : s_sm β.2 (s_nuv tp n z) β.1 with
        | none => rfl
        | some v =>
          rw [es, nO_some] at e9
          have hv9 := s_num_ok e
          have := s_sm_le (hB hv9.1) es
          rw [kn_m1' (by omega)] at e9
          exact e9.elim)) l6 (jFC_T1 lT)
      simp (disch := omega) only [↓dK_B hL hq, F_Book_has, ↓dR_B_0 hL hq, dI_B1 hL hq, hx, F_Book_has_b15, ↓dR_64_0 hL, ↓dK_65 hL, ↓dG_65 hL, ↓dP_65 hL, ↓reduceIte, ↓kq_bi, ↓kq_let, ↓kq_rz0, ↓kq_rz1, ↓kq_rzB, ↓Option.bind_some, kq_dvn, kt_lt, kf_lt, kt_eq, kf_eq, decide_true, decide_false, eq_self, Bool.false_eq_true, Bool.true_eq_false, not_true_eq_false, not_false_eq_true, jU_eq, jU_ne, jU_U, jV_eq, jV_ne, jV_V, kn_lit, kn_add, kn_mul, kn_sdm, kn_sub, kn_div, kn_nsdm, kn_lt, kn_eq, kn_pred, kn_m1, kn_m1', kn_a31, kn_shl, kn_shr, kn_bit, nB_0, nB_1, nB_t, nB_f, Nat.zero_add, Nat.add_zero, Nat.reduceAdd, Nat.reduceMul, Nat.reduceSub, Nat.reducePow]
      exact this
    · simp (disch := omega) only [↓dK_B hL hq, F_Book_has, ↓dR_B_0 hL hq, dI_B1 hL hq, hx, F_Book_has_b15, ↓dR_64_0 hL, ↓dK_65 hL, ↓dG_65 hL, ↓dP_65 hL, ↓reduceIte, ↓kq_bi, ↓kq_let, ↓kq_rz0, ↓kq_rz1, ↓kq_rzB, ↓Option.bind_some, kq_dvn, kt_lt, kf_lt, kt_eq, kf_eq, decide_true, decide_false, eq_self, Bool.false_eq_true, Bool.true_eq_false, not_true_eq_false, not_false_eq_true, jU_eq, jU_ne, jU_U, jV_eq, jV_ne, jV_V, kn_lit, kn_add, kn_mul, kn_sdm, kn_sub, kn_div, kn_nsdm, kn_lt, kn_eq, kn_pred, kn_m1, kn_m1', kn_a31, kn_shl, kn_shr, kn_bit, nB_0, nB_1, nB_t, nB_f, Nat.zero_add, Nat.add_zero, Nat.reduceAdd, Nat.reduceMul, Nat.reduceSub, Nat.reducePow]
      refine jW_bn (c_fail hL l1 (show 1 ≤ 2 by omega) (by omega) hz.1 l6) (fun M hM => ?_)
      obtain ⟨m1, m6, mT⟩ := hM
      refine b35 M ?_ (m6.trans l6) (jFC_trans (jFC_T1 lT) (jFC_T1 mT))
      have e : s_ln2 tp n (τ 0 0) β z = s_fa 2 z.1 (s_num tp n 0 (τ 0 0) z) := by
        unfold s_ln2
        by_cases h0 : (s_num tp n 0 (τ 0 0) z).2.1 = 0
        · have e9 := k3 h0
          cases es : s_sm β.2 (s_nuv tp n z) β.1 with
          | none => rw [es, nO_none] at e9; exact absurd e9 hx
          | some v => exact if_pos rfl
        · split
          · rfl
          · exact (if_neg h0).symm
      rw [e]
      exact jBkC_T1 hq L1 m1 mT (fun e => absurd e (s_fa_0 (by omega)))
  · have := b35 L (e2 L L1 (fun e => by have := s_num_ok e; omega)) l6 (jFC_T1 lT)
    simp (disch := omega) only [↓dR_64_0 hL, ↓dK_65 hL, ↓dG_65 hL, ↓dP_65 hL, ↓reduceIte, ↓kq_bi, ↓kq_let, ↓kq_rz0, ↓kq_rz1, ↓kq_rzB, ↓Option.bind_some, kq_dvn, kt_lt, kf_lt, kt_eq, kf_eq, decide_true, decide_false, eq_self, Bool.false_eq_true, Bool.true_eq_false, not_true_eq_false, not_false_eq_true, jU_eq, jU_ne, jU_U, jV_eq, jV_ne, jV_V, kn_lit, kn_add, kn_mul, kn_sdm, kn_sub, kn_div, kn_nsdm, kn_lt, kn_eq, kn_pred, kn_m1, kn_m1', kn_a31, kn_shl, kn_shr, kn_bit, nB_0, nB_1, nB_t, nB_f, Nat.zero_add, Nat.add_zero, Nat.reduceAdd, Nat.reduceMul, Nat.reduceSub, Nat.reducePow]
    exact this
end

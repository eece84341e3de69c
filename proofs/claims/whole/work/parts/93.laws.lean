/-! PLAIN LEAN, 59: laws; how a reader goes on; a law while it is read -/
section
variable {tp : Nat → Nat} {n k ch lo hi : Nat} {y : JTs}
theorem s_nx_2 : (s_nx tp n y).2 = y.2 := by unfold s_nx; split <;> rfl
theorem s_nx_ge (hy : jTy n y) : y.1 ≤ (s_nx tp n y).1 := by
  unfold s_nx
  split
  · exact (s_skp_ge hy.1).1
  · exact Nat.le_refl _
theorem s_tks_2 : (s_tks tp n ch y).2 = y.2 := by
  unfold s_tks
  split
  · exact s_nx_2
  · exact s_nx_2
theorem s_tk_lt (hc : s_tk tp n ch y = true) : (s_nx tp n y).1 < n := by
  obtain ⟨-, e2, e3, -⟩ := s_nc_ex (of_decide_eq_true hc)
  rw [e2]; exact e3
theorem s_tks_y (hy : jTy n y) : jTy n (s_tks tp n ch y) := by
  have h1 := s_nx_y (tp := tp) hy
  unfold s_tks
  split
  · rename_i hc
    have := s_tk_lt hc
    exact ⟨by show _ + 1 ≤ n; omega, h1.2⟩
  · exact h1
theorem s_tks_ge (hy : jTy n y) (hc : s_tk tp n ch y = true) : y.1 + 1 ≤ (s_tks tp n ch y).1 := by
  have := s_nx_ge (tp := tp) hy
  unfold s_tks
  rw [if_pos hc]
  show y.1 + 1 ≤ _ + 1
  omega
theorem s_nd_y (hy : jTy n y) : jTy n (s_nd tp n ch y) := by
  have h1 := s_nx_y (tp := tp) hy
  unfold s_nd
  split
  · rename_i hc
    have := s_tk_lt hc
    exact ⟨by show _ + 1 ≤ n; omega, h1.2⟩
  · exact s_fa_y h1 (by omega) h1.1
theorem s_nd_ge (hy : jTy n y) (h0 : (s_nd tp n ch y).2.1 = 0) : y.1 + 1 ≤ (s_nd tp n ch y).1 := by
  have := s_nx_ge (tp := tp) hy
  by_cases hc : s_tk tp n ch y = true
  · unfold s_nd
    rw [if_pos hc]
    show y.1 + 1 ≤ _ + 1
    omega
  · unfold s_nd at h0
    rw [if_neg hc] at h0
    exact absurd h0 (s_fa_0 (by omega))
theorem s_num_ge (hy : jTy n y) (h0 : (s_num tp n lo hi y).2.1 = 0) : y.1 + 1 ≤ (s_num tp n lo hi y).1 := by
  obtain ⟨g1, g2⟩ := s_skp_ge (c := c_bl) (tp := tp) hy.1
  obtain ⟨g3, g4⟩ := s_skp_ge (c := c_dg) (tp := tp) g2
  unfold s_num s_p1 at h0 ⊢
  split at h0
  · rename_i a
    rw [if_pos a]
    split at h0
    · cases h0
    · rename_i a2
      rw [if_neg a2]
      split at h0
      · cases h0
      · rename_i a3
        rw [if_neg a3]
        show y.1 + 1 ≤ s_skp c_dg tp n (s_skp c_bl tp n y.1)
        omega
  · rename_i a
    exact absurd h0 a
theorem s_w_pos0 : ∀ k, k < 16 → 1 ≤ k → 1 ≤ (s_w k).length := by decide
/-- a known word begins with a letter -/
theorem s_isk_nc (h1 : 1 ≤ k) (h2 : k < 16) (hy : jTy n y) (hk : s_isk tp n y k = true) : (∃ v, s_nc tp n y = some v ∧ 97 ≤ v ∧ v ≤ 122) ∧ y.1 + 1 ≤ (s_wd tp n y).1 := by
  obtain ⟨h0, e⟩ := of_decide_eq_true hk
  obtain ⟨e1, e2⟩ := s_rng_eq.mp e
  have hp := s_w_pos0 k h2 h1
  obtain ⟨g1, g2⟩ := s_skp_ge (c := c_bl) (tp := tp) hy.1
  obtain ⟨g3, g4⟩ := s_skp_ge (c := c_sm) (tp := tp) g2
  unfold s_p1 at e1
  have hin := s_skp_in (c := c_sm) (tp := tp) (n := n) (p := s_skp c_bl tp n y.1) (j := s_skp c_bl tp n y.1) (Nat.le_refl _) (by omega)
  have hin : 97 ≤ tp (s_skp c_bl tp n y.1) ∧ tp (s_skp c_bl tp n y.1) ≤ 122 := of_decide_eq_true hin
  refine ⟨⟨tp (s_skp c_bl tp n y.1), if_pos ⟨h0, by omega⟩, hin⟩, ?_⟩
  have ew : s_wd tp n y = (s_p1 c_sm tp n y, y.2) := if_pos h0
  rw [ew]
  show y.1 + 1 ≤ s_skp c_sm tp n (s_skp c_bl tp n y.1)
  omega
theorem s_isk_no (h1 : 1 ≤ k) (h2 : k < 16) (hy : jTy n y) {v : Nat} (hv : s_nc tp n y = some v) (hv2 : ¬ (97 ≤ v ∧ v ≤ 122)) : s_isk tp n y k = false := by
  cases e : s_isk tp n y k
  · rfl
  · obtain ⟨⟨v', e1, e2⟩, -⟩ := s_isk_nc h1 h2 hy e
    rw [hv] at e1
    cases e1
    exact absurd e2 hv2
theorem s_wd_2 : (s_wd tp n y).2 = y.2 := by unfold s_wd; split <;> rfl
theorem s_nx_id (hy : jTy n y) : s_nx tp n (s_nx tp n y) = s_nx tp n y := by
  by_cases h0 : y.2.1 = 0
  · have e : s_nx tp n y = (s_skp c_bl tp n y.1, y.2) := if_pos h0
    rw [e]
    show (if y.2.1 = 0 then (s_skp c_bl tp n (s_skp c_bl tp n y.1), y.2) else _) = _
    rw [if_pos h0, s_skp_id hy.1]
  · have e : s_nx tp n y = y := if_neg h0
    rw [e, e]
theorem s_nc_nx (hy : jTy n y) : s_nc tp n (s_nx tp n y) = s_nc tp n y := by
  by_cases h0 : y.2.1 = 0
  · have e : s_nx tp n y = (s_skp c_bl tp n y.1, y.2) := if_pos h0
    rw [e]
    unfold s_nc
    show (if y.2.1 = 0 ∧ s_skp c_bl tp n (s_skp c_bl tp n y.1) < n then some (tp (s_skp c_bl tp n (s_skp c_bl tp n y.1))) else none) = _
    rw [s_skp_id hy.1]
  · have e : s_nx tp n y = y := if_neg h0
    rw [e]
end
theorem s_dep_cg {f g : Nat → Nat → Nat} : ∀ k, (∀ i, i < k → f i 0 = g i 0) → s_dep f k = s_dep g k
  | 0, _ => rfl
  | k + 1, h => by
    show (if f k 0 < 2 then s_dep f k + 1 else s_dep f k - 1) = (if g k 0 < 2 then s_dep g k + 1 else s_dep g k - 1)
    rw [s_dep_cg k (fun i hi => h i (by omega)), h k (by omega)]
/-- a step more -/
def s_nt (w v : Nat) (ω : JLw) : JLw := (ω.1 + 1, fun i j => if i = ω.1 then (if j = 0 then w else v) else ω.2 i j)
theorem s_nt_lo {w v i j : Nat} {ω : JLw} (hi : ¬ i = ω.1) : (s_nt w v ω).2 i j = ω.2 i j := if_neg hi
theorem s_nt_0 {w v : Nat} {ω : JLw} : (s_nt w v ω).2 ω.1 0 = w := by show (if ω.1 = ω.1 then (if 0 = 0 then w else v) else _) = w; rw [if_pos rfl, if_pos rfl]
theorem s_nt_1 {w v : Nat} {ω : JLw} : (s_nt w v ω).2 ω.1 1 = v := by show (if ω.1 = ω.1 then (if 1 = 0 then w else v) else _) = v; rw [if_pos rfl, if_neg (by decide)]
theorem s_nt_dep {w v k : Nat} {ω : JLw} (hk : k ≤ ω.1) : s_dep (s_nt w v ω).2 k = s_dep ω.2 k := s_dep_cg k (fun i hi => s_nt_lo (by omega))
theorem s_nt_d1 {w v : Nat} {ω : JLw} : s_dep (s_nt w v ω).2 (ω.1 + 1) = if w < 2 then s_dep ω.2 ω.1 + 1 else s_dep ω.2 ω.1 - 1 := by
  show (if (s_nt w v ω).2 ω.1 0 < 2 then s_dep (s_nt w v ω).2 ω.1 + 1 else s_dep (s_nt w v ω).2 ω.1 - 1) = _
  rw [s_nt_0, s_nt_dep (Nat.le_refl _)]
abbrev JLs : Type := JTs × JLw
def jOk (f : Nat → Nat → Nat) (i : Nat) : Prop := f i 0 ≤ 7 ∧ (f i 0 = 0 → f i 1 ≤ 999) ∧ (f i 0 = 1 → f i 1 < 7) ∧ (2 ≤ f i 0 → 2 ≤ s_dep f i)
/-- what holds of a law while it is read -/
def jLG (n : Nat) (s : JLs) : Prop := jTy n s.1 ∧ n ≤ 150 ∧ (s.1.2.1 = 0 → s.2.1 ≤ s.1.1 ∧ ∀ i, i < s.2.1 → jOk s.2.2 i)
/-- one more stands on the stack -/
def jLU (d : Nat) (s s' : JLs) : Prop := s'.1.2.1 = 0 → s.1.2.1 = 0 ∧ s.1.1 + 1 ≤ s'.1.1 + (1 - d) ∧ s_dep s'.2.2 s'.2.1 = s_dep s.2.2 s.2.1 + d ∧ s'.2.1 + s.1.1 ≤ s'.1.1 + s.2.1
def jLC (h : LH) (J : Nat → Nat → Int32) (q : Nat) (tp : Nat → Nat) (n : Nat) (s : JLs) : Prop := jStr h J ∧ jTX J tp n s.1 ∧ ∃ k, k ≤ 150 ∧ J q 2 = nI k ∧ (s.1.2.1 = 0 → k = s.2.1 ∧ ∀ i, i < k → J (q + 1) i = s_code (s.2.2 i 0) (s.2.2 i 1))
def jLM (J : Nat → Nat → Int32) (tp : Nat → Nat) (n o : Nat) (s : JLs) : Prop := jTM J tp n s.1 ∧ (s.1.2.1 = 0 → (J 205 26 = nI s.2.1 ∧ J 205 8 = nI o) ∧ ∀ i j, i < s.2.1 → j < 2 → J (428 + i) j = nI (s.2.2 i j))
/-- the reader and a law at q have changed alone -/
def jFC (q : Nat) (J K : Nat → Nat → Int32) : Prop := K 65 1 = J 65 1 ∧ ∀ a, ¬ a = 65 → ¬ a = q → ¬ a = q + 1 → K a = J a
def jFM (J K : Nat → Nat → Int32) : Prop := (∀ f, ¬ f = 4 → ¬ f = 5 → ¬ f = 6 → ¬ f = 8 → ¬ f = 26 → K 205 f = J 205 f) ∧ ∀ a, ¬ a = 205 → ¬ (428 ≤ a ∧ a < 588) → K a = J a
def jSim (tp : Nat → Nat) (n o : Nat) (Fc : Nat → LH → Option LH) (Fm : LH → Option LH) (s s' : JLs) : Prop := (∀ t u l m b c h q, jLay t u l m b c h → (q = 82 ∨ q = 196) → ∀ J, jLC h J q tp n s → ∃ K, Fc q (jz_I h J) = some (jz_I h K) ∧ jLC h K q tp n s' ∧ jFC q J K) ∧ ∀ t u l m b c h, jLay t u l m b c h → ∀ J, jLM J tp n o s → ∃ K, Fm (jz_I h J) = some (jz_I h K) ∧ jLM K tp n o s' ∧ jFM J K
section
variable {t u l m b c : Nat} {h : LH} {I J K : Nat → Nat → Int32} {tp : Nat → Nat} {n o q : Nat} {y : JTs} {x : Int32} {s : JLs} {w v : Nat}
theorem jFC_trans {L : Nat → Nat → Int32} (h1 : jFC q J K) (h2 : jFC q K L) : jFC q J L := ⟨h2.1.trans h1.1, fun a x1 x2 x3 => (h2.2 a x1 x2 x3).trans (h1.2 a x1 x2 x3)⟩
theorem jFC_T1 (h1 : jT1 J K) : jFC q J K := ⟨h1.1, fun a x1 _ _ => h1.2 a x1⟩
theorem jFC_r : jFC q J J := ⟨rfl, fun _ _ _ _ => rfl⟩
theorem jFM_trans {L : Nat → Nat → Int32} (h1 : jFM J K) (h2 : jFM K L) : jFM J L := ⟨fun f x1 x2 x3 x4 x5 => (h2.1 f x1 x2 x3 x4 x5).trans (h1.1 f x1 x2 x3 x4 x5), fun a x1 x2 => (h2.2 a x1 x2).trans (h1.2 a x1 x2)⟩
theorem jFM_M1 (h1 : jM1 J K) : jFM J K := ⟨fun f x1 x2 x3 _ _ => h1.1 f x1 x2 x3, fun a x1 _ => h1.2 a x1⟩
theorem jFM_r : jFM J J := ⟨fun _ _ _ _ _ _ => rfl, fun _ _ _ => rfl⟩
theorem jLC_T1 (hl : q = 82 ∨ q = 196) (hJ : jLC h J q tp n s) (hX : jTX K tp n y) (h1 : jT1 J K) (h0 : y.2.1 = 0 → s.1.2.1 = 0) : jLC h K q tp n (y, s.2) := by
  obtain ⟨hS, -, k, a1, a2, a3⟩ := hJ
  refine ⟨jStr_T1 hS h1, hX, k, a1, ?_, fun z => ?_⟩
  · rw [h1.2 q (by omega)]; exact a2
  · rw [h1.2 (q + 1) (by omega)]; exact a3 (h0 z)
theorem jLM_M1 (hJ : jLM J tp n o s) (hX : jTM K tp n y) (h1 : jM1 J K) (h0 : y.2.1 = 0 → s.1.2.1 = 0) : jLM K tp n o (y, s.2) := by
  refine ⟨hX, fun z => ?_⟩
  obtain ⟨⟨b1, b2⟩, b3⟩ := hJ.2 (h0 z)
  exact ⟨⟨(h1.1 26 (by omega) (by omega) (by omega)).trans b1, (h1.1 8 (by omega) (by omega) (by omega)).trans b2⟩, fun i j hi hj => by rw [h1.2 (428 + i) (by omega)]; exact b3 i j hi hj⟩
theorem jTM_eq (hT : jTM J tp n y) (e : ∀ f, f = 2 ∨ f = 4 ∨ f = 5 ∨ f = 6 → K 205 f = J 205 f) (e6 : K 206 = J 206) : jTM K tp n y := by
  obtain ⟨⟨b2, bn, bt, b256⟩, hy, ⟨h5, h6⟩, z, z1, z2, z3⟩ := hT
  exact ⟨⟨(e 2 (by omega)).trans b2, bn, fun k hk => by rw [e6]; exact bt k hk, b256⟩, hy, ⟨(e 5 (by omega)).trans h5, (e 6 (by omega)).trans h6⟩, z, z1, (e 4 (by omega)).trans z2, z3⟩
theorem c_putS (hL : jLay t u l m b c h) (hl : q = 82 ∨ q = 196) (hJ : jLC h J q tp n s) (hx : s.1.2.1 = 0 → x = s_code w v ∧ s.2.1 < 150) : ∃ K, F_Law_put q x (jz_I h J) = some (jz_I h K) ∧ jLC h K q tp n (s.1, s_nt w v s.2) ∧ jFC q J K := by
  obtain ⟨hS, hX, k, k1, k2, k3⟩ := hJ
  refine jE_n (fun P hP => ?_)
  unfold F_Law_put F_Law_put_b32
  by_cases hk : k < 150
  · simp (disch := omega) only [k2, dL_L1 hL hl, ↓dK_L hL hl, ↓dG_L hL hl, ↓dP_L hL hl, ↓dR_L_0 hL hl, dI_L1 hL hl, dS_L1 hL hl, ↓reduceIte, ↓kq_bi, ↓kq_let, ↓kq_rz0, ↓kq_rz1, ↓kq_rzB, ↓Option.bind_some, kq_dvn, kt_lt, kf_lt, kt_eq, kf_eq, decide_true, decide_false, eq_self, Bool.false_eq_true, Bool.true_eq_false, not_true_eq_false, not_false_eq_true, jU_eq, jU_ne, jU_U, jV_eq, jV_ne, jV_V, kn_lit, kn_add, kn_mul, kn_sdm, kn_sub, kn_div, kn_nsdm, kn_lt, kn_eq, kn_pred, kn_m1, kn_m1', kn_a31, kn_shl, kn_shr, kn_bit, nB_0, nB_1, nB_t, nB_f, Nat.zero_add, Nat.add_zero, Nat.reduceAdd, Nat.reduceMul, Nat.reduceSub, Nat.reducePow]
    refine jW_s (hP _ ⟨⟨jStr_eq hS (fun a ha => by rw [jU_ne (by omega), jU_ne (by omega)]), jTX_U (jTX_U hX (by omega)) (by omega), k + 1, by omega, by rw [jU_eq, jV_eq], fun z => ?_⟩, by rw [jU_ne (by omega), jU_ne (by omega)], fun a a1 a2 a3 => by rw [jU_ne a2, jU_ne a3]⟩)
    obtain ⟨e1, e2⟩ := k3 z
    obtain ⟨x1, x2⟩ := hx z
    refine ⟨by show k + 1 = s.2.1 + 1; omega, fun i hi => ?_⟩
    rw [jU_ne (by omega), jU_eq]
    by_cases z2 : i = k
    · rw [z2, jV_eq, x1, e1, s_nt_0, s_nt_1]
    · rw [jV_ne z2, e2 i (by omega), s_nt_lo (by omega), s_nt_lo (by omega)]
  · have hk9 : k = 150 := by omega
    rw [hk9] at k2
    simp (disch := omega) only [k2, dL_L1 hL hl, ↓dK_L hL hl, ↓dG_L hL hl, ↓dP_L hL hl, ↓dR_L_0 hL hl, dI_L1 hL hl, dS_L1 hL hl, ↓reduceIte, ↓kq_bi, ↓kq_let, ↓kq_rz0, ↓kq_rz1, ↓kq_rzB, ↓Option.bind_some, kq_dvn, kt_lt, kf_lt, kt_eq, kf_eq, decide_true, decide_false, eq_self, Bool.false_eq_true, Bool.true_eq_false, not_true_eq_false, not_false_eq_true, jU_eq, jU_ne, jU_U, jV_eq, jV_ne, jV_V, kn_lit, kn_add, kn_mul, kn_sdm, kn_sub, kn_div, kn_nsdm, kn_lt, kn_eq, kn_pred, kn_m1, kn_m1', kn_a31, kn_shl, kn_shr, kn_bit, nB_0, nB_1, nB_t, nB_f, Nat.zero_add, Nat.add_zero, Nat.reduceAdd, Nat.reduceMul, Nat.reduceSub, Nat.reducePow]
    refine jW_s (hP J ⟨⟨hS, hX, k, k1, by rw [hk9]; exact k2, fun z => ?_⟩, jFC_r⟩)
    have e1 := (k3 z).1
    have e2 := (hx z).2
    omega
theorem m_notesS (hL : jLay t u l m b c h) {x1 x2 : Int32} (hJ : jLM J tp n o s) (hx : s.1.2.1 = 0 → x1 = nI w ∧ x2 = nI v ∧ s.2.1 < 150) : ∃ K, F_Mod_notes 205 x1 x2 (jz_I h J) = some (jz_I h K) ∧ jLM K tp n o (s.1, s_nt w v s.2) ∧ jFM J K := by
  have h5 := hJ.1.2.2.1.1
  have y2 := hJ.1.2.1.2.1
  refine jE_n (fun P hP => ?_)
  unfold F_Mod_notes
  by_cases h0 : s.1.2.1 = 0
  · obtain ⟨⟨b1, b2⟩, b3⟩ := hJ.2 h0
    obtain ⟨rfl, rfl, x3⟩ := hx h0
    rw [h0] at h5
    simp (disch := omega) only [h5, b1, ↓dK_205 hL, ↓dG_205 hL, ↓dP_205 hL, ↓dZ_205 hL (x := nI 0) (Or.inl rfl), ↓dZ_205 hL (x := nI 1) (Or.inr rfl), ↓dZ_205 hL (Or.inl rfl), ↓dZ_205 hL (Or.inr rfl), ↓dZ_205 hL (nB_01 _), ↓dR_205_28 hL, dA_427 hL, dI_428 hL, dS_428 hL, ↓reduceIte, ↓kq_bi, ↓kq_let, ↓kq_rz0, ↓kq_rz1, ↓kq_rzB, ↓Option.bind_some, kq_dvn, kt_lt, kf_lt, kt_eq, kf_eq, decide_true, decide_false, eq_self, Bool.false_eq_true, Bool.true_eq_false, not_true_eq_false, not_false_eq_true, jU_eq, jU_ne, jU_U, jV_eq, jV_ne, jV_V, kn_lit, kn_add, kn_mul, kn_sdm, kn_sub, kn_div, kn_nsdm, kn_lt, kn_eq, kn_pred, kn_m1, kn_m1', kn_a31, kn_shl, kn_shr, kn_bit, nB_0, nB_1, nB_t, nB_f, Nat.zero_add, Nat.add_zero, Nat.reduceAdd, Nat.reduceMul, Nat.reduceSub, Nat.reducePow]
    refine jW_s (hP _ ⟨⟨jTM_eq hJ.1 (fun f hf => ?_) ?_, fun _ => ⟨⟨?_, ?_⟩, fun i j hi hj => ?_⟩⟩, fun f a1 a2 a3 a4 a5 => ?_, fun a a1 a2 => ?_⟩)
    · simp (disch := omega) only [jU_eq, jU_ne, jV_ne]
    · simp (disch := omega) only [jU_ne]
    · simp (disch := omega) only [jU_eq, jV_eq]; rfl
    · simp (disch := omega) only [jU_eq, jU_ne, jV_ne]; exact b2
    · by_cases z : i = s.2.1
      · rw [z]
        rcases (show j = 0 ∨ j = 1 by omega) with rfl | rfl
        · rw [s_nt_0]; simp (disch := omega) only [jU_eq, jU_ne, jV_ne, jV_eq]
        · rw [s_nt_1]; simp (disch := omega) only [jU_eq, jU_ne, jV_eq]
      · have hi : i < s.2.1 + 1 := hi
        rw [s_nt_lo z]; simp (disch := omega) only [jU_ne]; exact b3 i j (by omega) hj
    · simp (disch := omega) only [jU_eq, jU_ne, jV_ne]
    · simp (disch := omega) only [jU_ne]
  · simp (disch := omega) only [h5, ↓dK_205 hL, ↓dG_205 hL, ↓dP_205 hL, ↓dZ_205 hL (x := nI 0) (Or.inl rfl), ↓dZ_205 hL (x := nI 1) (Or.inr rfl), ↓dZ_205 hL (Or.inl rfl), ↓dZ_205 hL (Or.inr rfl), ↓dZ_205 hL (nB_01 _), ↓reduceIte, ↓kq_bi, ↓kq_let, ↓kq_rz0, ↓kq_rz1, ↓kq_rzB, ↓Option.bind_some, kq_dvn, kt_lt, kf_lt, kt_eq, kf_eq, decide_true, decide_false, eq_self, Bool.false_eq_true, Bool.true_eq_false, not_true_eq_false, not_false_eq_true, jU_eq, jU_ne, jU_U, jV_eq, jV_ne, jV_V, kn_lit, kn_add, kn_mul, kn_sdm, kn_sub, kn_div, kn_nsdm, kn_lt, kn_eq, kn_pred, kn_m1, kn_m1', kn_a31, kn_shl, kn_shr, kn_bit, nB_0, nB_1, nB_t, nB_f, Nat.zero_add, Nat.add_zero, Nat.reduceAdd, Nat.reduceMul, Nat.reduceSub, Nat.reducePow]
    exact jW_s (hP J ⟨⟨hJ.1, fun z => absurd z h0⟩, jFM_r⟩)
theorem m_opens (hL : jLay t u l m b c h) (hJ : jLM J tp n o s) (h0 : s.1.2.1 = 0) (ho : o < 6) : ∃ K, F_Mod_opensOne 205 (jz_I h J) = some (nB true, jz_I h K) ∧ jLM K tp n (o + 1) s ∧ K 205 4 = J 205 4 ∧ jFM J K := by
  have h5 := hJ.1.2.2.1.1
  obtain ⟨⟨b1, b2⟩, b3⟩ := hJ.2 h0
  rw [h0] at h5
  refine jE_i (fun P hP => ?_)
  unfold F_Mod_opensOne
  simp (disch := omega) only [h5, b2, F_Mod_opensOne_b28, F_Mod_opensOne_b45, F_Mod_opensOne_b57, ↓dK_205 hL, ↓dG_205 hL, ↓dP_205 hL, ↓dZ_205 hL (x := nI 0) (Or.inl rfl), ↓dZ_205 hL (x := nI 1) (Or.inr rfl), ↓dZ_205 hL (Or.inl rfl), ↓dZ_205 hL (Or.inr rfl), ↓dZ_205 hL (nB_01 _), ↓reduceIte, ↓kq_bi, ↓kq_let, ↓kq_rz0, ↓kq_rz1, ↓kq_rzB, ↓Option.bind_some, kq_dvn, kt_lt, kf_lt, kt_eq, kf_eq, decide_true, decide_false, eq_self, Bool.false_eq_true, Bool.true_eq_false, not_true_eq_false, not_false_eq_true, jU_eq, jU_ne, jU_U, jV_eq, jV_ne, jV_V, kn_lit, kn_add, kn_mul, kn_sdm, kn_sub, kn_div, kn_nsdm, kn_lt, kn_eq, kn_pred, kn_m1, kn_m1', kn_a31, kn_shl, kn_shr, kn_bit, nB_0, nB_1, nB_t, nB_f, Nat.zero_add, Nat.add_zero, Nat.reduceAdd, Nat.reduceMul, Nat.reduceSub, Nat.reducePow]
  refine jW_s (hP _ ⟨⟨jTM_eq hJ.1 (fun f hf => ?_) ?_, fun _ => ⟨⟨?_, ?_⟩, fun i j hi hj => ?_⟩⟩, ?_, fun f a1 a2 a3 a4 a5 => ?_, fun a a1 a2 => ?_⟩)
  · simp (disch := omega) only [jU_eq, jV_ne]
  · simp (disch := omega) only [jU_ne]
  · simp (disch := omega) only [jU_eq, jV_ne]; exact b1
  · simp (disch := omega) only [jU_eq, jV_eq]
  · simp (disch := omega) only [jU_ne]; exact b3 i j hi hj
  · simp (disch := omega) only [jU_eq, jV_ne]
  · simp (disch := omega) only [jU_eq, jV_ne]
  · simp (disch := omega) only [jU_ne]
theorem m_opens6 (hL : jLay t u l m b c h) (hJ : jLM J tp n 6 s) (h0 : s.1.2.1 = 0) {p : Nat} (hp : p ≤ n) (h4 : J 205 4 = nI p) : ∃ K, F_Mod_opensOne 205 (jz_I h J) = some (nB false, jz_I h K) ∧ jLM K tp n 6 (s_fa 3 p s.1, s.2) ∧ jFM J K := by
  have h5 := hJ.1.2.2.1.1
  obtain ⟨⟨b1, b2⟩, b3⟩ := hJ.2 h0
  rw [h0] at h5
  refine jE_i (fun P hP => ?_)
  unfold F_Mod_opensOne
  simp (disch := omega) only [h5, b2, h4, ↓dK_205 hL, ↓dG_205 hL, ↓dP_205 hL, ↓dZ_205 hL (x := nI 0) (Or.inl rfl), ↓dZ_205 hL (x := nI 1) (Or.inr rfl), ↓dZ_205 hL (Or.inl rfl), ↓dZ_205 hL (Or.inr rfl), ↓dZ_205 hL (nB_01 _), ↓reduceIte, ↓kq_bi, ↓kq_let, ↓kq_rz0, ↓kq_rz1, ↓kq_rzB, ↓Option.bind_some, kq_dvn, kt_lt, kf_lt, kt_eq, kf_eq, decide_true, decide_false, eq_self, Bool.false_eq_true, Bool.true_eq_false, not_true_eq_false, not_false_eq_true, jU_eq, jU_ne, jU_U, jV_eq, jV_ne, jV_V, kn_lit, kn_add, kn_mul, kn_sdm, kn_sub, kn_div, kn_nsdm, kn_lt, kn_eq, kn_pred, kn_m1, kn_m1', kn_a31, kn_shl, kn_shr, kn_bit, nB_0, nB_1, nB_t, nB_f, Nat.zero_add, Nat.add_zero, Nat.reduceAdd, Nat.reduceMul, Nat.reduceSub, Nat.reducePow]
  refine jW_bn (m_wrong hL hJ.1 (show 1 ≤ 3 by omega) (by omega) hp) (fun K hK => ?_)
  have k5 := hK.1.2.2.1.1
  rw [show s_fa 3 p s.1 = (s.1.1, 3, p) from if_pos h0] at k5
  have k5 : K 205 5 = nI 3 := k5
  simp (disch := omega) only [k5, F_Mod_opensOne_b45, F_Mod_opensOne_b57, ↓dK_205 hL, ↓dG_205 hL, ↓dP_205 hL, ↓dZ_205 hL (x := nI 0) (Or.inl rfl), ↓dZ_205 hL (x := nI 1) (Or.inr rfl), ↓dZ_205 hL (Or.inl rfl), ↓dZ_205 hL (Or.inr rfl), ↓dZ_205 hL (nB_01 _), ↓reduceIte, ↓kq_bi, ↓kq_let, ↓kq_rz0, ↓kq_rz1, ↓kq_rzB, ↓Option.bind_some, kq_dvn, kt_lt, kf_lt, kt_eq, kf_eq, decide_true, decide_false, eq_self, Bool.false_eq_true, Bool.true_eq_false, not_true_eq_false, not_false_eq_true, jU_eq, jU_ne, jU_U, jV_eq, jV_ne, jV_V, kn_lit, kn_add, kn_mul, kn_sdm, kn_sub, kn_div, kn_nsdm, kn_lt, kn_eq, kn_pred, kn_m1, kn_m1', kn_a31, kn_shl, kn_shr, kn_bit, nB_0, nB_1, nB_t, nB_f, Nat.zero_add, Nat.add_zero, Nat.reduceAdd, Nat.reduceMul, Nat.reduceSub, Nat.reducePow]
  exact jW_s (hP K ⟨jLM_M1 hJ hK.1 hK.2.2 (fun z => absurd z (s_fa_0 (by omega))), jFM_M1 hK.2.2⟩)
theorem jLM_close (hJ : jLM J tp n (o + 1) s) : jLM (jU J 205 (jV (J 205) 8 (J 205 8 - nI 1))) tp n o s ∧ jFM J (jU J 205 (jV (J 205) 8 (J 205 8 - nI 1))) := by
  refine ⟨⟨jTM_eq hJ.1 (fun f hf => ?_) ?_, fun z => ?_⟩, fun f a1 a2 a3 a4 a5 => ?_, fun a a1 a2 => ?_⟩
  · rw [jU_eq, jV_ne (by omega)]
  · rw [jU_ne (by omega)]
  · obtain ⟨⟨b1, b2⟩, b3⟩ := hJ.2 z
    refine ⟨⟨?_, ?_⟩, fun i j hi hj => ?_⟩
    · rw [jU_eq, jV_ne (by omega)]; exact b1
    · rw [jU_eq, jV_eq, b2, kn_sub (by omega)]; rfl
    · rw [jU_ne (by omega)]; exact b3 i j hi hj
  · rw [jU_eq, jV_ne (by omega)]
  · rw [jU_ne a1]
/-- a step that is put keeps all well -/
theorem jLG_nt (hG : jLG n s) (hp : s.1.2.1 = 0 → s.2.1 + 1 ≤ s.1.1) (h7 : w ≤ 7) (hv0 : s.1.2.1 = 0 → w = 0 → v ≤ 999) (hv1 : w = 1 → v < 7) (hd : s.1.2.1 = 0 → 2 ≤ w → 2 ≤ s_dep s.2.2 s.2.1) : jLG n (s.1, s_nt w v s.2) := by
  refine ⟨hG.1, hG.2.1, fun z => ⟨hp z, fun i hi => ?_⟩⟩
  have hi : i < s.2.1 + 1 := hi
  unfold jOk
  by_cases e : i = s.2.1
  · rw [e, s_nt_0, s_nt_1, s_nt_dep (Nat.le_refl _)]
    exact ⟨h7, hv0 z, hv1, hd z⟩
  · rw [s_nt_lo e, s_nt_lo e, s_nt_dep (by omega)]
    exact (hG.2.2 z).2 i (by omega)
end

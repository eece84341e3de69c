/-! PLAIN LEAN, 23: the book: burnt, fits -/
abbrev JBk : Type := Nat × (Nat → Nat → Nat)
def jBOK (τ : JTn) (β : JBk) : Prop := β.1 ≤ 9 ∧ ∀ k, k < β.1 → β.2 k 0 < τ 0 0 ∧ β.2 k 1 ≤ 31 ∧ ∀ k', k' < k → ¬ β.2 k' 0 = β.2 k 0
/-- what was smelt at a gate -/
def s_sm (f : Nat → Nat → Nat) (g : Nat) : Nat → Option Nat
  | 0 => none
  | n + 1 => if f n 0 = g then some (f n 1) else s_sm f g n
def jMB (I : Nat → Nat → Int32) (β : JBk) : Prop := I 205 39 = nI β.1 ∧ ∀ k j, k < β.1 → j < 2 → I (589 + k) j = nI (β.2 k j)
def jCB (I : Nat → Nat → Int32) (b : Nat) (β : JBk) : Prop := I b 2 = nI β.1 ∧ ∀ g, g < 9 → I (b + 1) g = nO (s_sm β.2 g β.1)
/-- a line is wrong -/
def s_bad (β : JBk) (st sm k : Nat) : Bool := !decide ((if st = β.2 k 0 then sm else 0) = β.2 k 1)
def s_fit (β : JBk) (st sm : Nat) : Bool := !s_any (s_bad β st sm) β.1
def s_badg (β : JBk) (st sm g : Nat) : Bool := (s_sm β.2 g β.1).elim false (fun v => !decide (v = if g = st then sm else 0))
def s_scs (τ : JTn) (set : Nat) : Nat := s_or (fun k => if set / 2 ^ k % 2 = 1 then τ 4 k else 0) (τ 0 1)
/-- the gate x and the set 1 + j -/
def s_ft (τ : JTn) (r : JRw) (β : JBk) (x j : Nat) : Bool := s_fit β (s_st τ r x) (s_scs τ (1 + j))
def s_bt (τ : JTn) (r : JRw) (β : JBk) (x : Nat) : Nat := s_cnt (s_ft τ r β x) (2 ^ τ 0 1 - 1)
def s_ff (τ : JTn) (r : JRw) (β : JBk) (x : Nat) : Option Nat := s_fst (s_ft τ r β x) (2 ^ τ 0 1 - 1)
section
variable {t u l m b c : Nat} {h : LH} {I J K : Nat → Nat → Int32} {τ : JTn} {r q : JRw} {σ ρ i : Nat} {Q : Type} {x : Int32} {d : Bool} {ω : JLw} {f : Nat → Int32} {β : JBk}
theorem s_sm_ex {g : Nat} {F : Nat → Nat → Nat} : ∀ n v, s_sm F g n = some v → ∃ k, k < n ∧ F k 0 = g ∧ F k 1 = v
  | 0, v, h => by cases h
  | n + 1, v, h => by
    have h : (if F n 0 = g then some (F n 1) else s_sm F g n) = some v := h
    by_cases hc : F n 0 = g
    · rw [if_pos hc] at h; cases h; exact ⟨n, by omega, hc, rfl⟩
    · rw [if_neg hc] at h
      obtain ⟨k, h1, h2⟩ := s_sm_ex n v h
      exact ⟨k, by omega, h2⟩
theorem s_sm_at (hB : jBOK τ β) {k : Nat} (hk : k < β.1) : ∀ n, k < n → n ≤ β.1 → s_sm β.2 (β.2 k 0) n = some (β.2 k 1)
  | 0, h, _ => absurd h (Nat.not_lt_zero k)
  | n + 1, h, hn => by
    show (if β.2 n 0 = β.2 k 0 then some (β.2 n 1) else s_sm β.2 (β.2 k 0) n) = _
    by_cases he : k = n
    · subst he; rw [if_pos rfl]
    · have := (hB.2 n (by omega)).2.2 k (by omega)
      rw [if_neg (fun z => this z.symm)]
      exact s_sm_at hB hk n (by omega) (by omega)
theorem s_fit_g (hB : jBOK τ β) (st sm : Nat) : s_fit β st sm = !s_any (s_badg β st sm) (τ 0 0) := by
  unfold s_fit
  congr 1
  rw [Bool.eq_iff_iff, s_any_true, s_any_true]
  constructor
  · rintro ⟨k, hk, hb⟩
    refine ⟨β.2 k 0, (hB.2 k hk).1, ?_⟩
    unfold s_badg
    rw [s_sm_at hB hk _ hk (Nat.le_refl _)]
    have hb : (!decide ((if st = β.2 k 0 then sm else 0) = β.2 k 1)) = true := hb
    show (!decide (β.2 k 1 = if β.2 k 0 = st then sm else 0)) = true
    rw [Bool.not_eq_true', decide_eq_false_iff_not] at hb ⊢
    intro z
    refine hb ?_
    by_cases hs : st = β.2 k 0
    · rw [if_pos hs]; rw [if_pos hs.symm] at z; exact z.symm
    · rw [if_neg hs]; rw [if_neg (fun y => hs y.symm)] at z; exact z.symm
  · rintro ⟨g, hg, hb⟩
    unfold s_badg at hb
    cases hs : s_sm β.2 g β.1 with
    | none => rw [hs] at hb; cases hb
    | some v =>
      rw [hs] at hb
      obtain ⟨k, h1, h2, h3⟩ := s_sm_ex _ _ hs
      refine ⟨k, h1, ?_⟩
      unfold s_bad
      have hb : (!decide (v = if g = st then sm else 0)) = true := hb
      rw [Bool.not_eq_true', decide_eq_false_iff_not] at hb ⊢
      rw [h2, h3]
      intro z
      refine hb ?_
      by_cases hs : g = st
      · rw [if_pos hs]; rw [if_pos hs.symm] at z; exact z.symm
      · rw [if_neg hs]; rw [if_neg (fun y => hs y.symm)] at z; exact z.symm
theorem s_scs_lt (ho : jTOK τ) {set : Nat} : s_scs τ set < 32 := by
  refine s_or_lt (w := 5) _ (fun k hk => ?_)
  have := (ho.2.2.2.2.2.2.2.1 k hk).2.2.2.2.1
  show (if set / 2 ^ k % 2 = 1 then τ 4 k else 0) < 2 ^ 5
  split <;> omega
theorem s_2w (ho : jTOK τ) : 1 ≤ 2 ^ τ 0 1 ∧ 2 ^ τ 0 1 ≤ 64 := ⟨Nat.one_le_two_pow, show 2 ^ τ 0 1 ≤ 2 ^ 6 from Nat.pow_le_pow_right (by omega) ho.2.1⟩
theorem c_scentOfSet (hL : jLay t u l m b c h) (hT : jCT I t τ) (ho : jTOK τ) {set : Nat} (hs : set < 64) : F_Town_scentOfSet t (nI set) (jz_I h I) = some (nI (s_scs τ set), jz_I h I) := by
  have ht := jLay_t hL
  have o1 : τ 0 1 ≤ 6 := ho.2.1
  unfold F_Town_scentOfSet s_scs
  refine jz_for (fun fuel k s => F_Town_scentOfSet_l4 fuel t (nI set) (nI s) (nI k) (jz_I h I)) (τ 0 1) (fun k => s_or (fun k => if set / 2 ^ k % 2 = 1 then τ 4 k else 0) k) _ (fun n k hk => ?_) (fun n => ?_) jF (by show _ < 1000; omega)
  · have hm := Nat.mod_two_eq_zero_or_one (set / 2 ^ k)
    show F_Town_scentOfSet_c4 (F_Town_scentOfSet_l4 n) t (nI set) (nI (s_or (fun k => if set / 2 ^ k % 2 = 1 then τ 4 k else 0) k)) (nI k) (jz_I h I) = F_Town_scentOfSet_l4 n t (nI set) (nI (s_or (fun k => if set / 2 ^ k % 2 = 1 then τ 4 k else 0) k ||| (if set / 2 ^ k % 2 = 1 then τ 4 k else 0))) (nI (k + 1)) (jz_I h I)
    generalize s_or (fun k => if set / 2 ^ k % 2 = 1 then τ 4 k else 0) k = y
    unfold F_Town_scentOfSet_c4
    rcases hm with hm | hm
    · rw [hm, if_neg (show ¬ (0 : Nat) = 1 by decide), Nat.or_zero]
      simp (disch := omega) only [cT_f1 hT, hm, F_Town_scentOfSet_b30, ↓dK_T hL ht, ↓dG_T hL ht, ↓dP_T hL ht, ↓reduceIte, ↓kq_bi, ↓kq_let, ↓kq_rz0, ↓kq_rz1, ↓kq_rzB, ↓Option.bind_some, kq_dvn, kt_lt, kf_lt, kt_eq, kf_eq, decide_true, decide_false, eq_self, Bool.false_eq_true, Bool.true_eq_false, not_true_eq_false, not_false_eq_true, jU_eq, jU_ne, jU_U, jV_eq, jV_ne, jV_V, kn_lit, kn_add, kn_mul, kn_sdm, kn_sub, kn_div, kn_nsdm, kn_lt, kn_eq, kn_pred, kn_m1, kn_m1', kn_a31, kn_shl, kn_shr, kn_bit, nB_0, nB_1, nB_t, nB_f, Nat.zero_add, Nat.add_zero, Nat.reduceAdd, Nat.reduceMul, Nat.reduceSub, Nat.reducePow]
    · rw [hm, if_pos (show (1 : Nat) = 1 from rfl)]
      simp (disch := omega) only [cT_f1 hT, cT_a4 hT, hm, kn_or, F_Town_scentOfSet_b30, ↓dK_T hL ht, ↓dG_T hL ht, ↓dP_T hL ht, ↓dR_T_9 hL ht, dI_T4 hL ht, dS_T4 hL ht, ↓reduceIte, ↓kq_bi, ↓kq_let, ↓kq_rz0, ↓kq_rz1, ↓kq_rzB, ↓Option.bind_some, kq_dvn, kt_lt, kf_lt, kt_eq, kf_eq, decide_true, decide_false, eq_self, Bool.false_eq_true, Bool.true_eq_false, not_true_eq_false, not_false_eq_true, jU_eq, jU_ne, jU_U, jV_eq, jV_ne, jV_V, kn_lit, kn_add, kn_mul, kn_sdm, kn_sub, kn_div, kn_nsdm, kn_lt, kn_eq, kn_pred, kn_m1, kn_m1', kn_a31, kn_shl, kn_shr, kn_bit, nB_0, nB_1, nB_t, nB_f, Nat.zero_add, Nat.add_zero, Nat.reduceAdd, Nat.reduceMul, Nat.reduceSub, Nat.reducePow]
  · simp (disch := omega) only [F_Town_scentOfSet_l4, F_Town_scentOfSet_c4, cT_f1 hT, ↓dK_T hL ht, ↓dG_T hL ht, ↓dP_T hL ht, ↓reduceIte, ↓kq_bi, ↓kq_let, ↓kq_rz0, ↓kq_rz1, ↓kq_rzB, ↓Option.bind_some, kq_dvn, kt_lt, kf_lt, kt_eq, kf_eq, decide_true, decide_false, eq_self, Bool.false_eq_true, Bool.true_eq_false, not_true_eq_false, not_false_eq_true, jU_eq, jU_ne, jU_U, jV_eq, jV_ne, jV_V, kn_lit, kn_add, kn_mul, kn_sdm, kn_sub, kn_div, kn_nsdm, kn_lt, kn_eq, kn_pred, kn_m1, kn_m1', kn_a31, kn_shl, kn_shr, kn_bit, nB_0, nB_1, nB_t, nB_f, Nat.zero_add, Nat.add_zero, Nat.reduceAdd, Nat.reduceMul, Nat.reduceSub, Nat.reducePow]
theorem m_scentOf (hL : jLay t u l m b c h) (hT : jMT I τ) (ho : jTOK τ) {set : Nat} (hs : set < 64) : F_Mod_scentOf 205 (nI set) (jz_I h I) = some (nI (s_scs τ set), jz_I h I) := by
  have o1 : τ 0 1 ≤ 6 := ho.2.1
  unfold F_Mod_scentOf s_scs
  refine jz_for (fun fuel k s => F_Mod_scentOf_l4 fuel 205 (nI set) (nI s) (nI k) (jz_I h I)) (τ 0 1) (fun k => s_or (fun k => if set / 2 ^ k % 2 = 1 then τ 4 k else 0) k) _ (fun n k hk => ?_) (fun n => ?_) jF (by show _ < 1000; omega)
  · have hm := Nat.mod_two_eq_zero_or_one (set / 2 ^ k)
    show F_Mod_scentOf_c4 (F_Mod_scentOf_l4 n) 205 (nI set) (nI (s_or (fun k => if set / 2 ^ k % 2 = 1 then τ 4 k else 0) k)) (nI k) (jz_I h I) = F_Mod_scentOf_l4 n 205 (nI set) (nI (s_or (fun k => if set / 2 ^ k % 2 = 1 then τ 4 k else 0) k ||| (if set / 2 ^ k % 2 = 1 then τ 4 k else 0))) (nI (k + 1)) (jz_I h I)
    generalize s_or (fun k => if set / 2 ^ k % 2 = 1 then τ 4 k else 0) k = y
    have eT : ∀ j, j < 4 → I (223 + 1 + k) j = nI (τ (2 + j) k) := fun j hj => hT.2.2.2.2.1 k j hk hj
    unfold F_Mod_scentOf_c4
    rcases hm with hm | hm
    · rw [hm, if_neg (show ¬ (0 : Nat) = 1 by decide)]
      simp (disch := omega) only [hT.1, m_has, hm, kn_or, F_Mod_scentOf_b35, ↓dK_205 hL, ↓dG_205 hL, ↓dP_205 hL, ↓dZ_205 hL (x := nI 0) (Or.inl rfl), ↓dZ_205 hL (x := nI 1) (Or.inr rfl), ↓dZ_205 hL (Or.inl rfl), ↓dZ_205 hL (Or.inr rfl), ↓dZ_205 hL (nB_01 _), ↓dR_205_12 hL, dI_209 hL, dS_209 hL, ↓reduceIte, ↓kq_bi, ↓kq_let, ↓kq_rz0, ↓kq_rz1, ↓kq_rzB, ↓Option.bind_some, kq_dvn, kt_lt, kf_lt, kt_eq, kf_eq, decide_true, decide_false, eq_self, Bool.false_eq_true, Bool.true_eq_false, not_true_eq_false, not_false_eq_true, jU_eq, jU_ne, jU_U, jV_eq, jV_ne, jV_V, kn_lit, kn_add, kn_mul, kn_sdm, kn_sub, kn_div, kn_nsdm, kn_lt, kn_eq, kn_pred, kn_m1, kn_m1', kn_a31, kn_shl, kn_shr, kn_bit, nB_0, nB_1, nB_t, nB_f, Nat.zero_add, Nat.add_zero, Nat.reduceAdd, Nat.reduceMul, Nat.reduceSub, Nat.reducePow]
    · rw [hm, if_pos (show (1 : Nat) = 1 from rfl)]
      simp (disch := omega) only [hT.1, eT, m_has, hm, kn_or, F_Mod_scentOf_b35, ↓dK_205 hL, ↓dG_205 hL, ↓dP_205 hL, ↓dZ_205 hL (x := nI 0) (Or.inl rfl), ↓dZ_205 hL (x := nI 1) (Or.inr rfl), ↓dZ_205 hL (Or.inl rfl), ↓dZ_205 hL (Or.inr rfl), ↓dZ_205 hL (nB_01 _), ↓dR_205_12 hL, dI_209 hL, dS_209 hL, ↓dR_205_20 hL, dA_223 hL, dI_224 hL, dS_224 hL, ↓reduceIte, ↓kq_bi, ↓kq_let, ↓kq_rz0, ↓kq_rz1, ↓kq_rzB, ↓Option.bind_some, kq_dvn, kt_lt, kf_lt, kt_eq, kf_eq, decide_true, decide_false, eq_self, Bool.false_eq_true, Bool.true_eq_false, not_true_eq_false, not_false_eq_true, jU_eq, jU_ne, jU_U, jV_eq, jV_ne, jV_V, kn_lit, kn_add, kn_mul, kn_sdm, kn_sub, kn_div, kn_nsdm, kn_lt, kn_eq, kn_pred, kn_m1, kn_m1', kn_a31, kn_shl, kn_shr, kn_bit, nB_0, nB_1, nB_t, nB_f, Nat.zero_add, Nat.add_zero, Nat.reduceAdd, Nat.reduceMul, Nat.reduceSub, Nat.reducePow]
  · simp (disch := omega) only [F_Mod_scentOf_l4, F_Mod_scentOf_c4, hT.1, ↓dK_205 hL, ↓dG_205 hL, ↓dP_205 hL, ↓dZ_205 hL (x := nI 0) (Or.inl rfl), ↓dZ_205 hL (x := nI 1) (Or.inr rfl), ↓dZ_205 hL (Or.inl rfl), ↓dZ_205 hL (Or.inr rfl), ↓dZ_205 hL (nB_01 _), ↓dR_205_12 hL, dI_209 hL, dS_209 hL, ↓reduceIte, ↓kq_bi, ↓kq_let, ↓kq_rz0, ↓kq_rz1, ↓kq_rzB, ↓Option.bind_some, kq_dvn, kt_lt, kf_lt, kt_eq, kf_eq, decide_true, decide_false, eq_self, Bool.false_eq_true, Bool.true_eq_false, not_true_eq_false, not_false_eq_true, jU_eq, jU_ne, jU_U, jV_eq, jV_ne, jV_V, kn_lit, kn_add, kn_mul, kn_sdm, kn_sub, kn_div, kn_nsdm, kn_lt, kn_eq, kn_pred, kn_m1, kn_m1', kn_a31, kn_shl, kn_shr, kn_bit, nB_0, nB_1, nB_t, nB_f, Nat.zero_add, Nat.add_zero, Nat.reduceAdd, Nat.reduceMul, Nat.reduceSub, Nat.reducePow]
theorem nO_some (v : Nat) : nO (some v) = nI v := rfl
theorem nO_none : nO none = -nI 1 := rfl
theorem s_sm_le (hB : jBOK τ β) {g v : Nat} (h : s_sm β.2 g β.1 = some v) : v ≤ 31 := by
  obtain ⟨k, h1, h2, h3⟩ := s_sm_ex _ _ h
  rw [← h3]
  exact (hB.2 k h1).2.1
theorem c_has (hL : jLay t u l m b c h) (hC : jCB I b β) (hB : jBOK τ β) {g : Nat} (hg : g < 9) : F_Book_has b (nI g) (jz_I h I) = some (nB (s_sm β.2 g β.1).isSome, jz_I h I) := by
  have hb := jLay_b hL
  have e := hC.2 g hg
  unfold F_Book_has
  cases hs : s_sm β.2 g β.1 with
  | none =>
    rw [hs, nO_none] at e
    simp (disch := omega) only [e, F_Book_has_b15, Option.isSome_none, ↓dK_B hL hb, ↓dG_B hL hb, ↓dP_B hL hb, ↓dR_B_0 hL hb, dI_B1 hL hb, dS_B1 hL hb, ↓reduceIte, ↓kq_bi, ↓kq_let, ↓kq_rz0, ↓kq_rz1, ↓kq_rzB, ↓Option.bind_some, kq_dvn, kt_lt, kf_lt, kt_eq, kf_eq, decide_true, decide_false, eq_self, Bool.false_eq_true, Bool.true_eq_false, not_true_eq_false, not_false_eq_true, jU_eq, jU_ne, jU_U, jV_eq, jV_ne, jV_V, kn_lit, kn_add, kn_mul, kn_sdm, kn_sub, kn_div, kn_nsdm, kn_lt, kn_eq, kn_pred, kn_m1, kn_m1', kn_a31, kn_shl, kn_shr, kn_bit, nB_0, nB_1, nB_t, nB_f, Nat.zero_add, Nat.add_zero, Nat.reduceAdd, Nat.reduceMul, Nat.reduceSub, Nat.reducePow]
  | some v =>
    have hv := s_sm_le hB hs
    rw [hs, nO_some] at e
    simp (disch := omega) only [e, F_Book_has_b15, Option.isSome_some, ↓dK_B hL hb, ↓dG_B hL hb, ↓dP_B hL hb, ↓dR_B_0 hL hb, dI_B1 hL hb, dS_B1 hL hb, ↓reduceIte, ↓kq_bi, ↓kq_let, ↓kq_rz0, ↓kq_rz1, ↓kq_rzB, ↓Option.bind_some, kq_dvn, kt_lt, kf_lt, kt_eq, kf_eq, decide_true, decide_false, eq_self, Bool.false_eq_true, Bool.true_eq_false, not_true_eq_false, not_false_eq_true, jU_eq, jU_ne, jU_U, jV_eq, jV_ne, jV_V, kn_lit, kn_add, kn_mul, kn_sdm, kn_sub, kn_div, kn_nsdm, kn_lt, kn_eq, kn_pred, kn_m1, kn_m1', kn_a31, kn_shl, kn_shr, kn_bit, nB_0, nB_1, nB_t, nB_f, Nat.zero_add, Nat.add_zero, Nat.reduceAdd, Nat.reduceMul, Nat.reduceSub, Nat.reducePow]
theorem c_isFit (hL : jLay t u l m b c h) (hT : jCT I t τ) (ho : jTOK τ) (hC : jCB I b β) (hB : jBOK τ β) {st sm : Nat} (h1 : st < 9) (h2 : sm < 32) : F_Book_isFit b t (nI st) (nI sm) (jz_I h I) = some (nB (s_fit β st sm), jz_I h I) := by
  have ht := jLay_t hL
  have hb := jLay_b hL
  have o0 : τ 0 0 ≤ 9 := ho.1
  rw [s_fit_g hB]
  unfold F_Book_isFit
  refine (jz_any (fun fuel k => F_Book_isFit_l3 fuel b t (nI st) (nI sm) (nI k) (jz_I h I)) (τ 0 0) (s_badg β st sm) (some (nI 0, jz_I h I)) (some (nI 1, jz_I h I)) (fun n k hk hp => ?_) (fun n k hk hp => ?_) (fun n => ?_) jF (by show _ < 1000; omega)).trans (by cases s_any (s_badg β st sm) (τ 0 0) <;> rfl)
  · have e := hC.2 k (by omega)
    unfold s_badg at hp
    show F_Book_isFit_c3 (F_Book_isFit_l3 n) b t (nI st) (nI sm) (nI k) (jz_I h I) = F_Book_isFit_l3 n b t (nI st) (nI sm) (nI (k + 1)) (jz_I h I)
    unfold F_Book_isFit_c3
    cases hs : s_sm β.2 k β.1 with
    | none => simp (disch := omega) only [cT_f0 hT, c_has hL hC hB, hs, Option.isSome_none, F_Book_isFit_b44, ↓dK_T hL ht, ↓dG_T hL ht, ↓dP_T hL ht, ↓dK_B hL hb, ↓dG_B hL hb, ↓dP_B hL hb, ↓reduceIte, ↓kq_bi, ↓kq_let, ↓kq_rz0, ↓kq_rz1, ↓kq_rzB, ↓Option.bind_some, kq_dvn, kt_lt, kf_lt, kt_eq, kf_eq, decide_true, decide_false, eq_self, Bool.false_eq_true, Bool.true_eq_false, not_true_eq_false, not_false_eq_true, jU_eq, jU_ne, jU_U, jV_eq, jV_ne, jV_V, kn_lit, kn_add, kn_mul, kn_sdm, kn_sub, kn_div, kn_nsdm, kn_lt, kn_eq, kn_pred, kn_m1, kn_m1', kn_a31, kn_shl, kn_shr, kn_bit, nB_0, nB_1, nB_t, nB_f, Nat.zero_add, Nat.add_zero, Nat.reduceAdd, Nat.reduceMul, Nat.reduceSub, Nat.reducePow]
    | some v =>
      have hv := s_sm_le hB hs
      rw [hs] at hp e
      rw [nO_some] at e
      have hp : (!decide (v = if k = st then sm else 0)) = false := hp
      rw [Bool.not_eq_false', decide_eq_true_eq] at hp
      by_cases hc : k = st
      · rw [if_pos hc] at hp
        subst hp
        simp (disch := omega) only [cT_f0 hT, c_has hL hC hB, hs, Option.isSome_some, e, F_Book_isFit_b44, F_Book_isFit_b39, ↓dK_T hL ht, ↓dG_T hL ht, ↓dP_T hL ht, ↓dK_B hL hb, ↓dG_B hL hb, ↓dP_B hL hb, ↓dR_B_0 hL hb, dI_B1 hL hb, dS_B1 hL hb, ↓reduceIte, ↓kq_bi, ↓kq_let, ↓kq_rz0, ↓kq_rz1, ↓kq_rzB, ↓Option.bind_some, kq_dvn, kt_lt, kf_lt, kt_eq, kf_eq, decide_true, decide_false, eq_self, Bool.false_eq_true, Bool.true_eq_false, not_true_eq_false, not_false_eq_true, jU_eq, jU_ne, jU_U, jV_eq, jV_ne, jV_V, kn_lit, kn_add, kn_mul, kn_sdm, kn_sub, kn_div, kn_nsdm, kn_lt, kn_eq, kn_pred, kn_m1, kn_m1', kn_a31, kn_shl, kn_shr, kn_bit, nB_0, nB_1, nB_t, nB_f, Nat.zero_add, Nat.add_zero, Nat.reduceAdd, Nat.reduceMul, Nat.reduceSub, Nat.reducePow]
      · rw [if_neg hc] at hp
        subst hp
        simp (disch := omega) only [cT_f0 hT, c_has hL hC hB, hs, Option.isSome_some, e, F_Book_isFit_b44, F_Book_isFit_b39, ↓dK_T hL ht, ↓dG_T hL ht, ↓dP_T hL ht, ↓dK_B hL hb, ↓dG_B hL hb, ↓dP_B hL hb, ↓dR_B_0 hL hb, dI_B1 hL hb, dS_B1 hL hb, ↓reduceIte, ↓kq_bi, ↓kq_let, ↓kq_rz0, ↓kq_rz1, ↓kq_rzB, ↓Option.bind_some, kq_dvn, kt_lt, kf_lt, kt_eq, kf_eq, decide_true, decide_false, eq_self, Bool.false_eq_true, Bool.true_eq_false, not_true_eq_false, not_false_eq_true, jU_eq, jU_ne, jU_U, jV_eq, jV_ne, jV_V, kn_lit, kn_add, kn_mul, kn_sdm, kn_sub, kn_div, kn_nsdm, kn_lt, kn_eq, kn_pred, kn_m1, kn_m1', kn_a31, kn_shl, kn_shr, kn_bit, nB_0, nB_1, nB_t, nB_f, Nat.zero_add, Nat.add_zero, Nat.reduceAdd, Nat.reduceMul, Nat.reduceSub, Nat.reducePow]
  · have e := hC.2 k (by omega)
    unfold s_badg at hp
    show F_Book_isFit_c3 (F_Book_isFit_l3 n) b t (nI st) (nI sm) (nI k) (jz_I h I) = some (nI 0, jz_I h I)
    unfold F_Book_isFit_c3
    cases hs : s_sm β.2 k β.1 with
    | none => rw [hs] at hp; cases hp
    | some v =>
      have hv := s_sm_le hB hs
      rw [hs] at hp e
      rw [nO_some] at e
      have hp : (!decide (v = if k = st then sm else 0)) = true := hp
      rw [Bool.not_eq_true', decide_eq_false_iff_not] at hp
      by_cases hc : k = st
      · rw [if_pos hc] at hp
        simp (disch := omega) only [cT_f0 hT, c_has hL hC hB, hs, Option.isSome_some, e, F_Book_isFit_b44, F_Book_isFit_b39, ↓dK_T hL ht, ↓dG_T hL ht, ↓dP_T hL ht, ↓dK_B hL hb, ↓dG_B hL hb, ↓dP_B hL hb, ↓dR_B_0 hL hb, dI_B1 hL hb, dS_B1 hL hb, ↓reduceIte, ↓kq_bi, ↓kq_let, ↓kq_rz0, ↓kq_rz1, ↓kq_rzB, ↓Option.bind_some, kq_dvn, kt_lt, kf_lt, kt_eq, kf_eq, decide_true, decide_false, eq_self, Bool.false_eq_true, Bool.true_eq_false, not_true_eq_false, not_false_eq_true, jU_eq, jU_ne, jU_U, jV_eq, jV_ne, jV_V, kn_lit, kn_add, kn_mul, kn_sdm, kn_sub, kn_div, kn_nsdm, kn_lt, kn_eq, kn_pred, kn_m1, kn_m1', kn_a31, kn_shl, kn_shr, kn_bit, nB_0, nB_1, nB_t, nB_f, Nat.zero_add, Nat.add_zero, Nat.reduceAdd, Nat.reduceMul, Nat.reduceSub, Nat.reducePow]
      · rw [if_neg hc] at hp
        simp (disch := omega) only [cT_f0 hT, c_has hL hC hB, hs, Option.isSome_some, e, F_Book_isFit_b44, F_Book_isFit_b39, ↓dK_T hL ht, ↓dG_T hL ht, ↓dP_T hL ht, ↓dK_B hL hb, ↓dG_B hL hb, ↓dP_B hL hb, ↓dR_B_0 hL hb, dI_B1 hL hb, dS_B1 hL hb, ↓reduceIte, ↓kq_bi, ↓kq_let, ↓kq_rz0, ↓kq_rz1, ↓kq_rzB, ↓Option.bind_some, kq_dvn, kt_lt, kf_lt, kt_eq, kf_eq, decide_true, decide_false, eq_self, Bool.false_eq_true, Bool.true_eq_false, not_true_eq_false, not_false_eq_true, jU_eq, jU_ne, jU_U, jV_eq, jV_ne, jV_V, kn_lit, kn_add, kn_mul, kn_sdm, kn_sub, kn_div, kn_nsdm, kn_lt, kn_eq, kn_pred, kn_m1, kn_m1', kn_a31, kn_shl, kn_shr, kn_bit, nB_0, nB_1, nB_t, nB_f, Nat.zero_add, Nat.add_zero, Nat.reduceAdd, Nat.reduceMul, Nat.reduceSub, Nat.reducePow]
  · show F_Book_isFit_c3 (F_Book_isFit_l3 n) b t (nI st) (nI sm) (nI (τ 0 0)) (jz_I h I) = some (nI 1, jz_I h I)
    unfold F_Book_isFit_c3
    simp (disch := omega) only [cT_f0 hT, ↓dK_T hL ht, ↓dG_T hL ht, ↓dP_T hL ht, ↓reduceIte, ↓kq_bi, ↓kq_let, ↓kq_rz0, ↓kq_rz1, ↓kq_rzB, ↓Option.bind_some, kq_dvn, kt_lt, kf_lt, kt_eq, kf_eq, decide_true, decide_false, eq_self, Bool.false_eq_true, Bool.true_eq_false, not_true_eq_false, not_false_eq_true, jU_eq, jU_ne, jU_U, jV_eq, jV_ne, jV_V, kn_lit, kn_add, kn_mul, kn_sdm, kn_sub, kn_div, kn_nsdm, kn_lt, kn_eq, kn_pred, kn_m1, kn_m1', kn_a31, kn_shl, kn_shr, kn_bit, nB_0, nB_1, nB_t, nB_f, Nat.zero_add, Nat.add_zero, Nat.reduceAdd, Nat.reduceMul, Nat.reduceSub, Nat.reducePow]
theorem m_isFit (hL : jLay t u l m b c h) (hT : jMT I τ) (ho : jTOK τ) (hR : jMR I 691 r) (hr : jROK τ r) (hM : jMB I β) (hB : jBOK τ β) {x set : Nat} (hx : x < τ 0 0) (hs : set < 64) : F_Mod_isFit 205 (nI x) (nI set) (jz_I h I) = some (nB (s_fit β (s_st τ r x) (s_scs τ set)), jz_I h I) := by
  have o0 : τ 0 0 ≤ 9 := ho.1
  have hst : s_st τ r x < 9 := Nat.lt_of_lt_of_le (s_st_lt ho r (g := x) (k := τ 1 x) (by omega)) o0
  have hsc := s_scs_lt (set := set) ho
  unfold F_Mod_isFit s_fit
  have hb9 := hB.1
  refine (jz_any (fun fuel k => F_Mod_isFit_l2 fuel 205 (nI x) (nI set) (nI k) (jz_I h I)) β.1 (s_bad β (s_st τ r x) (s_scs τ set)) (some (nI 0, jz_I h I)) (some (nI 1, jz_I h I)) (fun n k hk hp => ?_) (fun n k hk hp => ?_) (fun n => ?_) jF (by show _ < 1000; omega)).trans (by cases s_any (s_bad β (s_st τ r x) (s_scs τ set)) β.1 <;> rfl)
  · have eB : ∀ j, j < 2 → I (588 + 1 + k) j = nI (β.2 k j) := fun j hj => hM.2 k j hk hj
    obtain ⟨b1, b2, -⟩ := hB.2 k hk
    unfold s_bad at hp
    rw [Bool.not_eq_false', decide_eq_true_eq] at hp
    show F_Mod_isFit_c2 (F_Mod_isFit_l2 n) 205 (nI x) (nI set) (nI k) (jz_I h I) = F_Mod_isFit_l2 n 205 (nI x) (nI set) (nI (k + 1)) (jz_I h I)
    unfold F_Mod_isFit_c2
    by_cases hc : s_st τ r x = β.2 k 0
    · rw [if_pos hc] at hp
      simp (disch := omega) only [hM.1, eB, m_standsOf hL hT ho (Or.inl rfl) hR hr hx, m_scentOf hL hT ho hs, F_Mod_isFit_b39, ↓dK_205 hL, ↓dG_205 hL, ↓dP_205 hL, ↓dZ_205 hL (x := nI 0) (Or.inl rfl), ↓dZ_205 hL (x := nI 1) (Or.inr rfl), ↓dZ_205 hL (Or.inl rfl), ↓dZ_205 hL (Or.inr rfl), ↓dZ_205 hL (nB_01 _), ↓dR_205_29 hL, dA_588 hL, dI_589 hL, dS_589 hL, ↓dR_205_35 hL, dI_691 hL, dS_691 hL, ↓reduceIte, ↓kq_bi, ↓kq_let, ↓kq_rz0, ↓kq_rz1, ↓kq_rzB, ↓Option.bind_some, kq_dvn, kt_lt, kf_lt, kt_eq, kf_eq, decide_true, decide_false, eq_self, Bool.false_eq_true, Bool.true_eq_false, not_true_eq_false, not_false_eq_true, jU_eq, jU_ne, jU_U, jV_eq, jV_ne, jV_V, kn_lit, kn_add, kn_mul, kn_sdm, kn_sub, kn_div, kn_nsdm, kn_lt, kn_eq, kn_pred, kn_m1, kn_m1', kn_a31, kn_shl, kn_shr, kn_bit, nB_0, nB_1, nB_t, nB_f, Nat.zero_add, Nat.add_zero, Nat.reduceAdd, Nat.reduceMul, Nat.reduceSub, Nat.reducePow]
    · rw [if_neg hc] at hp
      simp (disch := omega) only [hM.1, eB, m_standsOf hL hT ho (Or.inl rfl) hR hr hx, F_Mod_isFit_b39, ↓dK_205 hL, ↓dG_205 hL, ↓dP_205 hL, ↓dZ_205 hL (x := nI 0) (Or.inl rfl), ↓dZ_205 hL (x := nI 1) (Or.inr rfl), ↓dZ_205 hL (Or.inl rfl), ↓dZ_205 hL (Or.inr rfl), ↓dZ_205 hL (nB_01 _), ↓dR_205_29 hL, dA_588 hL, dI_589 hL, dS_589 hL, ↓dR_205_35 hL, dI_691 hL, dS_691 hL, ↓reduceIte, ↓kq_bi, ↓kq_let, ↓kq_rz0, ↓kq_rz1, ↓kq_rzB, ↓Option.bind_some, kq_dvn, kt_lt, kf_lt, kt_eq, kf_eq, decide_true, decide_false, eq_self, Bool.false_eq_true, Bool.true_eq_false, not_true_eq_false, not_false_eq_true, jU_eq, jU_ne, jU_U, jV_eq, jV_ne, jV_V, kn_lit, kn_add, kn_mul, kn_sdm, kn_sub, kn_div, kn_nsdm, kn_lt, kn_eq, kn_pred, kn_m1, kn_m1', kn_a31, kn_shl, kn_shr, kn_bit, nB_0, nB_1, nB_t, nB_f, Nat.zero_add, Nat.add_zero, Nat.reduceAdd, Nat.reduceMul, Nat.reduceSub, Nat.reducePow]
  · have eB : ∀ j, j < 2 → I (588 + 1 + k) j = nI (β.2 k j) := fun j hj => hM.2 k j hk hj
    obtain ⟨b1, b2, -⟩ := hB.2 k hk
    unfold s_bad at hp
    rw [Bool.not_eq_true', decide_eq_false_iff_not] at hp
    show F_Mod_isFit_c2 (F_Mod_isFit_l2 n) 205 (nI x) (nI set) (nI k) (jz_I h I) = some (nI 0, jz_I h I)
    unfold F_Mod_isFit_c2
    by_cases hc : s_st τ r x = β.2 k 0
    · rw [if_pos hc] at hp
      simp (disch := omega) only [hM.1, eB, m_standsOf hL hT ho (Or.inl rfl) hR hr hx, m_scentOf hL hT ho hs, F_Mod_isFit_b39, ↓dK_205 hL, ↓dG_205 hL, ↓dP_205 hL, ↓dZ_205 hL (x := nI 0) (Or.inl rfl), ↓dZ_205 hL (x := nI 1) (Or.inr rfl), ↓dZ_205 hL (Or.inl rfl), ↓dZ_205 hL (Or.inr rfl), ↓dZ_205 hL (nB_01 _), ↓dR_205_29 hL, dA_588 hL, dI_589 hL, dS_589 hL, ↓dR_205_35 hL, dI_691 hL, dS_691 hL, ↓reduceIte, ↓kq_bi, ↓kq_let, ↓kq_rz0, ↓kq_rz1, ↓kq_rzB, ↓Option.bind_some, kq_dvn, kt_lt, kf_lt, kt_eq, kf_eq, decide_true, decide_false, eq_self, Bool.false_eq_true, Bool.true_eq_false, not_true_eq_false, not_false_eq_true, jU_eq, jU_ne, jU_U, jV_eq, jV_ne, jV_V, kn_lit, kn_add, kn_mul, kn_sdm, kn_sub, kn_div, kn_nsdm, kn_lt, kn_eq, kn_pred, kn_m1, kn_m1', kn_a31, kn_shl, kn_shr, kn_bit, nB_0, nB_1, nB_t, nB_f, Nat.zero_add, Nat.add_zero, Nat.reduceAdd, Nat.reduceMul, Nat.reduceSub, Nat.reducePow]
    · rw [if_neg hc] at hp
      simp (disch := omega) only [hM.1, eB, m_standsOf hL hT ho (Or.inl rfl) hR hr hx, F_Mod_isFit_b39, ↓dK_205 hL, ↓dG_205 hL, ↓dP_205 hL, ↓dZ_205 hL (x := nI 0) (Or.inl rfl), ↓dZ_205 hL (x := nI 1) (Or.inr rfl), ↓dZ_205 hL (Or.inl rfl), ↓dZ_205 hL (Or.inr rfl), ↓dZ_205 hL (nB_01 _), ↓dR_205_29 hL, dA_588 hL, dI_589 hL, dS_589 hL, ↓dR_205_35 hL, dI_691 hL, dS_691 hL, ↓reduceIte, ↓kq_bi, ↓kq_let, ↓kq_rz0, ↓kq_rz1, ↓kq_rzB, ↓Option.bind_some, kq_dvn, kt_lt, kf_lt, kt_eq, kf_eq, decide_true, decide_false, eq_self, Bool.false_eq_true, Bool.true_eq_false, not_true_eq_false, not_false_eq_true, jU_eq, jU_ne, jU_U, jV_eq, jV_ne, jV_V, kn_lit, kn_add, kn_mul, kn_sdm, kn_sub, kn_div, kn_nsdm, kn_lt, kn_eq, kn_pred, kn_m1, kn_m1', kn_a31, kn_shl, kn_shr, kn_bit, nB_0, nB_1, nB_t, nB_f, Nat.zero_add, Nat.add_zero, Nat.reduceAdd, Nat.reduceMul, Nat.reduceSub, Nat.reducePow]
  · show F_Mod_isFit_c2 (F_Mod_isFit_l2 n) 205 (nI x) (nI set) (nI β.1) (jz_I h I) = some (nI 1, jz_I h I)
    unfold F_Mod_isFit_c2
    simp (disch := omega) only [hM.1, ↓dK_205 hL, ↓dG_205 hL, ↓dP_205 hL, ↓dZ_205 hL (x := nI 0) (Or.inl rfl), ↓dZ_205 hL (x := nI 1) (Or.inr rfl), ↓dZ_205 hL (Or.inl rfl), ↓dZ_205 hL (Or.inr rfl), ↓dZ_205 hL (nB_01 _), ↓reduceIte, ↓kq_bi, ↓kq_let, ↓kq_rz0, ↓kq_rz1, ↓kq_rzB, ↓Option.bind_some, kq_dvn, kt_lt, kf_lt, kt_eq, kf_eq, decide_true, decide_false, eq_self, Bool.false_eq_true, Bool.true_eq_false, not_true_eq_false, not_false_eq_true, jU_eq, jU_ne, jU_U, jV_eq, jV_ne, jV_V, kn_lit, kn_add, kn_mul, kn_sdm, kn_sub, kn_div, kn_nsdm, kn_lt, kn_eq, kn_pred, kn_m1, kn_m1', kn_a31, kn_shl, kn_shr, kn_bit, nB_0, nB_1, nB_t, nB_f, Nat.zero_add, Nat.add_zero, Nat.reduceAdd, Nat.reduceMul, Nat.reduceSub, Nat.reducePow]
theorem jCB_Sc (hL : jLay t u l m b c h) (hS : jSc l 85 I J) (hC : jCB I b β) : jCB J b β := by
  have hb := jLay_b hL
  have hl := jLay_l hL
  exact ⟨by rw [hS b (by omega) (by omega)]; exact hC.1, fun g hg => by rw [hS (b + 1) (by omega) (by omega)]; exact hC.2 g hg⟩
theorem c_fitsOf (hL : jLay t u l m b c h) (hQ : jQC I t l τ ω r) (hC : jCB I b β) (hB : jBOK τ β) {x : Nat} (hx : x < τ 0 0) : ∃ J, F_Book_fitsOf b 85 (nI x) (jz_I h I) = some (nI (s_bt τ r β x), jz_I h J) ∧ jCS J 85 τ false r ∧ jSc l 85 I J := by
  have ht := jLay_t hL
  have hb := jLay_b hL
  have ho := hQ.1.2.1
  have o0 : τ 0 0 ≤ 9 := ho.1
  have o1 : τ 0 1 ≤ 6 := ho.2.1
  obtain ⟨p1, p2⟩ := s_2w ho
  have hst : s_st τ r x < 9 := Nat.lt_of_lt_of_le (s_st_lt ho r (g := x) (k := τ 1 x) (by omega)) o0
  refine jE_i (fun P hP => ?_)
  unfold F_Book_fitsOf
  simp (disch := omega) only [↓dR_64_2 hL, ↓dK_85 hL, ↓dG_85 hL, ↓dP_85 hL, ↓dZ_85 hL (x := nI 0) (Or.inl rfl), ↓dZ_85 hL (x := nI 1) (Or.inr rfl), ↓dZ_85 hL (Or.inl rfl), ↓dZ_85 hL (Or.inr rfl), ↓dZ_85 hL (nB_01 _), ↓reduceIte, ↓kq_bi, ↓kq_let, ↓kq_rz0, ↓kq_rz1, ↓kq_rzB, ↓Option.bind_some, kq_dvn, kt_lt, kf_lt, kt_eq, kf_eq, decide_true, decide_false, eq_self, Bool.false_eq_true, Bool.true_eq_false, not_true_eq_false, not_false_eq_true, jU_eq, jU_ne, jU_U, jV_eq, jV_ne, jV_V, kn_lit, kn_add, kn_mul, kn_sdm, kn_sub, kn_div, kn_nsdm, kn_lt, kn_eq, kn_pred, kn_m1, kn_m1', kn_a31, kn_shl, kn_shr, kn_bit, nB_0, nB_1, nB_t, nB_f, Nat.zero_add, Nat.add_zero, Nat.reduceAdd, Nat.reduceMul, Nat.reduceSub, Nat.reducePow]
  refine jW_bi (c_standsAt hL hQ.1 (Or.inl rfl) hQ.2.1 hQ.2.2.1 hx) (fun J hJ => ?_)
  have hE' := jCE_Sc hL (Or.inl rfl) hJ.2 hQ.1
  have hC' := jCB_Sc hL hJ.2 hC
  refine jW_e (jz_for (fun fuel j s => F_Book_fitsOf_l12 fuel b 85 (nI (s_st τ r x)) (nI s) (nI (1 + j)) (jz_I h J)) (2 ^ τ 0 1 - 1) (fun j => s_cnt (s_ft τ r β x) j) _ (fun n j hj => ?_) (fun n => ?_) jF (by show _ < 1000; omega)) (hP J hJ)
  · have hsc := s_scs_lt (set := 1 + j) ho
    have hcl := s_cnt_le (s_ft τ r β x) j
    show F_Book_fitsOf_c12 (F_Book_fitsOf_l12 n) b 85 (nI (s_st τ r x)) (nI (s_cnt (s_ft τ r β x) j)) (nI (1 + j)) (jz_I h J) = F_Book_fitsOf_l12 n b 85 (nI (s_st τ r x)) (nI (s_cnt (s_ft τ r β x) j + (if s_fit β (s_st τ r x) (s_scs τ (1 + j)) = true then 1 else 0))) (nI (1 + j + 1)) (jz_I h J)
    unfold F_Book_fitsOf_c12
    cases hf : s_fit β (s_st τ r x) (s_scs τ (1 + j))
    · simp (disch := omega) only [↓dR_85_1 hL, cT_f1 hE'.1, Nat.one_mul, c_scentOfSet hL hE'.1 ho (show 1 + j < 64 by omega), c_isFit hL hE'.1 ho hC' hB hst hsc, hf, F_Book_fitsOf_b50, ↓dR_64_2 hL, ↓dK_85 hL, ↓dG_85 hL, ↓dP_85 hL, ↓dZ_85 hL (x := nI 0) (Or.inl rfl), ↓dZ_85 hL (x := nI 1) (Or.inr rfl), ↓dZ_85 hL (Or.inl rfl), ↓dZ_85 hL (Or.inr rfl), ↓dZ_85 hL (nB_01 _), ↓dK_T hL ht, ↓dG_T hL ht, ↓dP_T hL ht, ↓dK_B hL hb, ↓dG_B hL hb, ↓dP_B hL hb, ↓reduceIte, ↓kq_bi, ↓kq_let, ↓kq_rz0, ↓kq_rz1, ↓kq_rzB, ↓Option.bind_some, kq_dvn, kt_lt, kf_lt, kt_eq, kf_eq, decide_true, decide_false, eq_self, Bool.false_eq_true, Bool.true_eq_false, not_true_eq_false, not_false_eq_true, jU_eq, jU_ne, jU_U, jV_eq, jV_ne, jV_V, kn_lit, kn_add, kn_mul, kn_sdm, kn_sub, kn_div, kn_nsdm, kn_lt, kn_eq, kn_pred, kn_m1, kn_m1', kn_a31, kn_shl, kn_shr, kn_bit, nB_0, nB_1, nB_t, nB_f, Nat.zero_add, Nat.add_zero, Nat.reduceAdd, Nat.reduceMul, Nat.reduceSub, Nat.reducePow]
    · simp (disch := omega) only [↓dR_85_1 hL, cT_f1 hE'.1, Nat.one_mul, c_scentOfSet hL hE'.1 ho (show 1 + j < 64 by omega), c_isFit hL hE'.1 ho hC' hB hst hsc, hf, F_Book_fitsOf_b50, ↓dR_64_2 hL, ↓dK_85 hL, ↓dG_85 hL, ↓dP_85 hL, ↓dZ_85 hL (x := nI 0) (Or.inl rfl), ↓dZ_85 hL (x := nI 1) (Or.inr rfl), ↓dZ_85 hL (Or.inl rfl), ↓dZ_85 hL (Or.inr rfl), ↓dZ_85 hL (nB_01 _), ↓dK_T hL ht, ↓dG_T hL ht, ↓dP_T hL ht, ↓dK_B hL hb, ↓dG_B hL hb, ↓dP_B hL hb, ↓reduceIte, ↓kq_bi, ↓kq_let, ↓kq_rz0, ↓kq_rz1, ↓kq_rzB, ↓Option.bind_some, kq_dvn, kt_lt, kf_lt, kt_eq, kf_eq, decide_true, decide_false, eq_self, Bool.false_eq_true, Bool.true_eq_false, not_true_eq_false, not_false_eq_true, jU_eq, jU_ne, jU_U, jV_eq, jV_ne, jV_V, kn_lit, kn_add, kn_mul, kn_sdm, kn_sub, kn_div, kn_nsdm, kn_lt, kn_eq, kn_pred, kn_m1, kn_m1', kn_a31, kn_shl, kn_shr, kn_bit, nB_0, nB_1, nB_t, nB_f, Nat.zero_add, Nat.add_zero, Nat.reduceAdd, Nat.reduceMul, Nat.reduceSub, Nat.reducePow]
  · show F_Book_fitsOf_c12 (F_Book_fitsOf_l12 n) b 85 (nI (s_st τ r x)) (nI (s_cnt (s_ft τ r β x) (2 ^ τ 0 1 - 1))) (nI (1 + (2 ^ τ 0 1 - 1))) (jz_I h J) = some (nI (s_bt τ r β x), jz_I h J)
    unfold F_Book_fitsOf_c12
    simp (disch := omega) only [↓dR_85_1 hL, cT_f1 hE'.1, Nat.one_mul, ↓dR_64_2 hL, ↓dK_85 hL, ↓dG_85 hL, ↓dP_85 hL, ↓dZ_85 hL (x := nI 0) (Or.inl rfl), ↓dZ_85 hL (x := nI 1) (Or.inr rfl), ↓dZ_85 hL (Or.inl rfl), ↓dZ_85 hL (Or.inr rfl), ↓dZ_85 hL (nB_01 _), ↓dK_T hL ht, ↓dG_T hL ht, ↓dP_T hL ht, ↓reduceIte, ↓kq_bi, ↓kq_let, ↓kq_rz0, ↓kq_rz1, ↓kq_rzB, ↓Option.bind_some, kq_dvn, kt_lt, kf_lt, kt_eq, kf_eq, decide_true, decide_false, eq_self, Bool.false_eq_true, Bool.true_eq_false, not_true_eq_false, not_false_eq_true, jU_eq, jU_ne, jU_U, jV_eq, jV_ne, jV_V, kn_lit, kn_add, kn_mul, kn_sdm, kn_sub, kn_div, kn_nsdm, kn_lt, kn_eq, kn_pred, kn_m1, kn_m1', kn_a31, kn_shl, kn_shr, kn_bit, nB_0, nB_1, nB_t, nB_f, Nat.zero_add, Nat.add_zero, Nat.reduceAdd, Nat.reduceMul, Nat.reduceSub, Nat.reducePow]
    rfl
theorem c_firstFit (hL : jLay t u l m b c h) (hQ : jQC I t l τ ω r) (hC : jCB I b β) (hB : jBOK τ β) {x : Nat} (hx : x < τ 0 0) : ∃ J, F_Book_firstFit b 85 (nI x) (jz_I h I) = some (nO ((s_ff τ r β x).map (fun j => 1 + j)), jz_I h J) ∧ jCS J 85 τ false r ∧ jSc l 85 I J := by
  have ht := jLay_t hL
  have hb := jLay_b hL
  have ho := hQ.1.2.1
  have o0 : τ 0 0 ≤ 9 := ho.1
  have o1 : τ 0 1 ≤ 6 := ho.2.1
  obtain ⟨p1, p2⟩ := s_2w ho
  have hst : s_st τ r x < 9 := Nat.lt_of_lt_of_le (s_st_lt ho r (g := x) (k := τ 1 x) (by omega)) o0
  refine jE_i (fun P hP => ?_)
  unfold F_Book_firstFit
  simp (disch := omega) only [↓dR_64_2 hL, ↓dK_85 hL, ↓dG_85 hL, ↓dP_85 hL, ↓dZ_85 hL (x := nI 0) (Or.inl rfl), ↓dZ_85 hL (x := nI 1) (Or.inr rfl), ↓dZ_85 hL (Or.inl rfl), ↓dZ_85 hL (Or.inr rfl), ↓dZ_85 hL (nB_01 _), ↓reduceIte, ↓kq_bi, ↓kq_let, ↓kq_rz0, ↓kq_rz1, ↓kq_rzB, ↓Option.bind_some, kq_dvn, kt_lt, kf_lt, kt_eq, kf_eq, decide_true, decide_false, eq_self, Bool.false_eq_true, Bool.true_eq_false, not_true_eq_false, not_false_eq_true, jU_eq, jU_ne, jU_U, jV_eq, jV_ne, jV_V, kn_lit, kn_add, kn_mul, kn_sdm, kn_sub, kn_div, kn_nsdm, kn_lt, kn_eq, kn_pred, kn_m1, kn_m1', kn_a31, kn_shl, kn_shr, kn_bit, nB_0, nB_1, nB_t, nB_f, Nat.zero_add, Nat.add_zero, Nat.reduceAdd, Nat.reduceMul, Nat.reduceSub, Nat.reducePow]
  refine jW_bi (c_standsAt hL hQ.1 (Or.inl rfl) hQ.2.1 hQ.2.2.1 hx) (fun J hJ => ?_)
  have hE' := jCE_Sc hL (Or.inl rfl) hJ.2 hQ.1
  have hC' := jCB_Sc hL hJ.2 hC
  have go := hP J hJ
  refine jW_for0 (f := fun fuel j (_ : Unit) => F_Book_firstFit_l9 fuel b 85 (nI (s_st τ r x)) (nI (1 + j)) (jz_I h J)) (2 ^ τ 0 1 - 1) (fun j _ => s_fst (s_ft τ r β x) j = none) () rfl (by omega) (fun n j _ hj hV ih => ?_) (fun n _ hV => ?_)
  · have hsc := s_scs_lt (set := 1 + j) ho
    show jW (F_Book_firstFit_c9 (F_Book_firstFit_l9 n) b 85 (nI (s_st τ r x)) (nI (1 + j)) (jz_I h J)) P
    unfold F_Book_firstFit_c9
    cases hf : s_fit β (s_st τ r x) (s_scs τ (1 + j))
    · simp (disch := omega) only [↓dR_85_1 hL, cT_f1 hE'.1, Nat.one_mul, c_scentOfSet hL hE'.1 ho (show 1 + j < 64 by omega), c_isFit hL hE'.1 ho hC' hB hst hsc, hf, ↓dR_64_2 hL, ↓dK_85 hL, ↓dG_85 hL, ↓dP_85 hL, ↓dZ_85 hL (x := nI 0) (Or.inl rfl), ↓dZ_85 hL (x := nI 1) (Or.inr rfl), ↓dZ_85 hL (Or.inl rfl), ↓dZ_85 hL (Or.inr rfl), ↓dZ_85 hL (nB_01 _), ↓dK_T hL ht, ↓dG_T hL ht, ↓dP_T hL ht, ↓dK_B hL hb, ↓dG_B hL hb, ↓dP_B hL hb, ↓reduceIte, ↓kq_bi, ↓kq_let, ↓kq_rz0, ↓kq_rz1, ↓kq_rzB, ↓Option.bind_some, kq_dvn, kt_lt, kf_lt, kt_eq, kf_eq, decide_true, decide_false, eq_self, Bool.false_eq_true, Bool.true_eq_false, not_true_eq_false, not_false_eq_true, jU_eq, jU_ne, jU_U, jV_eq, jV_ne, jV_V, kn_lit, kn_add, kn_mul, kn_sdm, kn_sub, kn_div, kn_nsdm, kn_lt, kn_eq, kn_pred, kn_m1, kn_m1', kn_a31, kn_shl, kn_shr, kn_bit, nB_0, nB_1, nB_t, nB_f, Nat.zero_add, Nat.add_zero, Nat.reduceAdd, Nat.reduceMul, Nat.reduceSub, Nat.reducePow]
      exact ih () (s_fst_miss hV hf)
    · have e : s_ff τ r β x = some j := s_fst_hit hV hf hj
      rw [e] at go
      simp (disch := omega) only [↓dR_85_1 hL, cT_f1 hE'.1, Nat.one_mul, c_scentOfSet hL hE'.1 ho (show 1 + j < 64 by omega), c_isFit hL hE'.1 ho hC' hB hst hsc, hf, ↓dR_64_2 hL, ↓dK_85 hL, ↓dG_85 hL, ↓dP_85 hL, ↓dZ_85 hL (x := nI 0) (Or.inl rfl), ↓dZ_85 hL (x := nI 1) (Or.inr rfl), ↓dZ_85 hL (Or.inl rfl), ↓dZ_85 hL (Or.inr rfl), ↓dZ_85 hL (nB_01 _), ↓dK_T hL ht, ↓dG_T hL ht, ↓dP_T hL ht, ↓dK_B hL hb, ↓dG_B hL hb, ↓dP_B hL hb, ↓reduceIte, ↓kq_bi, ↓kq_let, ↓kq_rz0, ↓kq_rz1, ↓kq_rzB, ↓Option.bind_some, kq_dvn, kt_lt, kf_lt, kt_eq, kf_eq, decide_true, decide_false, eq_self, Bool.false_eq_true, Bool.true_eq_false, not_true_eq_false, not_false_eq_true, jU_eq, jU_ne, jU_U, jV_eq, jV_ne, jV_V, kn_lit, kn_add, kn_mul, kn_sdm, kn_sub, kn_div, kn_nsdm, kn_lt, kn_eq, kn_pred, kn_m1, kn_m1', kn_a31, kn_shl, kn_shr, kn_bit, nB_0, nB_1, nB_t, nB_f, Nat.zero_add, Nat.add_zero, Nat.reduceAdd, Nat.reduceMul, Nat.reduceSub, Nat.reducePow]
      exact jW_s go
  · show jW (F_Book_firstFit_c9 (F_Book_firstFit_l9 n) b 85 (nI (s_st τ r x)) (nI (1 + (2 ^ τ 0 1 - 1))) (jz_I h J)) P
    have e : s_ff τ r β x = none := hV
    rw [e] at go
    unfold F_Book_firstFit_c9
    simp (disch := omega) only [↓dR_85_1 hL, cT_f1 hE'.1, Nat.one_mul, ↓dR_64_2 hL, ↓dK_85 hL, ↓dG_85 hL, ↓dP_85 hL, ↓dZ_85 hL (x := nI 0) (Or.inl rfl), ↓dZ_85 hL (x := nI 1) (Or.inr rfl), ↓dZ_85 hL (Or.inl rfl), ↓dZ_85 hL (Or.inr rfl), ↓dZ_85 hL (nB_01 _), ↓dK_T hL ht, ↓dG_T hL ht, ↓dP_T hL ht, ↓reduceIte, ↓kq_bi, ↓kq_let, ↓kq_rz0, ↓kq_rz1, ↓kq_rzB, ↓Option.bind_some, kq_dvn, kt_lt, kf_lt, kt_eq, kf_eq, decide_true, decide_false, eq_self, Bool.false_eq_true, Bool.true_eq_false, not_true_eq_false, not_false_eq_true, jU_eq, jU_ne, jU_U, jV_eq, jV_ne, jV_V, kn_lit, kn_add, kn_mul, kn_sdm, kn_sub, kn_div, kn_nsdm, kn_lt, kn_eq, kn_pred, kn_m1, kn_m1', kn_a31, kn_shl, kn_shr, kn_bit, nB_0, nB_1, nB_t, nB_f, Nat.zero_add, Nat.add_zero, Nat.reduceAdd, Nat.reduceMul, Nat.reduceSub, Nat.reducePow]
    exact jW_s go
theorem c_burnt (hL : jLay t u l m b c h) (hQ : jQC I t l τ ω r) (hC : jCB I b β) (hB : jBOK τ β) {x : Nat} (hx : x < τ 0 0) : ∃ J, F_SG_burnt 64 (nI x) (jz_I h I) = some (jo_i (nI (s_bt τ r β x), jz_I h J)) ∧ jCS J 85 τ false r ∧ jSc l 85 I J := by
  have hb := jLay_b hL
  refine jE_o (fun P hP => ?_)
  unfold F_SG_burnt
  simp (disch := omega) only [↓dR_64_12 hL, c_needGate hL hQ.1.1 hQ.1.2.1 hx, kq_th, ↓dK_64 hL, ↓dG_64 hL, ↓dP_64 hL, ↓dR_64_2 hL, ↓dK_85 hL, ↓dG_85 hL, ↓dP_85 hL, ↓dZ_85 hL (x := nI 0) (Or.inl rfl), ↓dZ_85 hL (x := nI 1) (Or.inr rfl), ↓dZ_85 hL (Or.inl rfl), ↓dZ_85 hL (Or.inr rfl), ↓dZ_85 hL (nB_01 _), ↓dK_B hL hb, ↓dG_B hL hb, ↓dP_B hL hb, ↓reduceIte, ↓kq_bi, ↓kq_let, ↓kq_rz0, ↓kq_rz1, ↓kq_rzB, ↓Option.bind_some, kq_dvn, kt_lt, kf_lt, kt_eq, kf_eq, decide_true, decide_false, eq_self, Bool.false_eq_true, Bool.true_eq_false, not_true_eq_false, not_false_eq_true, jU_eq, jU_ne, jU_U, jV_eq, jV_ne, jV_V, kn_lit, kn_add, kn_mul, kn_sdm, kn_sub, kn_div, kn_nsdm, kn_lt, kn_eq, kn_pred, kn_m1, kn_m1', kn_a31, kn_shl, kn_shr, kn_bit, nB_0, nB_1, nB_t, nB_f, Nat.zero_add, Nat.add_zero, Nat.reduceAdd, Nat.reduceMul, Nat.reduceSub, Nat.reducePow]
  exact jW_bi (c_fitsOf hL hQ hC hB hx) (fun J hJ => jW_s (hP J hJ))
theorem jMB_N (hN : jN I J) (hB : jBOK τ β) (hM : jMB I β) : jMB J β := ⟨by rw [hN.2.1 39 (by omega) (by omega)]; exact hM.1, fun k j hk hj => by
  have := hB.1
  rw [hN.1 (589 + k) (by omega) (by omega) (by omega) (by omega) (by omega)]; exact hM.2 k j hk hj⟩
theorem m_burntAt (hL : jLay t u l m b c h) (hQ : jQM I τ ω r) (hM : jMB I β) (hB : jBOK τ β) {x : Nat} (hx : x < τ 0 0) : F_Mod_burntAt 205 (nI x) (jz_I h I) = some (nI (s_bt τ r β x), jz_I h I) := by
  have ho := hQ.1.2.1
  have o1 : τ 0 1 ≤ 6 := ho.2.1
  obtain ⟨p1, p2⟩ := s_2w ho
  unfold F_Mod_burntAt
  refine jz_for (fun fuel j s => F_Mod_burntAt_l4 fuel 205 (nI x) (nI s) (nI (1 + j)) (jz_I h I)) (2 ^ τ 0 1 - 1) (fun j => s_cnt (s_ft τ r β x) j) _ (fun n j hj => ?_) (fun n => ?_) jF (by show _ < 1000; omega)
  · have hcl := s_cnt_le (s_ft τ r β x) j
    show F_Mod_burntAt_c4 (F_Mod_burntAt_l4 n) 205 (nI x) (nI (s_cnt (s_ft τ r β x) j)) (nI (1 + j)) (jz_I h I) = F_Mod_burntAt_l4 n 205 (nI x) (nI (s_cnt (s_ft τ r β x) j + (if s_fit β (s_st τ r x) (s_scs τ (1 + j)) = true then 1 else 0))) (nI (1 + j + 1)) (jz_I h I)
    unfold F_Mod_burntAt_c4
    cases hf : s_fit β (s_st τ r x) (s_scs τ (1 + j))
    · simp (disch := omega) only [hQ.1.1.1, Nat.one_mul, m_isFit hL hQ.1.1 ho hQ.2.1 hQ.2.2.1 hM hB hx (show 1 + j < 64 by omega), hf, F_Mod_burntAt_b31, ↓dK_205 hL, ↓dG_205 hL, ↓dP_205 hL, ↓dZ_205 hL (x := nI 0) (Or.inl rfl), ↓dZ_205 hL (x := nI 1) (Or.inr rfl), ↓dZ_205 hL (Or.inl rfl), ↓dZ_205 hL (Or.inr rfl), ↓dZ_205 hL (nB_01 _), ↓dR_205_12 hL, dI_209 hL, dS_209 hL, ↓reduceIte, ↓kq_bi, ↓kq_let, ↓kq_rz0, ↓kq_rz1, ↓kq_rzB, ↓Option.bind_some, kq_dvn, kt_lt, kf_lt, kt_eq, kf_eq, decide_true, decide_false, eq_self, Bool.false_eq_true, Bool.true_eq_false, not_true_eq_false, not_false_eq_true, jU_eq, jU_ne, jU_U, jV_eq, jV_ne, jV_V, kn_lit, kn_add, kn_mul, kn_sdm, kn_sub, kn_div, kn_nsdm, kn_lt, kn_eq, kn_pred, kn_m1, kn_m1', kn_a31, kn_shl, kn_shr, kn_bit, nB_0, nB_1, nB_t, nB_f, Nat.zero_add, Nat.add_zero, Nat.reduceAdd, Nat.reduceMul, Nat.reduceSub, Nat.reducePow]
    · simp (disch := omega) only [hQ.1.1.1, Nat.one_mul, m_isFit hL hQ.1.1 ho hQ.2.1 hQ.2.2.1 hM hB hx (show 1 + j < 64 by omega), hf, F_Mod_burntAt_b31, ↓dK_205 hL, ↓dG_205 hL, ↓dP_205 hL, ↓dZ_205 hL (x := nI 0) (Or.inl rfl), ↓dZ_205 hL (x := nI 1) (Or.inr rfl), ↓dZ_205 hL (Or.inl rfl), ↓dZ_205 hL (Or.inr rfl), ↓dZ_205 hL (nB_01 _), ↓dR_205_12 hL, dI_209 hL, dS_209 hL, ↓reduceIte, ↓kq_bi, ↓kq_let, ↓kq_rz0, ↓kq_rz1, ↓kq_rzB, ↓Option.bind_some, kq_dvn, kt_lt, kf_lt, kt_eq, kf_eq, decide_true, decide_false, eq_self, Bool.false_eq_true, Bool.true_eq_false, not_true_eq_false, not_false_eq_true, jU_eq, jU_ne, jU_U, jV_eq, jV_ne, jV_V, kn_lit, kn_add, kn_mul, kn_sdm, kn_sub, kn_div, kn_nsdm, kn_lt, kn_eq, kn_pred, kn_m1, kn_m1', kn_a31, kn_shl, kn_shr, kn_bit, nB_0, nB_1, nB_t, nB_f, Nat.zero_add, Nat.add_zero, Nat.reduceAdd, Nat.reduceMul, Nat.reduceSub, Nat.reducePow]
  · show F_Mod_burntAt_c4 (F_Mod_burntAt_l4 n) 205 (nI x) (nI (s_cnt (s_ft τ r β x) (2 ^ τ 0 1 - 1))) (nI (1 + (2 ^ τ 0 1 - 1))) (jz_I h I) = some (nI (s_bt τ r β x), jz_I h I)
    unfold F_Mod_burntAt_c4
    simp (disch := omega) only [hQ.1.1.1, Nat.one_mul, ↓dK_205 hL, ↓dG_205 hL, ↓dP_205 hL, ↓dZ_205 hL (x := nI 0) (Or.inl rfl), ↓dZ_205 hL (x := nI 1) (Or.inr rfl), ↓dZ_205 hL (Or.inl rfl), ↓dZ_205 hL (Or.inr rfl), ↓dZ_205 hL (nB_01 _), ↓dR_205_12 hL, dI_209 hL, dS_209 hL, ↓reduceIte, ↓kq_bi, ↓kq_let, ↓kq_rz0, ↓kq_rz1, ↓kq_rzB, ↓Option.bind_some, kq_dvn, kt_lt, kf_lt, kt_eq, kf_eq, decide_true, decide_false, eq_self, Bool.false_eq_true, Bool.true_eq_false, not_true_eq_false, not_false_eq_true, jU_eq, jU_ne, jU_U, jV_eq, jV_ne, jV_V, kn_lit, kn_add, kn_mul, kn_sdm, kn_sub, kn_div, kn_nsdm, kn_lt, kn_eq, kn_pred, kn_m1, kn_m1', kn_a31, kn_shl, kn_shr, kn_bit, nB_0, nB_1, nB_t, nB_f, Nat.zero_add, Nat.add_zero, Nat.reduceAdd, Nat.reduceMul, Nat.reduceSub, Nat.reducePow]
    rfl
theorem m_burnt (hL : jLay t u l m b c h) (hQ : jQM I τ ω r) (hM : jMB I β) (hB : jBOK τ β) {x : Nat} (hx : x < τ 0 0) : ∃ J, F_Mod_burnt 205 (nI x) (jz_I h I) = some (nI (s_bt τ r β x), jz_I h J) ∧ jN I J := by
  have N0 := jN_0 hQ
  have hQ0 := jN_QM N0 hQ
  refine ⟨_, ?_, N0⟩
  unfold F_Mod_burnt
  simp (disch := omega) only [m_isGate hL hQ0.1.1 hQ.1.2.1 hx, m_bad0 hL N0.2.2.2, F_Mod_burnt_b19, m_burntAt hL hQ0 (jMB_N N0 hB hM) hB hx, ↓dK_205 hL, ↓dG_205 hL, ↓dP_205 hL, ↓dZ_205 hL (x := nI 0) (Or.inl rfl), ↓dZ_205 hL (x := nI 1) (Or.inr rfl), ↓dZ_205 hL (Or.inl rfl), ↓dZ_205 hL (Or.inr rfl), ↓dZ_205 hL (nB_01 _), ↓reduceIte, ↓kq_bi, ↓kq_let, ↓kq_rz0, ↓kq_rz1, ↓kq_rzB, ↓Option.bind_some, kq_dvn, kt_lt, kf_lt, kt_eq, kf_eq, decide_true, decide_false, eq_self, Bool.false_eq_true, Bool.true_eq_false, not_true_eq_false, not_false_eq_true, jU_eq, jU_ne, jU_U, jV_eq, jV_ne, jV_V, kn_lit, kn_add, kn_mul, kn_sdm, kn_sub, kn_div, kn_nsdm, kn_lt, kn_eq, kn_pred, kn_m1, kn_m1', kn_a31, kn_shl, kn_shr, kn_bit, nB_0, nB_1, nB_t, nB_f, Nat.zero_add, Nat.add_zero, Nat.reduceAdd, Nat.reduceMul, Nat.reduceSub, Nat.reducePow]
end

/-! PLAIN LEAN, 25: nose -/
/-- the gate x and the set 1 + j fit, and it smells v at gate g -/
def s_tp (τ : JTn) (r : JRw) (β : JBk) (g v x j : Nat) : Bool := s_ft τ r β x j && decide ((if s_st τ r x = g then s_scs τ (1 + j) else 0) = v)
def s_tl (τ : JTn) (r : JRw) (β : JBk) (g v x j : Nat) : Nat := s_sum (fun x => s_cnt (s_tp τ r β g v x) (2 ^ τ 0 1 - 1)) x + s_cnt (s_tp τ r β g v x) j
def s_tly (τ : JTn) (r : JRw) (β : JBk) (g v : Nat) : Nat := s_sum (fun x => s_cnt (s_tp τ r β g v x) (2 ^ τ 0 1 - 1)) (τ 0 0)
def s_wm (f : Nat → Nat) : Nat → Nat
  | 0 => 0
  | n + 1 => if s_wm f n < f n then f n else s_wm f n
def s_wst (τ : JTn) (r : JRw) (β : JBk) (g : Nat) : Nat := s_wm (s_tly τ r β g) 32
def s_nsu (w : Nat) (g : Nat) (s : Option (Nat × Nat)) : Option (Nat × Nat) := match s with
  | none => some (g, w)
  | some q => if w < q.2 then some (g, w) else some q
def s_ns (τ : JTn) (r : JRw) (β : JBk) : Nat → Option (Nat × Nat)
  | 0 => none
  | g + 1 => if (s_sm β.2 g β.1).isSome = true then s_ns τ r β g else s_nsu (s_wst τ r β g) g (s_ns τ r β g)
def s_nose (τ : JTn) (r : JRw) (β : JBk) (w : Bool) : Int32 := if w = true then nP2 (s_ns τ r β (τ 0 0)) else nP1 (s_ns τ r β (τ 0 0))
/-- all but the scene, a law's stack and a book's tally -/
def jSb (l b : Nat) (I J : Nat → Nat → Int32) : Prop := ∀ a, ¬ (85 ≤ a ∧ a < 90) → ¬ a = l + 2 → ¬ a = b + 2 → J a = I a
section
variable {t u l m b c : Nat} {h : LH} {I J K : Nat → Nat → Int32} {τ : JTn} {r q : JRw} {σ ρ i : Nat} {Q : Type} {x : Int32} {d : Bool} {ω : JLw} {f : Nat → Int32} {β : JBk}
theorem ji_congr {a b : Prop} [Decidable a] [Decidable b] (h : a ↔ b) {x y : Nat} : (if a then x else y) = (if b then x else y) := by
  by_cases ha : a
  · rw [if_pos ha, if_pos (h.mp ha)]
  · rw [if_neg ha, if_neg (fun z => ha (h.mpr z))]
theorem s_tl_le (ho : jTOK τ) {g v x j : Nat} (hx : x ≤ 9) (hj : j ≤ 63) : s_tl τ r β g v x j ≤ 700 := by
  have h1 := s_sum_le (f := fun x => s_cnt (s_tp τ r β g v x) (2 ^ τ 0 1 - 1)) (c := 63) x (fun k _ => Nat.le_trans (s_cnt_le _ _) (by have := (s_2w ho).2; omega))
  have h2 := s_cnt_le (s_tp τ r β g v x) j
  unfold s_tl
  omega
theorem s_tly_le (ho : jTOK τ) {g v : Nat} : s_tly τ r β g v ≤ 700 := by
  have h1 := s_sum_le (f := fun x => s_cnt (s_tp τ r β g v x) (2 ^ τ 0 1 - 1)) (c := 63) (τ 0 0) (fun k _ => Nat.le_trans (s_cnt_le _ _) (by have := (s_2w ho).2; omega))
  have := ho.1
  unfold s_tly
  omega
theorem s_wm_le {f : Nat → Nat} {c : Nat} (hf : ∀ k, f k ≤ c) : ∀ n, s_wm f n ≤ c
  | 0 => Nat.zero_le c
  | n + 1 => by
    have := s_wm_le hf n
    have := hf n
    show (if _ then _ else _) ≤ c
    split <;> omega
theorem s_tl_n {g v x : Nat} : s_tl τ r β g v x (2 ^ τ 0 1 - 1) = s_tl τ r β g v (x + 1) 0 := rfl
theorem s_tl_s {g v x j : Nat} : s_tl τ r β g v x (j + 1) = s_tl τ r β g v x j + (if s_tp τ r β g v x j = true then 1 else 0) := (Nat.add_assoc _ _ _).symm
theorem jSb_trans (h1 : jSb l b I J) (h2 : jSb l b J K) : jSb l b I K := fun a x y z => (h2 a x y z).trans (h1 a x y z)
theorem jQC_Sb (hL : jLay t u l m b c h) (hS : jSb l b I J) (hC : jCS J 85 τ false r) (hQ : jQC I t l τ ω r) : jQC J t l τ ω r := by
  have ht := jLay_t hL
  have hl := jLay_l hL
  have hb := jLay_b hL
  refine ⟨⟨jCT_congr (fun i hi => hS _ (by omega) (by omega) (by omega)) hQ.1.1, hQ.1.2.1, ⟨?_, fun k hk => ?_⟩, hQ.1.2.2.2⟩, hC, hQ.2.2⟩
  · rw [hS l (by omega) (by omega) (by omega)]; exact hQ.1.2.2.1.1
  · rw [hS (l + 1) (by omega) (by omega) (by omega)]; exact hQ.1.2.2.1.2 k hk
theorem jCB_Sb (hL : jLay t u l m b c h) (hS : jSb l b I J) (hC : jCB I b β) : jCB J b β := by
  have hb := jLay_b hL
  have hl := jLay_l hL
  exact ⟨by rw [hS b (by omega) (by omega) (by omega)]; exact hC.1, fun g hg => by rw [hS (b + 1) (by omega) (by omega) (by omega)]; exact hC.2 g hg⟩
theorem c_tallyFit (hL : jLay t u l m b c h) (hT : jCT I t τ) (ho : jTOK τ) {st sm : Nat} (h1 : st < τ 0 0) (h2 : sm < 32) {F : Nat → Nat → Nat} (hF : ∀ g v, g < τ 0 0 → v < 32 → I (b + 2) (g * 32 + v) = nI (F g v)) : ∃ J, F_Book_tallyFit b t (nI st) (nI sm) (jz_I h I) = some (jz_I h J) ∧ (∀ g v, g < τ 0 0 → v < 32 → J (b + 2) (g * 32 + v) = nI (F g v + (if (if st = g then sm else 0) = v then 1 else 0))) ∧ ∀ a, ¬ a = b + 2 → J a = I a := by
  have ht := jLay_t hL
  have hb := jLay_b hL
  have o0 : τ 0 0 ≤ 9 := ho.1
  refine jE_n (fun P hP => ?_)
  unfold F_Book_tallyFit
  refine (jU_id (I := I) (a := b + 2)) ▸ jW_for0 (f := fun fuel g (f : Nat → Int32) => F_Book_tallyFit_l3 fuel b t (nI st) (nI sm) (nI g) (jz_I h (jU I (b + 2) f))) (τ 0 0) (fun k f => ∀ g v, g < τ 0 0 → v < 32 → f (g * 32 + v) = nI (F g v + (if g < k ∧ (if st = g then sm else 0) = v then 1 else 0))) (I (b + 2)) (fun g v hg hv => by rw [hF g v hg hv, if_neg (by omega), Nat.add_zero]) (by omega) (fun n k f hk hV ih => ?_) (fun n f hV => ?_)
  · have hTU : ∀ f, jCT (jU I (b + 2) f) t τ := fun f => jCT_congr (fun i hi => jU_ne (by omega)) hT
    show jW (F_Book_tallyFit_c3 (F_Book_tallyFit_l3 n) b t (nI st) (nI sm) (nI k) (jz_I h (jU I (b + 2) f))) P
    unfold F_Book_tallyFit_c3
    have key : ∀ s, s < 32 → s = (if st = k then sm else 0) → jW (F_Book_tallyFit_b23 (F_Book_tallyFit_l3 n) b t (nI st) (nI sm) (nI k) (nI s) (jz_I h (jU I (b + 2) f))) P := fun s hs hse => by
      have e := hV k s hk hs
      rw [if_neg (by omega), Nat.add_zero] at e
      unfold F_Book_tallyFit_b23
      simp (disch := omega) only [e, F_Book_tallyFit_b54, ↓dK_B hL hb, ↓dG_B hL hb, ↓dP_B hL hb, ↓dR_B_1 hL hb, dI_B2 hL hb, dS_B2 hL hb, ↓reduceIte, ↓kq_bi, ↓kq_let, ↓kq_rz0, ↓kq_rz1, ↓kq_rzB, ↓Option.bind_some, kq_dvn, kt_lt, kf_lt, kt_eq, kf_eq, decide_true, decide_false, eq_self, Bool.false_eq_true, Bool.true_eq_false, not_true_eq_false, not_false_eq_true, jU_eq, jU_ne, jU_U, jV_eq, jV_ne, jV_V, kn_lit, kn_add, kn_mul, kn_sdm, kn_sub, kn_div, kn_nsdm, kn_lt, kn_eq, kn_pred, kn_m1, kn_m1', kn_a31, kn_shl, kn_shr, kn_bit, nB_0, nB_1, nB_t, nB_f, Nat.zero_add, Nat.add_zero, Nat.reduceAdd, Nat.reduceMul, Nat.reduceSub, Nat.reducePow]
      refine ih _ (fun g v hg hv => ?_)
      by_cases hi : g * 32 + v = k * 32 + s
      · have hgk : g = k := by omega
        have hvs : v = s := by omega
        subst hgk hvs
        rw [jV_eq, if_pos ⟨by omega, hse.symm⟩]
      · rw [jV_ne hi, hV g v hg hv]
        congr 2
        refine ji_congr ?_
        constructor
        · rintro ⟨a1, a2⟩; exact ⟨by omega, a2⟩
        · rintro ⟨a1, a2⟩
          refine ⟨?_, a2⟩
          by_cases hgk : g = k
          · subst hgk
            rw [← hse] at a2
            subst a2
            exact absurd rfl hi
          · omega
    by_cases hc : k = st
    · simp (disch := omega) only [cT_f0 (hTU _), hc, ↓dK_T hL ht, ↓dG_T hL ht, ↓dP_T hL ht, ↓reduceIte, ↓kq_bi, ↓kq_let, ↓kq_rz0, ↓kq_rz1, ↓kq_rzB, ↓Option.bind_some, kq_dvn, kt_lt, kf_lt, kt_eq, kf_eq, decide_true, decide_false, eq_self, Bool.false_eq_true, Bool.true_eq_false, not_true_eq_false, not_false_eq_true, jU_eq, jU_ne, jU_U, jV_eq, jV_ne, jV_V, kn_lit, kn_add, kn_mul, kn_sdm, kn_sub, kn_div, kn_nsdm, kn_lt, kn_eq, kn_pred, kn_m1, kn_m1', kn_a31, kn_shl, kn_shr, kn_bit, nB_0, nB_1, nB_t, nB_f, Nat.zero_add, Nat.add_zero, Nat.reduceAdd, Nat.reduceMul, Nat.reduceSub, Nat.reducePow]
      subst hc
      exact key sm h2 (by rw [if_pos rfl])
    · simp (disch := omega) only [cT_f0 (hTU _), ↓dK_T hL ht, ↓dG_T hL ht, ↓dP_T hL ht, ↓reduceIte, ↓kq_bi, ↓kq_let, ↓kq_rz0, ↓kq_rz1, ↓kq_rzB, ↓Option.bind_some, kq_dvn, kt_lt, kf_lt, kt_eq, kf_eq, decide_true, decide_false, eq_self, Bool.false_eq_true, Bool.true_eq_false, not_true_eq_false, not_false_eq_true, jU_eq, jU_ne, jU_U, jV_eq, jV_ne, jV_V, kn_lit, kn_add, kn_mul, kn_sdm, kn_sub, kn_div, kn_nsdm, kn_lt, kn_eq, kn_pred, kn_m1, kn_m1', kn_a31, kn_shl, kn_shr, kn_bit, nB_0, nB_1, nB_t, nB_f, Nat.zero_add, Nat.add_zero, Nat.reduceAdd, Nat.reduceMul, Nat.reduceSub, Nat.reducePow]
      exact key 0 (by omega) (by rw [if_neg (fun z => hc z.symm)])
  · have hTU : ∀ f, jCT (jU I (b + 2) f) t τ := fun f => jCT_congr (fun i hi => jU_ne (by omega)) hT
    show jW (F_Book_tallyFit_c3 (F_Book_tallyFit_l3 n) b t (nI st) (nI sm) (nI (τ 0 0)) (jz_I h (jU I (b + 2) f))) P
    unfold F_Book_tallyFit_c3
    simp (disch := omega) only [cT_f0 (hTU _), ↓dK_T hL ht, ↓dG_T hL ht, ↓dP_T hL ht, ↓reduceIte, ↓kq_bi, ↓kq_let, ↓kq_rz0, ↓kq_rz1, ↓kq_rzB, ↓Option.bind_some, kq_dvn, kt_lt, kf_lt, kt_eq, kf_eq, decide_true, decide_false, eq_self, Bool.false_eq_true, Bool.true_eq_false, not_true_eq_false, not_false_eq_true, jU_eq, jU_ne, jU_U, jV_eq, jV_ne, jV_V, kn_lit, kn_add, kn_mul, kn_sdm, kn_sub, kn_div, kn_nsdm, kn_lt, kn_eq, kn_pred, kn_m1, kn_m1', kn_a31, kn_shl, kn_shr, kn_bit, nB_0, nB_1, nB_t, nB_f, Nat.zero_add, Nat.add_zero, Nat.reduceAdd, Nat.reduceMul, Nat.reduceSub, Nat.reducePow]
    refine jW_s (hP _ ⟨fun g v hg hv => ?_, fun a ha => jU_ne ha⟩)
    rw [jU_eq, hV g v hg hv]
    congr 2
    exact ji_congr ⟨fun z => z.2, fun z => ⟨hg, z⟩⟩
theorem c_tally (hL : jLay t u l m b c h) (hQ : jQC I t l τ ω r) (hC : jCB I b β) (hB : jBOK τ β) : ∃ J, F_Book_tallySmells b 85 (jz_I h I) = some (jz_I h J) ∧ (jCS J 85 τ false r ∧ jSb l b I J) ∧ ∀ g v, g < τ 0 0 → v < 32 → J (b + 2) (g * 32 + v) = nI (s_tly τ r β g v) := by
  have ht := jLay_t hL
  have hb := jLay_b hL
  have ho := hQ.1.2.1
  have o0 : τ 0 0 ≤ 9 := ho.1
  have o1 : τ 0 1 ≤ 6 := ho.2.1
  obtain ⟨p1, p2⟩ := s_2w ho
  refine jE_n (fun P hP => ?_)
  unfold F_Book_tallySmells
  have hal : ∀ {K : Nat → Nat → Int32} {G : Int32 → Option LH}, jf_al (jz_I h K) (b + 2) G = G (nI 288) := fun {K G} => by
    unfold jf_al
    rw [if_pos (Or.inl (by rw [show jl_kd (jz_I h K) (b + 2) = 20 from lk_B2 hL hb]; decide)), show jl_ln (jz_I h K) (b + 2) = 288 from ll_B2 hL hb]
    rfl
  refine (jU_id (I := I) (a := b + 2)) ▸ jW_for0 (f := fun fuel k (f : Nat → Int32) => F_Book_tallySmells_l2 fuel b 85 (nI k) (jz_I h (jU I (b + 2) f))) 288 (fun k f => ∀ i, i < k → f i = nI 0) (I (b + 2)) (fun i hi => absurd hi (Nat.not_lt_zero i)) (by omega) (fun n k f hk hV ih => ?_) (fun n f hV => ?_)
  · show jW (F_Book_tallySmells_c2 (F_Book_tallySmells_l2 n) b 85 (nI k) (jz_I h (jU I (b + 2) f))) P
    unfold F_Book_tallySmells_c2
    simp (disch := omega) only [hal, ↓dK_B hL hb, ↓dG_B hL hb, ↓dP_B hL hb, ↓dR_B_1 hL hb, dI_B2 hL hb, dS_B2 hL hb, ↓reduceIte, ↓kq_bi, ↓kq_let, ↓kq_rz0, ↓kq_rz1, ↓kq_rzB, ↓Option.bind_some, kq_dvn, kt_lt, kf_lt, kt_eq, kf_eq, decide_true, decide_false, eq_self, Bool.false_eq_true, Bool.true_eq_false, not_true_eq_false, not_false_eq_true, jU_eq, jU_ne, jU_U, jV_eq, jV_ne, jV_V, kn_lit, kn_add, kn_mul, kn_sdm, kn_sub, kn_div, kn_nsdm, kn_lt, kn_eq, kn_pred, kn_m1, kn_m1', kn_a31, kn_shl, kn_shr, kn_bit, nB_0, nB_1, nB_t, nB_f, Nat.zero_add, Nat.add_zero, Nat.reduceAdd, Nat.reduceMul, Nat.reduceSub, Nat.reducePow]
    refine ih _ (fun i hi => ?_)
    by_cases hik : i = k
    · rw [hik, jV_eq]
    · rw [jV_ne hik]; exact hV i (by omega)
  · show jW (F_Book_tallySmells_c2 (F_Book_tallySmells_l2 n) b 85 (nI 288) (jz_I h (jU I (b + 2) f))) P
    unfold F_Book_tallySmells_c2
    simp (disch := omega) only [hal, ↓dK_B hL hb, ↓dG_B hL hb, ↓dP_B hL hb, ↓dR_B_1 hL hb, dI_B2 hL hb, dS_B2 hL hb, ↓reduceIte, ↓kq_bi, ↓kq_let, ↓kq_rz0, ↓kq_rz1, ↓kq_rzB, ↓Option.bind_some, kq_dvn, kt_lt, kf_lt, kt_eq, kf_eq, decide_true, decide_false, eq_self, Bool.false_eq_true, Bool.true_eq_false, not_true_eq_false, not_false_eq_true, jU_eq, jU_ne, jU_U, jV_eq, jV_ne, jV_V, kn_lit, kn_add, kn_mul, kn_sdm, kn_sub, kn_div, kn_nsdm, kn_lt, kn_eq, kn_pred, kn_m1, kn_m1', kn_a31, kn_shl, kn_shr, kn_bit, nB_0, nB_1, nB_t, nB_f, Nat.zero_add, Nat.add_zero, Nat.reduceAdd, Nat.reduceMul, Nat.reduceSub, Nat.reducePow]
    refine jW_for0 (f := fun fuel x (J : Nat → Nat → Int32) => F_Book_tallySmells_l26 fuel b 85 (nI x) (jz_I h J)) (τ 0 0) (fun x J => (jCS J 85 τ false r ∧ jSb l b I J) ∧ ∀ g v, g < τ 0 0 → v < 32 → J (b + 2) (g * 32 + v) = nI (s_tl τ r β g v x 0)) (jU I (b + 2) f) ⟨⟨jCS_congr (fun a h1 h2 => jU_ne (by omega)) hQ.2.1, fun a _ _ h3 => jU_ne h3⟩, fun g v hg hv => by rw [jU_eq, hV _ (by omega)]; rfl⟩ (by omega) (fun n x J hx hV ih => ?_) (fun n J hV => ?_)
    · obtain ⟨⟨v1, v2⟩, v3⟩ := hV
      have hQ' := jQC_Sb hL v2 v1 hQ
      show jW (F_Book_tallySmells_c26 (F_Book_tallySmells_l26 n) b 85 (nI x) (jz_I h J)) P
      unfold F_Book_tallySmells_c26
      simp (disch := omega) only [↓dR_85_1 hL, cT_f0 hQ'.1.1, ↓dR_64_2 hL, ↓dK_85 hL, ↓dG_85 hL, ↓dP_85 hL, ↓dZ_85 hL (x := nI 0) (Or.inl rfl), ↓dZ_85 hL (x := nI 1) (Or.inr rfl), ↓dZ_85 hL (Or.inl rfl), ↓dZ_85 hL (Or.inr rfl), ↓dZ_85 hL (nB_01 _), ↓dK_T hL ht, ↓dG_T hL ht, ↓dP_T hL ht, ↓reduceIte, ↓kq_bi, ↓kq_let, ↓kq_rz0, ↓kq_rz1, ↓kq_rzB, ↓Option.bind_some, kq_dvn, kt_lt, kf_lt, kt_eq, kf_eq, decide_true, decide_false, eq_self, Bool.false_eq_true, Bool.true_eq_false, not_true_eq_false, not_false_eq_true, jU_eq, jU_ne, jU_U, jV_eq, jV_ne, jV_V, kn_lit, kn_add, kn_mul, kn_sdm, kn_sub, kn_div, kn_nsdm, kn_lt, kn_eq, kn_pred, kn_m1, kn_m1', kn_a31, kn_shl, kn_shr, kn_bit, nB_0, nB_1, nB_t, nB_f, Nat.zero_add, Nat.add_zero, Nat.reduceAdd, Nat.reduceMul, Nat.reduceSub, Nat.reducePow]
      refine jW_bi (c_standsAt hL hQ'.1 (Or.inl rfl) v1 hQ.2.2.1 hx) (fun J1 hJ1 => ?_)
      have hst : s_st τ r x < τ 0 0 := s_st_lt ho r (g := x) (k := τ 1 x) (by omega)
      have hl := jLay_l hL
      refine jW_for0 (f := fun fuel j (J : Nat → Nat → Int32) => F_Book_tallySmells_l46 (F_Book_tallySmells_l26 n) fuel b 85 (nI x) (nI (s_st τ r x)) (nI (1 + j)) (jz_I h J)) (2 ^ τ 0 1 - 1) (fun j J => (jCS J 85 τ false r ∧ jSb l b I J) ∧ ∀ g v, g < τ 0 0 → v < 32 → J (b + 2) (g * 32 + v) = nI (s_tl τ r β g v x j)) J1 ⟨⟨hJ1.1, jSb_trans v2 (fun a y z _ => hJ1.2 a y z)⟩, fun g v hg hv => by rw [hJ1.2 _ (by omega) (by omega)]; exact v3 g v hg hv⟩ (by omega) (fun n2 j J hj hV ih2 => ?_) (fun n2 J hV => ?_)
      · obtain ⟨⟨w1, w2⟩, w3⟩ := hV
        have hQ2 := jQC_Sb hL w2 w1 hQ
        have hC2 := jCB_Sb hL w2 hC
        have hsc := s_scs_lt (set := 1 + j) ho
        have ef : s_fit β (s_st τ r x) (s_scs τ (1 + j)) = s_ft τ r β x j := rfl
        show jW (F_Book_tallySmells_c46 (F_Book_tallySmells_l26 n) (F_Book_tallySmells_l46 (F_Book_tallySmells_l26 n) n2) b 85 (nI x) (nI (s_st τ r x)) (nI (1 + j)) (jz_I h J)) P
        unfold F_Book_tallySmells_c46
        cases hf : s_ft τ r β x j
        · rw [hf] at ef
          simp (disch := omega) only [↓dR_85_1 hL, cT_f1 hQ2.1.1, Nat.one_mul, c_scentOfSet hL hQ2.1.1 ho (show 1 + j < 64 by omega), c_isFit hL hQ2.1.1 ho hC2 hB (show s_st τ r x < 9 by omega) hsc, ef, F_Book_tallySmells_b96, ↓dR_64_2 hL, ↓dK_85 hL, ↓dG_85 hL, ↓dP_85 hL, ↓dZ_85 hL (x := nI 0) (Or.inl rfl), ↓dZ_85 hL (x := nI 1) (Or.inr rfl), ↓dZ_85 hL (Or.inl rfl), ↓dZ_85 hL (Or.inr rfl), ↓dZ_85 hL (nB_01 _), ↓dK_T hL ht, ↓dG_T hL ht, ↓dP_T hL ht, ↓dK_B hL hb, ↓dG_B hL hb, ↓dP_B hL hb, ↓reduceIte, ↓kq_bi, ↓kq_let, ↓kq_rz0, ↓kq_rz1, ↓kq_rzB, ↓Option.bind_some, kq_dvn, kt_lt, kf_lt, kt_eq, kf_eq, decide_true, decide_false, eq_self, Bool.false_eq_true, Bool.true_eq_false, not_true_eq_false, not_false_eq_true, jU_eq, jU_ne, jU_U, jV_eq, jV_ne, jV_V, kn_lit, kn_add, kn_mul, kn_sdm, kn_sub, kn_div, kn_nsdm, kn_lt, kn_eq, kn_pred, kn_m1, kn_m1', kn_a31, kn_shl, kn_shr, kn_bit, nB_0, nB_1, nB_t, nB_f, Nat.zero_add, Nat.add_zero, Nat.reduceAdd, Nat.reduceMul, Nat.reduceSub, Nat.reducePow]
          refine ih2 J ⟨⟨w1, w2⟩, fun g v hg hv => ?_⟩
          rw [s_tl_s, if_neg (by unfold s_tp; rw [hf, Bool.false_and]; decide)]
          exact w3 g v hg hv
        · rw [hf] at ef
          simp (disch := omega) only [↓dR_85_1 hL, cT_f1 hQ2.1.1, Nat.one_mul, c_scentOfSet hL hQ2.1.1 ho (show 1 + j < 64 by omega), c_isFit hL hQ2.1.1 ho hC2 hB (show s_st τ r x < 9 by omega) hsc, ef, F_Book_tallySmells_b96, ↓dR_64_2 hL, ↓dK_85 hL, ↓dG_85 hL, ↓dP_85 hL, ↓dZ_85 hL (x := nI 0) (Or.inl rfl), ↓dZ_85 hL (x := nI 1) (Or.inr rfl), ↓dZ_85 hL (Or.inl rfl), ↓dZ_85 hL (Or.inr rfl), ↓dZ_85 hL (nB_01 _), ↓dK_T hL ht, ↓dG_T hL ht, ↓dP_T hL ht, ↓dK_B hL hb, ↓dG_B hL hb, ↓dP_B hL hb, ↓reduceIte, ↓kq_bi, ↓kq_let, ↓kq_rz0, ↓kq_rz1, ↓kq_rzB, ↓Option.bind_some, kq_dvn, kt_lt, kf_lt, kt_eq, kf_eq, decide_true, decide_false, eq_self, Bool.false_eq_true, Bool.true_eq_false, not_true_eq_false, not_false_eq_true, jU_eq, jU_ne, jU_U, jV_eq, jV_ne, jV_V, kn_lit, kn_add, kn_mul, kn_sdm, kn_sub, kn_div, kn_nsdm, kn_lt, kn_eq, kn_pred, kn_m1, kn_m1', kn_a31, kn_shl, kn_shr, kn_bit, nB_0, nB_1, nB_t, nB_f, Nat.zero_add, Nat.add_zero, Nat.reduceAdd, Nat.reduceMul, Nat.reduceSub, Nat.reducePow]
          refine jW_bn (c_tallyFit hL hQ2.1.1 ho hst hsc w3) (fun J2 hJ2 => ?_)
          refine ih2 J2 ⟨⟨jCS_congr (fun a a1 a2 => hJ2.2 a (by omega)) w1, jSb_trans w2 (fun a _ _ a3 => hJ2.2 a a3)⟩, fun g v hg hv => ?_⟩
          rw [hJ2.1 g v hg hv, s_tl_s]
          congr 2
          unfold s_tp
          rw [hf, Bool.true_and]
          by_cases hz : (if s_st τ r x = g then s_scs τ (1 + j) else 0) = v
          · rw [if_pos hz, if_pos (decide_eq_true hz)]
          · rw [if_neg hz, if_neg (by rw [decide_eq_false hz]; decide)]
      · obtain ⟨⟨w1, w2⟩, w3⟩ := hV
        have hQ2 := jQC_Sb hL w2 w1 hQ
        show jW (F_Book_tallySmells_c46 (F_Book_tallySmells_l26 n) (F_Book_tallySmells_l46 (F_Book_tallySmells_l26 n) n2) b 85 (nI x) (nI (s_st τ r x)) (nI (1 + (2 ^ τ 0 1 - 1))) (jz_I h J)) P
        unfold F_Book_tallySmells_c46
        simp (disch := omega) only [↓dR_85_1 hL, cT_f1 hQ2.1.1, Nat.one_mul, ↓dR_64_2 hL, ↓dK_85 hL, ↓dG_85 hL, ↓dP_85 hL, ↓dZ_85 hL (x := nI 0) (Or.inl rfl), ↓dZ_85 hL (x := nI 1) (Or.inr rfl), ↓dZ_85 hL (Or.inl rfl), ↓dZ_85 hL (Or.inr rfl), ↓dZ_85 hL (nB_01 _), ↓dK_T hL ht, ↓dG_T hL ht, ↓dP_T hL ht, ↓reduceIte, ↓kq_bi, ↓kq_let, ↓kq_rz0, ↓kq_rz1, ↓kq_rzB, ↓Option.bind_some, kq_dvn, kt_lt, kf_lt, kt_eq, kf_eq, decide_true, decide_false, eq_self, Bool.false_eq_true, Bool.true_eq_false, not_true_eq_false, not_false_eq_true, jU_eq, jU_ne, jU_U, jV_eq, jV_ne, jV_V, kn_lit, kn_add, kn_mul, kn_sdm, kn_sub, kn_div, kn_nsdm, kn_lt, kn_eq, kn_pred, kn_m1, kn_m1', kn_a31, kn_shl, kn_shr, kn_bit, nB_0, nB_1, nB_t, nB_f, Nat.zero_add, Nat.add_zero, Nat.reduceAdd, Nat.reduceMul, Nat.reduceSub, Nat.reducePow]
        exact ih J ⟨⟨w1, w2⟩, fun g v hg hv => by rw [← s_tl_n]; exact w3 g v hg hv⟩
    · obtain ⟨⟨v1, v2⟩, v3⟩ := hV
      have hQ' := jQC_Sb hL v2 v1 hQ
      show jW (F_Book_tallySmells_c26 (F_Book_tallySmells_l26 n) b 85 (nI (τ 0 0)) (jz_I h J)) P
      unfold F_Book_tallySmells_c26
      simp (disch := omega) only [↓dR_85_1 hL, cT_f0 hQ'.1.1, ↓dR_64_2 hL, ↓dK_85 hL, ↓dG_85 hL, ↓dP_85 hL, ↓dZ_85 hL (x := nI 0) (Or.inl rfl), ↓dZ_85 hL (x := nI 1) (Or.inr rfl), ↓dZ_85 hL (Or.inl rfl), ↓dZ_85 hL (Or.inr rfl), ↓dZ_85 hL (nB_01 _), ↓dK_T hL ht, ↓dG_T hL ht, ↓dP_T hL ht, ↓reduceIte, ↓kq_bi, ↓kq_let, ↓kq_rz0, ↓kq_rz1, ↓kq_rzB, ↓Option.bind_some, kq_dvn, kt_lt, kf_lt, kt_eq, kf_eq, decide_true, decide_false, eq_self, Bool.false_eq_true, Bool.true_eq_false, not_true_eq_false, not_false_eq_true, jU_eq, jU_ne, jU_U, jV_eq, jV_ne, jV_V, kn_lit, kn_add, kn_mul, kn_sdm, kn_sub, kn_div, kn_nsdm, kn_lt, kn_eq, kn_pred, kn_m1, kn_m1', kn_a31, kn_shl, kn_shr, kn_bit, nB_0, nB_1, nB_t, nB_f, Nat.zero_add, Nat.add_zero, Nat.reduceAdd, Nat.reduceMul, Nat.reduceSub, Nat.reducePow]
      exact jW_s (hP J ⟨⟨v1, v2⟩, v3⟩)
theorem c_worst (hL : jLay t u l m b c h) (ho : jTOK τ) {g : Nat} (hg : g < 9) (hF : ∀ v, v < 32 → I (b + 2) (g * 32 + v) = nI (s_tly τ r β g v)) : F_Book_worstSmell b (nI g) (jz_I h I) = some (nI (s_wst τ r β g), jz_I h I) := by
  have hb := jLay_b hL
  unfold F_Book_worstSmell s_wst
  refine jz_for (fun fuel v s => F_Book_worstSmell_l4 fuel b (nI g) (nI s) (nI v) (jz_I h I)) 32 (fun v => s_wm (s_tly τ r β g) v) _ (fun n v hv => ?_) (fun n => ?_) jF (by show _ < 1000; omega)
  · have h1 := s_wm_le (f := s_tly τ r β g) (fun _ => s_tly_le ho) v
    have h2 := s_tly_le (r := r) (β := β) (g := g) (v := v) ho
    have e := hF v hv
    show F_Book_worstSmell_c4 (F_Book_worstSmell_l4 n) b (nI g) (nI (s_wm (s_tly τ r β g) v)) (nI v) (jz_I h I) = F_Book_worstSmell_l4 n b (nI g) (nI (if s_wm (s_tly τ r β g) v < s_tly τ r β g v then s_tly τ r β g v else s_wm (s_tly τ r β g) v)) (nI (v + 1)) (jz_I h I)
    unfold F_Book_worstSmell_c4
    by_cases hc : s_wm (s_tly τ r β g) v < s_tly τ r β g v
    · rw [if_pos hc]
      simp (disch := omega) only [e, ↓dK_B hL hb, ↓dG_B hL hb, ↓dP_B hL hb, ↓dR_B_1 hL hb, dI_B2 hL hb, dS_B2 hL hb, ↓reduceIte, ↓kq_bi, ↓kq_let, ↓kq_rz0, ↓kq_rz1, ↓kq_rzB, ↓Option.bind_some, kq_dvn, kt_lt, kf_lt, kt_eq, kf_eq, decide_true, decide_false, eq_self, Bool.false_eq_true, Bool.true_eq_false, not_true_eq_false, not_false_eq_true, jU_eq, jU_ne, jU_U, jV_eq, jV_ne, jV_V, kn_lit, kn_add, kn_mul, kn_sdm, kn_sub, kn_div, kn_nsdm, kn_lt, kn_eq, kn_pred, kn_m1, kn_m1', kn_a31, kn_shl, kn_shr, kn_bit, nB_0, nB_1, nB_t, nB_f, Nat.zero_add, Nat.add_zero, Nat.reduceAdd, Nat.reduceMul, Nat.reduceSub, Nat.reducePow]
    · rw [if_neg hc]
      simp (disch := omega) only [e, ↓dK_B hL hb, ↓dG_B hL hb, ↓dP_B hL hb, ↓dR_B_1 hL hb, dI_B2 hL hb, dS_B2 hL hb, ↓reduceIte, ↓kq_bi, ↓kq_let, ↓kq_rz0, ↓kq_rz1, ↓kq_rzB, ↓Option.bind_some, kq_dvn, kt_lt, kf_lt, kt_eq, kf_eq, decide_true, decide_false, eq_self, Bool.false_eq_true, Bool.true_eq_false, not_true_eq_false, not_false_eq_true, jU_eq, jU_ne, jU_U, jV_eq, jV_ne, jV_V, kn_lit, kn_add, kn_mul, kn_sdm, kn_sub, kn_div, kn_nsdm, kn_lt, kn_eq, kn_pred, kn_m1, kn_m1', kn_a31, kn_shl, kn_shr, kn_bit, nB_0, nB_1, nB_t, nB_f, Nat.zero_add, Nat.add_zero, Nat.reduceAdd, Nat.reduceMul, Nat.reduceSub, Nat.reducePow]
  · show F_Book_worstSmell_c4 (F_Book_worstSmell_l4 n) b (nI g) (nI (s_wm (s_tly τ r β g) 32)) (nI 32) (jz_I h I) = some (nI (s_wm (s_tly τ r β g) 32), jz_I h I)
    generalize s_wm (s_tly τ r β g) 32 = y
    unfold F_Book_worstSmell_c4
    simp (disch := omega) only [↓reduceIte, ↓kq_bi, ↓kq_let, ↓kq_rz0, ↓kq_rz1, ↓kq_rzB, ↓Option.bind_some, kq_dvn, kt_lt, kf_lt, kt_eq, kf_eq, decide_true, decide_false, eq_self, Bool.false_eq_true, Bool.true_eq_false, not_true_eq_false, not_false_eq_true, jU_eq, jU_ne, jU_U, jV_eq, jV_ne, jV_V, kn_lit, kn_add, kn_mul, kn_sdm, kn_sub, kn_div, kn_nsdm, kn_lt, kn_eq, kn_pred, kn_m1, kn_m1', kn_a31, kn_shl, kn_shr, kn_bit, nB_0, nB_1, nB_t, nB_f, Nat.zero_add, Nat.add_zero, Nat.reduceAdd, Nat.reduceMul, Nat.reduceSub, Nat.reducePow]
theorem s_wst_le (ho : jTOK τ) {g : Nat} : s_wst τ r β g ≤ 700 := s_wm_le (fun _ => s_tly_le ho) 32
theorem s_ns_le (ho : jTOK τ) : ∀ n q, s_ns τ r β n = some q → q.1 < n ∧ q.2 ≤ 700
  | 0, q, h => by cases h
  | n + 1, q, h => by
    have ih := s_ns_le ho n
    have h : (if (s_sm β.2 n β.1).isSome = true then s_ns τ r β n else s_nsu (s_wst τ r β n) n (s_ns τ r β n)) = some q := h
    have hw := s_wst_le (r := r) (β := β) (g := n) ho
    by_cases hc : (s_sm β.2 n β.1).isSome = true
    · rw [if_pos hc] at h
      have := ih q h
      exact ⟨by omega, this.2⟩
    · rw [if_neg hc] at h
      cases hs : s_ns τ r β n with
      | none => rw [hs] at h; cases h; exact ⟨Nat.lt_succ_self _, hw⟩
      | some y =>
        rw [hs] at h
        have h : (if s_wst τ r β n < y.2 then some (n, s_wst τ r β n) else some y) = some q := h
        split at h
        · cases h; exact ⟨Nat.lt_succ_self _, hw⟩
        · cases h; have := ih _ hs; exact ⟨by omega, this.2⟩
theorem c_nose (hL : jLay t u l m b c h) (hQ : jQC I t l τ ω r) (hC : jCB I b β) (hB : jBOK τ β) (w : Bool) : ∃ J, F_SG_nose 64 (nB w) (jz_I h I) = some (jo_i (s_nose τ r β w, jz_I h J)) ∧ jCS J 85 τ false r ∧ jSb l b I J := by
  have ht := jLay_t hL
  have hb := jLay_b hL
  have ho := hQ.1.2.1
  have o0 : τ 0 0 ≤ 9 := ho.1
  refine jE_o (fun P hP => ?_)
  have key : jW (F_SG_nose_b15 64 (nB w) 64 (nI 1) (jz_I h I)) P := by
    unfold F_SG_nose_b15
    simp (disch := omega) only [↓dR_64_12 hL, c_need1, kq_th, ↓dK_64 hL, ↓dG_64 hL, ↓dP_64 hL, ↓dR_64_2 hL, ↓dK_85 hL, ↓dG_85 hL, ↓dP_85 hL, ↓dZ_85 hL (x := nI 0) (Or.inl rfl), ↓dZ_85 hL (x := nI 1) (Or.inr rfl), ↓dZ_85 hL (Or.inl rfl), ↓dZ_85 hL (Or.inr rfl), ↓dZ_85 hL (nB_01 _), ↓dK_B hL hb, ↓dG_B hL hb, ↓dP_B hL hb, ↓reduceIte, ↓kq_bi, ↓kq_let, ↓kq_rz0, ↓kq_rz1, ↓kq_rzB, ↓Option.bind_some, kq_dvn, kt_lt, kf_lt, kt_eq, kf_eq, decide_true, decide_false, eq_self, Bool.false_eq_true, Bool.true_eq_false, not_true_eq_false, not_false_eq_true, jU_eq, jU_ne, jU_U, jV_eq, jV_ne, jV_V, kn_lit, kn_add, kn_mul, kn_sdm, kn_sub, kn_div, kn_nsdm, kn_lt, kn_eq, kn_pred, kn_m1, kn_m1', kn_a31, kn_shl, kn_shr, kn_bit, nB_0, nB_1, nB_t, nB_f, Nat.zero_add, Nat.add_zero, Nat.reduceAdd, Nat.reduceMul, Nat.reduceSub, Nat.reducePow]
    refine jW_bn (c_tally hL hQ hC hB) (fun J hJ => ?_)
    obtain ⟨⟨v1, v2⟩, v3⟩ := hJ
    have hQ' := jQC_Sb hL v2 v1 hQ
    have hC' := jCB_Sb hL v2 hC
    refine jW_e (jz_forI (fun fuel g (s : Option (Nat × Nat)) => F_SG_nose_l36 fuel 64 (nB w) (nP1 s) (nP2 s) (nI g) (jz_I h J)) (τ 0 0) (fun g => s_ns τ r β g) _ (s0 := none) rfl (fun n g hg => ?_) (fun n => ?_) jF (by show _ < 1000; omega)) (hP J ⟨v1, v2⟩)
    · have hw := s_wst_le (r := r) (β := β) (g := g) ho
      have hn := s_ns_le (r := r) (β := β) ho g
      have cw := c_worst hL (τ := τ) (r := r) (β := β) ho (show g < 9 by omega) (fun v hv => v3 g v hg hv)
      show F_SG_nose_c36 (F_SG_nose_l36 n) 64 (nB w) (nP1 (s_ns τ r β g)) (nP2 (s_ns τ r β g)) (nI g) (jz_I h J) = F_SG_nose_l36 n 64 (nB w) (nP1 (if (s_sm β.2 g β.1).isSome = true then s_ns τ r β g else s_nsu (s_wst τ r β g) g (s_ns τ r β g))) (nP2 (if (s_sm β.2 g β.1).isSome = true then s_ns τ r β g else s_nsu (s_wst τ r β g) g (s_ns τ r β g))) (nI (g + 1)) (jz_I h J)
      unfold F_SG_nose_c36
      cases hs : (s_sm β.2 g β.1).isSome
      · rw [if_neg (show ¬ false = true by decide)]
        generalize s_ns τ r β g = s at hn ⊢
        cases s with
        | none =>
          simp only [nP1, nP2, s_nsu, Option.elim_none, Option.elim_some]
          simp (disch := omega) only [↓dR_85_1 hL, ↓dR_64_12 hL, cT_f0 hQ'.1.1, cw, c_has hL hC' hB, hs, F_SG_nose_b85, F_SG_nose_b91, ↓dK_64 hL, ↓dG_64 hL, ↓dP_64 hL, ↓dR_64_2 hL, ↓dK_85 hL, ↓dG_85 hL, ↓dP_85 hL, ↓dZ_85 hL (x := nI 0) (Or.inl rfl), ↓dZ_85 hL (x := nI 1) (Or.inr rfl), ↓dZ_85 hL (Or.inl rfl), ↓dZ_85 hL (Or.inr rfl), ↓dZ_85 hL (nB_01 _), ↓dK_T hL ht, ↓dG_T hL ht, ↓dP_T hL ht, ↓dK_B hL hb, ↓dG_B hL hb, ↓dP_B hL hb, ↓reduceIte, ↓kq_bi, ↓kq_let, ↓kq_rz0, ↓kq_rz1, ↓kq_rzB, ↓Option.bind_some, kq_dvn, kt_lt, kf_lt, kt_eq, kf_eq, decide_true, decide_false, eq_self, Bool.false_eq_true, Bool.true_eq_false, not_true_eq_false, not_false_eq_true, jU_eq, jU_ne, jU_U, jV_eq, jV_ne, jV_V, kn_lit, kn_add, kn_mul, kn_sdm, kn_sub, kn_div, kn_nsdm, kn_lt, kn_eq, kn_pred, kn_m1, kn_m1', kn_a31, kn_shl, kn_shr, kn_bit, nB_0, nB_1, nB_t, nB_f, Nat.zero_add, Nat.add_zero, Nat.reduceAdd, Nat.reduceMul, Nat.reduceSub, Nat.reducePow]
        | some y =>
          obtain ⟨y1, y2⟩ := hn y rfl
          by_cases hc : s_wst τ r β g < y.2
          · simp only [nP1, nP2, s_nsu, Option.elim_some, hc, if_true]
            simp (disch := omega) only [↓dR_85_1 hL, ↓dR_64_12 hL, cT_f0 hQ'.1.1, cw, c_has hL hC' hB, hs, F_SG_nose_b85, F_SG_nose_b91, ↓dK_64 hL, ↓dG_64 hL, ↓dP_64 hL, ↓dR_64_2 hL, ↓dK_85 hL, ↓dG_85 hL, ↓dP_85 hL, ↓dZ_85 hL (x := nI 0) (Or.inl rfl), ↓dZ_85 hL (x := nI 1) (Or.inr rfl), ↓dZ_85 hL (Or.inl rfl), ↓dZ_85 hL (Or.inr rfl), ↓dZ_85 hL (nB_01 _), ↓dK_T hL ht, ↓dG_T hL ht, ↓dP_T hL ht, ↓dK_B hL hb, ↓dG_B hL hb, ↓dP_B hL hb, ↓reduceIte, ↓kq_bi, ↓kq_let, ↓kq_rz0, ↓kq_rz1, ↓kq_rzB, ↓Option.bind_some, kq_dvn, kt_lt, kf_lt, kt_eq, kf_eq, decide_true, decide_false, eq_self, Bool.false_eq_true, Bool.true_eq_false, not_true_eq_false, not_false_eq_true, jU_eq, jU_ne, jU_U, jV_eq, jV_ne, jV_V, kn_lit, kn_add, kn_mul, kn_sdm, kn_sub, kn_div, kn_nsdm, kn_lt, kn_eq, kn_pred, kn_m1, kn_m1', kn_a31, kn_shl, kn_shr, kn_bit, nB_0, nB_1, nB_t, nB_f, Nat.zero_add, Nat.add_zero, Nat.reduceAdd, Nat.reduceMul, Nat.reduceSub, Nat.reducePow]
          · simp only [nP1, nP2, s_nsu, Option.elim_some, hc, if_false]
            simp (disch := omega) only [↓dR_85_1 hL, ↓dR_64_12 hL, cT_f0 hQ'.1.1, cw, c_has hL hC' hB, hs, F_SG_nose_b85, F_SG_nose_b91, ↓dK_64 hL, ↓dG_64 hL, ↓dP_64 hL, ↓dR_64_2 hL, ↓dK_85 hL, ↓dG_85 hL, ↓dP_85 hL, ↓dZ_85 hL (x := nI 0) (Or.inl rfl), ↓dZ_85 hL (x := nI 1) (Or.inr rfl), ↓dZ_85 hL (Or.inl rfl), ↓dZ_85 hL (Or.inr rfl), ↓dZ_85 hL (nB_01 _), ↓dK_T hL ht, ↓dG_T hL ht, ↓dP_T hL ht, ↓dK_B hL hb, ↓dG_B hL hb, ↓dP_B hL hb, ↓reduceIte, ↓kq_bi, ↓kq_let, ↓kq_rz0, ↓kq_rz1, ↓kq_rzB, ↓Option.bind_some, kq_dvn, kt_lt, kf_lt, kt_eq, kf_eq, decide_true, decide_false, eq_self, Bool.false_eq_true, Bool.true_eq_false, not_true_eq_false, not_false_eq_true, jU_eq, jU_ne, jU_U, jV_eq, jV_ne, jV_V, kn_lit, kn_add, kn_mul, kn_sdm, kn_sub, kn_div, kn_nsdm, kn_lt, kn_eq, kn_pred, kn_m1, kn_m1', kn_a31, kn_shl, kn_shr, kn_bit, nB_0, nB_1, nB_t, nB_f, Nat.zero_add, Nat.add_zero, Nat.reduceAdd, Nat.reduceMul, Nat.reduceSub, Nat.reducePow]
      · rw [if_pos (show true = true from rfl)]
        simp (disch := omega) only [↓dR_85_1 hL, ↓dR_64_12 hL, cT_f0 hQ'.1.1, cw, c_has hL hC' hB, hs, F_SG_nose_b91, ↓dK_64 hL, ↓dG_64 hL, ↓dP_64 hL, ↓dR_64_2 hL, ↓dK_85 hL, ↓dG_85 hL, ↓dP_85 hL, ↓dZ_85 hL (x := nI 0) (Or.inl rfl), ↓dZ_85 hL (x := nI 1) (Or.inr rfl), ↓dZ_85 hL (Or.inl rfl), ↓dZ_85 hL (Or.inr rfl), ↓dZ_85 hL (nB_01 _), ↓dK_T hL ht, ↓dG_T hL ht, ↓dP_T hL ht, ↓dK_B hL hb, ↓dG_B hL hb, ↓dP_B hL hb, ↓reduceIte, ↓kq_bi, ↓kq_let, ↓kq_rz0, ↓kq_rz1, ↓kq_rzB, ↓Option.bind_some, kq_dvn, kt_lt, kf_lt, kt_eq, kf_eq, decide_true, decide_false, eq_self, Bool.false_eq_true, Bool.true_eq_false, not_true_eq_false, not_false_eq_true, jU_eq, jU_ne, jU_U, jV_eq, jV_ne, jV_V, kn_lit, kn_add, kn_mul, kn_sdm, kn_sub, kn_div, kn_nsdm, kn_lt, kn_eq, kn_pred, kn_m1, kn_m1', kn_a31, kn_shl, kn_shr, kn_bit, nB_0, nB_1, nB_t, nB_f, Nat.zero_add, Nat.add_zero, Nat.reduceAdd, Nat.reduceMul, Nat.reduceSub, Nat.reducePow]
    · show F_SG_nose_c36 (F_SG_nose_l36 n) 64 (nB w) (nP1 (s_ns τ r β (τ 0 0))) (nP2 (s_ns τ r β (τ 0 0))) (nI (τ 0 0)) (jz_I h J) = some (jo_i (s_nose τ r β w, jz_I h J))
      unfold F_SG_nose_c36 s_nose
      generalize s_ns τ r β (τ 0 0) = s
      cases w
      · rw [if_neg (show ¬ false = true by decide)]
        simp (disch := omega) only [↓dR_85_1 hL, cT_f0 hQ'.1.1, F_SG_nose_b106, ↓dK_64 hL, ↓dG_64 hL, ↓dP_64 hL, ↓dR_64_2 hL, ↓dK_85 hL, ↓dG_85 hL, ↓dP_85 hL, ↓dZ_85 hL (x := nI 0) (Or.inl rfl), ↓dZ_85 hL (x := nI 1) (Or.inr rfl), ↓dZ_85 hL (Or.inl rfl), ↓dZ_85 hL (Or.inr rfl), ↓dZ_85 hL (nB_01 _), ↓dK_T hL ht, ↓dG_T hL ht, ↓dP_T hL ht, ↓reduceIte, ↓kq_bi, ↓kq_let, ↓kq_rz0, ↓kq_rz1, ↓kq_rzB, ↓Option.bind_some, kq_dvn, kt_lt, kf_lt, kt_eq, kf_eq, decide_true, decide_false, eq_self, Bool.false_eq_true, Bool.true_eq_false, not_true_eq_false, not_false_eq_true, jU_eq, jU_ne, jU_U, jV_eq, jV_ne, jV_V, kn_lit, kn_add, kn_mul, kn_sdm, kn_sub, kn_div, kn_nsdm, kn_lt, kn_eq, kn_pred, kn_m1, kn_m1', kn_a31, kn_shl, kn_shr, kn_bit, nB_0, nB_1, nB_t, nB_f, Nat.zero_add, Nat.add_zero, Nat.reduceAdd, Nat.reduceMul, Nat.reduceSub, Nat.reducePow]
      · rw [if_pos (show true = true from rfl)]
        simp (disch := omega) only [↓dR_85_1 hL, cT_f0 hQ'.1.1, F_SG_nose_b106, ↓dK_64 hL, ↓dG_64 hL, ↓dP_64 hL, ↓dR_64_2 hL, ↓dK_85 hL, ↓dG_85 hL, ↓dP_85 hL, ↓dZ_85 hL (x := nI 0) (Or.inl rfl), ↓dZ_85 hL (x := nI 1) (Or.inr rfl), ↓dZ_85 hL (Or.inl rfl), ↓dZ_85 hL (Or.inr rfl), ↓dZ_85 hL (nB_01 _), ↓dK_T hL ht, ↓dG_T hL ht, ↓dP_T hL ht, ↓reduceIte, ↓kq_bi, ↓kq_let, ↓kq_rz0, ↓kq_rz1, ↓kq_rzB, ↓Option.bind_some, kq_dvn, kt_lt, kf_lt, kt_eq, kf_eq, decide_true, decide_false, eq_self, Bool.false_eq_true, Bool.true_eq_false, not_true_eq_false, not_false_eq_true, jU_eq, jU_ne, jU_U, jV_eq, jV_ne, jV_V, kn_lit, kn_add, kn_mul, kn_sdm, kn_sub, kn_div, kn_nsdm, kn_lt, kn_eq, kn_pred, kn_m1, kn_m1', kn_a31, kn_shl, kn_shr, kn_bit, nB_0, nB_1, nB_t, nB_f, Nat.zero_add, Nat.add_zero, Nat.reduceAdd, Nat.reduceMul, Nat.reduceSub, Nat.reducePow]
  unfold F_SG_nose
  cases w
  · simp (disch := omega) only [show nB false = nI 0 from rfl, F_SG_nose_b10, ↓reduceIte, ↓kq_bi, ↓kq_let, ↓kq_rz0, ↓kq_rz1, ↓kq_rzB, ↓Option.bind_some, kq_dvn, kt_lt, kf_lt, kt_eq, kf_eq, decide_true, decide_false, eq_self, Bool.false_eq_true, Bool.true_eq_false, not_true_eq_false, not_false_eq_true, jU_eq, jU_ne, jU_U, jV_eq, jV_ne, jV_V, kn_lit, kn_add, kn_mul, kn_sdm, kn_sub, kn_div, kn_nsdm, kn_lt, kn_eq, kn_pred, kn_m1, kn_m1', kn_a31, kn_shl, kn_shr, kn_bit, nB_0, nB_1, nB_t, nB_f, Nat.zero_add, Nat.add_zero, Nat.reduceAdd, Nat.reduceMul, Nat.reduceSub, Nat.reducePow]
    exact key
  · simp (disch := omega) only [show nB true = nI 1 from rfl, F_SG_nose_b10, ↓reduceIte, ↓kq_bi, ↓kq_let, ↓kq_rz0, ↓kq_rz1, ↓kq_rzB, ↓Option.bind_some, kq_dvn, kt_lt, kf_lt, kt_eq, kf_eq, decide_true, decide_false, eq_self, Bool.false_eq_true, Bool.true_eq_false, not_true_eq_false, not_false_eq_true, jU_eq, jU_ne, jU_U, jV_eq, jV_ne, jV_V, kn_lit, kn_add, kn_mul, kn_sdm, kn_sub, kn_div, kn_nsdm, kn_lt, kn_eq, kn_pred, kn_m1, kn_m1', kn_a31, kn_shl, kn_shr, kn_bit, nB_0, nB_1, nB_t, nB_f, Nat.zero_add, Nat.add_zero, Nat.reduceAdd, Nat.reduceMul, Nat.reduceSub, Nat.reducePow]
    exact key
end

/-! PLAIN LEAN, 32: rows saved and loaded; keeps of the class -/
def s_kl (τ : JTn) (g w : Nat) (q : JRw) : Nat → Option JRw
  | 0 => some q
  | d + 1 => (s_kl τ g w q d).bind (fun q' => if s_can q' g w = true then some (s_lay τ q' g w) else none)
def s_ks (τ : JTn) (ω : JLw) (g bits k : Nat) (q : JRw) : Option JRw := if s_sh τ ω false q g = decide (bits / 2 ^ k % 2 = 1) then some (s_hour τ ω false q) else none
def s_ky (τ : JTn) (ω : JLw) (g w bits k : Nat) (oq : Option JRw) (d : Nat) : Option JRw := oq.bind (fun q => (s_kl τ g w q d).bind (s_ks τ ω g bits k))
abbrev JKb : Type := Option (Nat × Nat)
def s_bok (b : JKb) (s : Nat) : Bool := b.elim true (fun f => decide (s < f.1))
abbrev JKE : Type := Nat → Option JRw → Nat → Nat → JKb → JKb
def s_kB (τ : JTn) (ω : JLw) (g w bits : Nat) (E : JKE) (k : Nat) (oq : Option JRw) (s t : Nat) (b : JKb) : Nat → JKb
  | 0 => b
  | d + 1 => E (k + 1) (s_ky τ ω g w bits k oq d) (s + d) (10 * t + d) (s_kB τ ω g w bits E k oq s t b d)
def s_kE (τ : JTn) (ω : JLw) (g w bits : Nat) : Nat → JKE
  | 0 => fun _ oq s t b => if (oq.isSome && s_bok b s) = true then some (s, t) else b
  | m + 1 => fun k oq s t b => s_kB τ ω g w bits (s_kE τ ω g w bits m) k oq s t b 3
def s_kps (τ : JTn) (ω : JLw) (r : JRw) (g w n bits : Nat) : JKb := s_kE τ ω g w bits n 0 (some r) 0 0 none
def jSk (l : Nat) (I J : Nat → Nat → Int32) : Prop := ∀ a, ¬ (90 ≤ a ∧ a < 95) → ¬ a = l + 2 → ¬ (95 ≤ a ∧ a ≤ 101) → J a = I a
section
variable {t u l m b c : Nat} {h : LH} {I J K : Nat → Nat → Int32} {τ : JTn} {r q : JRw} {σ ρ i a : Nat} {Q : Type} {x : Int32} {d : Bool} {ω : JLw} {f : Nat → Int32} {g w bits : Nat}
theorem jCR_cp {f' : Nat → Int32} (hr : jROK τ r) (hf : ∀ k, k < 134 → f' k = f k) (hR : jCR (fun _ => f) 0 r) : jCR (fun _ => f') 0 r := by
  obtain ⟨a1, a2, a3, a4, a5⟩ := hR
  refine ⟨?_, fun x hx => ?_, fun x hx => ?_, fun x hx => ?_, fun x k hx hk => ?_⟩
  all_goals try dsimp only
  · rw [hf _ (by omega)]; exact a1
  · rw [hf _ (by omega)]; exact a2 x hx
  · rw [hf _ (by omega)]; exact a3 x hx
  · rw [hf _ (by omega)]; exact a4 x hx
  · have b := hr.1 x hx
    rw [hf _ (by omega), hf _ (by omega)]; exact a5 x k hx hk
theorem c_saveTo (hL : jLay t u l m b c h) (hσ : σ = 85 ∨ σ = 90) (ha : jl_kd h a = 20) (hal : jl_ln h a = 134) (ha6 : 64 ≤ a) (hne : ¬ a = σ + 1) (hR : jCR I (σ + 1) r) (hr : jROK τ r) : ∃ J, F_Scene_saveTo σ a (jz_I h I) = some (jz_I h J) ∧ jCR J a r ∧ ∀ x, ¬ x = a → J x = I x := by
  refine jE_n (fun P hP => ?_)
  have hac : ∀ {Q : Type} {K : LH → Option Q}, jf_ac (jz_I h I) (σ + 1) (nI 0) a (nI 0) (nI 134) K = K (jz_I h (jU I a (fun j => if 0 ≤ j ∧ j < 0 + 134 then I (σ + 1) (0 + (j - 0)) else I a j))) := kq_ac (lk_S1 hL hσ) (by omega) ha ha6 (fun z => hne z.symm) (by decide) (by decide) (by decide) (by rw [ll_S1 hL hσ]; decide) (by rw [hal]; decide)
  unfold F_Scene_saveTo
  simp (disch := omega) only [hac, ↓dK_S hL hσ, ↓dG_S hL hσ, ↓dP_S hL hσ, ↓dZ_S hL hσ (x := nI 0) (Or.inl rfl), ↓dZ_S hL hσ (x := nI 1) (Or.inr rfl), ↓dZ_S hL hσ (Or.inl rfl), ↓dZ_S hL hσ (Or.inr rfl), ↓dZ_S hL hσ (nB_01 _), ↓dR_S_1 hL hσ, ↓dR_S_2 hL hσ, ↓dR_S_0 hL hσ, dI_S1 hL hσ, dS_S1 hL hσ, ↓reduceIte, ↓kq_bi, ↓kq_let, ↓kq_rz0, ↓kq_rz1, ↓kq_rzB, ↓Option.bind_some, kq_dvn, kt_lt, kf_lt, kt_eq, kf_eq, decide_true, decide_false, eq_self, Bool.false_eq_true, Bool.true_eq_false, not_true_eq_false, not_false_eq_true, jU_eq, jU_ne, jU_U, jV_eq, jV_ne, jV_V, kn_lit, kn_add, kn_mul, kn_sdm, kn_sub, kn_div, kn_nsdm, kn_lt, kn_eq, kn_pred, kn_m1, kn_m1', kn_a31, kn_shl, kn_shr, kn_bit, nB_0, nB_1, nB_t, nB_f, Nat.zero_add, Nat.add_zero, Nat.reduceAdd, Nat.reduceMul, Nat.reduceSub, Nat.reducePow]
  exact jW_s (hP _ ⟨jCR_U (jCR_cp hr (fun k hk => by rw [if_pos (by omega)]; exact congrArg (I (σ + 1)) (by omega)) hR), fun x hx => jU_ne hx⟩)
theorem c_loadFrom (hL : jLay t u l m b c h) (hσ : σ = 85 ∨ σ = 90) (ha : jl_kd h a = 20) (hal : jl_ln h a = 134) (ha6 : 64 ≤ a) (hne : ¬ a = σ + 1) (hR : jCR I a r) (hr : jROK τ r) : ∃ J, F_Scene_loadFrom σ a (jz_I h I) = some (jz_I h J) ∧ jCS J σ τ false r ∧ ∀ x, ¬ x = σ → ¬ x = σ + 1 → J x = I x := by
  refine jE_n (fun P hP => ?_)
  have hac : ∀ {Q : Type} {K : LH → Option Q}, jf_ac (jz_I h I) a (nI 0) (σ + 1) (nI 0) (nI 134) K = K (jz_I h (jU I (σ + 1) (fun j => if 0 ≤ j ∧ j < 0 + 134 then I a (0 + (j - 0)) else I (σ + 1) j))) := kq_ac ha ha6 (lk_S1 hL hσ) (by omega) hne (by decide) (by decide) (by decide) (by rw [hal]; decide) (by rw [ll_S1 hL hσ]; decide)
  unfold F_Scene_loadFrom
  simp (disch := omega) only [hac, ↓dK_S hL hσ, ↓dG_S hL hσ, ↓dP_S hL hσ, ↓dZ_S hL hσ (x := nI 0) (Or.inl rfl), ↓dZ_S hL hσ (x := nI 1) (Or.inr rfl), ↓dZ_S hL hσ (Or.inl rfl), ↓dZ_S hL hσ (Or.inr rfl), ↓dZ_S hL hσ (nB_01 _), ↓dR_S_1 hL hσ, ↓dR_S_2 hL hσ, ↓dR_S_0 hL hσ, dI_S1 hL hσ, dS_S1 hL hσ, ↓reduceIte, ↓kq_bi, ↓kq_let, ↓kq_rz0, ↓kq_rz1, ↓kq_rzB, ↓Option.bind_some, kq_dvn, kt_lt, kf_lt, kt_eq, kf_eq, decide_true, decide_false, eq_self, Bool.false_eq_true, Bool.true_eq_false, not_true_eq_false, not_false_eq_true, jU_eq, jU_ne, jU_U, jV_eq, jV_ne, jV_V, kn_lit, kn_add, kn_mul, kn_sdm, kn_sub, kn_div, kn_nsdm, kn_lt, kn_eq, kn_pred, kn_m1, kn_m1', kn_a31, kn_shl, kn_shr, kn_bit, nB_0, nB_1, nB_t, nB_f, Nat.zero_add, Nat.add_zero, Nat.reduceAdd, Nat.reduceMul, Nat.reduceSub, Nat.reducePow]
  refine jW_s (hP _ ⟨⟨jCR_congr (jU_ne (by omega)) (jCR_U (jCR_cp hr (fun k hk => by rw [if_pos (by omega)]; exact congrArg (I a) (by omega)) hR)), by simp only [jU_eq, jV_ne (show ¬ 3 = 4 by decide), jV_eq, nB_f], Or.inl (by simp only [jU_eq, jV_eq])⟩, fun x h1 h2 => by rw [jU_ne h1, jU_ne h2]⟩)
theorem s_kE_none : ∀ m k s t b, s_kE τ ω g w bits m k none s t b = b
  | 0, _, _, _, _ => rfl
  | m + 1, k, s, t, b => by
    show s_kB τ ω g w bits (s_kE τ ω g w bits m) k none s t b 3 = b
    show s_kE τ ω g w bits m _ none _ _ (s_kE τ ω g w bits m _ none _ _ (s_kE τ ω g w bits m _ none _ _ b)) = b
    rw [s_kE_none m, s_kE_none m, s_kE_none m]
theorem s_bok_mono {b : JKb} {s s' : Nat} (h : s_bok b s = false) (hs : s ≤ s') : s_bok b s' = false := by
  cases b with
  | none => cases h
  | some f =>
    have h := of_decide_eq_false h
    exact decide_eq_false (by omega)
theorem s_kE_pr : ∀ m k oq s t b, s_bok b s = false → s_kE τ ω g w bits m k oq s t b = b
  | 0, _, oq, s, t, b, h => by
    show (if (oq.isSome && s_bok b s) = true then some (s, t) else b) = b
    rw [h, Bool.and_false, if_neg (by decide)]
  | m + 1, k, oq, s, t, b, h => by
    show s_kE τ ω g w bits m _ _ (s + 2) _ (s_kE τ ω g w bits m _ _ (s + 1) _ (s_kE τ ω g w bits m _ _ (s + 0) _ b)) = b
    rw [s_kE_pr m _ _ (s + 0) _ b h, s_kE_pr m _ _ (s + 1) _ b (s_bok_mono h (by omega)), s_kE_pr m _ _ (s + 2) _ b (s_bok_mono h (by omega))]
/-- branches that change nothing -/
theorem s_kB_stop {m k s t : Nat} {oq : Option JRw} {b b' : JKb} {d : Nat} (hb : s_kB τ ω g w bits (s_kE τ ω g w bits m) k oq s t b d = b') (h : ∀ e, d ≤ e → e < 3 → s_kE τ ω g w bits m (k + 1) (s_ky τ ω g w bits k oq e) (s + e) (10 * t + e) b' = b') : ∀ e, d ≤ e → e ≤ 3 → s_kB τ ω g w bits (s_kE τ ω g w bits m) k oq s t b e = b'
  | 0, h1, _ => by have : d = 0 := by omega
                   subst this; exact hb
  | e + 1, h1, h2 => by
    by_cases he : d = e + 1
    · subst he; exact hb
    · show s_kE τ ω g w bits m (k + 1) (s_ky τ ω g w bits k oq e) (s + e) (10 * t + e) (s_kB τ ω g w bits (s_kE τ ω g w bits m) k oq s t b e) = b'
      rw [s_kB_stop hb h e (by omega) (by omega)]
      exact h e (by omega) (by omega)
theorem s_kl_none {d : Nat} (h : s_kl τ g w q d = none) : ∀ n, s_kl τ g w q (d + n) = none
  | 0 => h
  | n + 1 => by
    show (s_kl τ g w q (d + n)).bind _ = none
    rw [s_kl_none h n]; rfl
theorem s_kl_ok (ho : jTOK τ) (hg : g < 9) (hw : w < τ 0 1) (hq : jROK τ q) : ∀ d q', s_kl τ g w q d = some q' → jROK τ q' ∧ q' 133 = q 133
  | 0, q', h => by cases h; exact ⟨hq, rfl⟩
  | d + 1, q', h => by
    have h : (s_kl τ g w q d).bind (fun q' => if s_can q' g w = true then some (s_lay τ q' g w) else none) = some q' := h
    cases hs : s_kl τ g w q d with
    | none => rw [hs] at h; cases h
    | some p =>
      rw [hs] at h
      have h : (if s_can p g w = true then some (s_lay τ p g w) else none) = some q' := h
      obtain ⟨h1, h2⟩ := s_kl_ok ho hg hw hq d p hs
      have o1 : τ 0 1 ≤ 6 := ho.2.1
      by_cases hc : s_can p g w = true
      · rw [if_pos hc] at h
        cases h
        exact ⟨s_lay_ok ho h1 hg hw hc, by rw [s_lay_133 hg (by omega) (h1.1 g hg)]; exact h2⟩
      · rw [if_neg hc] at h; cases h
theorem jSk_trans (h1 : jSk l I J) (h2 : jSk l J K) : jSk l I K := fun a x y z => (h2 a x y z).trans (h1 a x y z)
theorem jSk_Sc (h1 : jSk l I J) (h2 : jSc l 90 J K) : jSk l I K := fun a x y z => (h2 a (by omega) y).trans (h1 a x y z)
theorem jQC_Sk (hL : jLay t u l m b c h) (hS : jSk l I J) (hQ : jQC I t l τ ω r) : jQC J t l τ ω r := by
  have ht := jLay_t hL
  have hl := jLay_l hL
  refine ⟨⟨jCT_congr (fun i hi => hS _ (by omega) (by omega) (by omega)) hQ.1.1, hQ.1.2.1, ⟨?_, fun k hk => ?_⟩, hQ.1.2.2.2⟩, jCS_congr (fun a h1 h2 => hS a (by omega) (by omega) (by omega)) hQ.2.1, hQ.2.2⟩
  · rw [hS l (by omega) (by omega) (by omega)]; exact hQ.1.2.2.1.1
  · rw [hS (l + 1) (by omega) (by omega) (by omega)]; exact hQ.1.2.2.1.2 k hk
/-- what the search rests on, and what it has found -/
def jKp (J : Nat → Nat → Int32) (g w n bits : Nat) : Prop := J 95 2 = nI g ∧ J 95 3 = nI w ∧ J 95 4 = nI n ∧ J 95 5 = nI bits
def jKf (J : Nat → Nat → Int32) (b : JKb) : Prop := J 95 6 = nP1 b ∧ J 95 7 = nP2 b ∧ ∀ f, b = some f → f.1 ≤ 10 ∧ f.2 < 100000
theorem jKp_e (h : ∀ k, k < 6 → K 95 k = J 95 k) {n : Nat} (hp : jKp J g w n bits) : jKp K g w n bits := ⟨by rw [h 2 (by omega)]; exact hp.1, by rw [h 3 (by omega)]; exact hp.2.1, by rw [h 4 (by omega)]; exact hp.2.2.1, by rw [h 5 (by omega)]; exact hp.2.2.2⟩
theorem jKf_e {B : JKb} (h : K 95 = J 95) (hf : jKf J B) : jKf K B := by unfold jKf at hf ⊢; rw [h]; exact hf
theorem c_try (hL : jLay t u l m b c h) (hQ : jQC I t l τ ω r) (hg : g < τ 0 0) (hw : w < τ 0 1) {n : Nat} (hn : n ≤ 5) (hb : bits < 32) : ∀ (m k fuel : Nat), k + m = n → m < fuel → ∀ (J : Nat → Nat → Int32) (q : JRw) (s t9 : Nat) (B : JKb), jSk l I J → jCS J 90 τ false q → jROK τ q → q 133 ≤ 1100 + k → jKp J g w n bits → jKf J B → s ≤ 2 * k → t9 < 10 ^ k → s_bok B s = true → ∃ K, F_Keep_tryFrom fuel 95 (nI k) (nI s) (nI t9) (jz_I h J) = some (jz_I h K) ∧ jSk l I K ∧ jKp K g w n bits ∧ jKf K (s_kE τ ω g w bits m k (some q) s t9 B) ∧ ∀ j, j < k → K (97 + j) = J (97 + j) := by
  have ho := hQ.1.2.1
  have o0 : τ 0 0 ≤ 9 := ho.1
  have hl := jLay_l hL
  intro m
  induction m with
  | zero =>
    intro k fuel hkm hf J q s t9 B hS hJ hq hh hp hB hs ht hbk
    obtain ⟨F, rfl⟩ : ∃ F, fuel = F + 1 := ⟨fuel - 1, by omega⟩
    have hkn : k = n := by omega
    subst hkn
    refine jE_n (fun P hP => ?_)
    show jW (E_Keep_tryFrom (F_Keep_tryFrom F) 95 (nI k) (nI s) (nI t9) (jz_I h J)) P
    unfold E_Keep_tryFrom
    simp (disch := omega) only [hp.2.2.1, ↓dR_64_4 hL, ↓dK_95 hL, ↓dG_95 hL, ↓dP_95 hL, ↓reduceIte, ↓kq_bi, ↓kq_let, ↓kq_rz0, ↓kq_rz1, ↓kq_rzB, ↓Option.bind_some, kq_dvn, kt_lt, kf_lt, kt_eq, kf_eq, decide_true, decide_false, eq_self, Bool.false_eq_true, Bool.true_eq_false, not_true_eq_false, not_false_eq_true, jU_eq, jU_ne, jU_U, jV_eq, jV_ne, jV_V, kn_lit, kn_add, kn_mul, kn_sdm, kn_sub, kn_div, kn_nsdm, kn_lt, kn_eq, kn_pred, kn_m1, kn_m1', kn_a31, kn_shl, kn_shr, kn_bit, nB_0, nB_1, nB_t, nB_f, Nat.zero_add, Nat.add_zero, Nat.reduceAdd, Nat.reduceMul, Nat.reduceSub, Nat.reducePow]
    have e : s_kE τ ω g w bits 0 k (some q) s t9 B = some (s, t9) := by
      show (if ((some q : Option JRw).isSome && s_bok B s) = true then some (s, t9) else B) = some (s, t9)
      rw [hbk]; rfl
    have h10 : 10 ^ k ≤ 10 ^ 5 := Nat.pow_le_pow_right (by omega) hn
    rw [e] at hP
    refine jW_s (hP _ ⟨jSk_trans hS (fun a _ _ z => jU_ne (by omega)), jKp_e (fun j hj => by simp (disch := omega) only [jU_eq, jV_ne]) hp, ⟨?_, ?_, fun f hf => by cases hf; exact ⟨by show s ≤ 10; omega, by show t9 < 100000; omega⟩⟩, fun j hj => jU_ne (by omega)⟩)
    · simp (disch := omega) only [jU_eq, jV_ne, jV_eq]; rfl
    · simp (disch := omega) only [jU_eq, jV_ne, jV_eq]; rfl
  | succ m ih =>
    intro k fuel hkm hf J q s t9 B hS hJ hq hh hp hB hs ht hbk
    obtain ⟨F, rfl⟩ : ∃ F, fuel = F + 1 := ⟨fuel - 1, by omega⟩
    refine jE_n (fun P hP => ?_)
    show jW (E_Keep_tryFrom (F_Keep_tryFrom F) 95 (nI k) (nI s) (nI t9) (jz_I h J)) P
    unfold E_Keep_tryFrom
    simp (disch := omega) only [↓dR_95_0 hL, ↓dR_95_1 hL, dA_96 hL, hp.2.2.1, ↓dR_64_4 hL, ↓dK_95 hL, ↓dG_95 hL, ↓dP_95 hL, ↓dR_64_3 hL, ↓dR_95_0 hL, ↓dR_102_0 hL, ↓dR_105_0 hL, ↓dK_90 hL, ↓dG_90 hL, ↓dP_90 hL, ↓dZ_90 hL (x := nI 0) (Or.inl rfl), ↓dZ_90 hL (x := nI 1) (Or.inr rfl), ↓dZ_90 hL (Or.inl rfl), ↓dZ_90 hL (Or.inr rfl), ↓dZ_90 hL (nB_01 _), ↓reduceIte, ↓kq_bi, ↓kq_let, ↓kq_rz0, ↓kq_rz1, ↓kq_rzB, ↓Option.bind_some, kq_dvn, kt_lt, kf_lt, kt_eq, kf_eq, decide_true, decide_false, eq_self, Bool.false_eq_true, Bool.true_eq_false, not_true_eq_false, not_false_eq_true, jU_eq, jU_ne, jU_U, jV_eq, jV_ne, jV_V, kn_lit, kn_add, kn_mul, kn_sdm, kn_sub, kn_div, kn_nsdm, kn_lt, kn_eq, kn_pred, kn_m1, kn_m1', kn_a31, kn_shl, kn_shr, kn_bit, nB_0, nB_1, nB_t, nB_f, Nat.zero_add, Nat.add_zero, Nat.reduceAdd, Nat.reduceMul, Nat.reduceSub, Nat.reducePow]
    refine jW_bn (c_saveTo hL (Or.inr rfl) (lk_97 hL (show k < 5 by omega)) (ll_97 hL (show k < 5 by omega)) (by omega) (by omega) hJ.1 hq) (fun J1 hJ1 => ?_)
    obtain ⟨j1, j2⟩ := hJ1
    have b10 : ∀ f, B = some f → f.1 ≤ 10 := fun f hf => (hB.2.2 f hf).1
    have hfin : s_kE τ ω g w bits (m + 1) k (some q) s t9 B = s_kB τ ω g w bits (s_kE τ ω g w bits m) k (some q) s t9 B 3 := rfl
    rw [hfin] at hP
    refine jW_for0 (f := fun fuel d (K : Nat → Nat → Int32) => F_Keep_tryFrom_l35 (F_Keep_tryFrom F) fuel 95 (nI k) (nI s) (nI t9) (nI d) (jz_I h K)) 3 (fun d K => (jSk l I K ∧ jKp K g w n bits ∧ jKf K (s_kB τ ω g w bits (s_kE τ ω g w bits m) k (some q) s t9 B d) ∧ ∀ j, j < k → K (97 + j) = J (97 + j)) ∧ ∃ q', s_kl τ g w q (d - 1) = some q' ∧ jCR K (97 + k) q') J1 ⟨⟨jSk_trans hS (fun a _ _ z => j2 a (by omega)), jKp_e (fun j hj => by rw [j2 95 (by omega)]) hp, jKf_e (j2 95 (by omega)) hB, fun j hj => j2 _ (by omega)⟩, q, rfl, j1⟩ (by omega) (fun F2 d K hd hV ih2 => ?_) (fun F2 K hV => ?_)
    · obtain ⟨⟨v1, v2, v3, v4⟩, q1, v5, v6⟩ := hV
      obtain ⟨hq1, hq133⟩ := s_kl_ok ho (show g < 9 by omega) hw hq _ _ v5
      have es : s_kB τ ω g w bits (s_kE τ ω g w bits m) k (some q) s t9 B (d + 1) = s_kE τ ω g w bits m (k + 1) (s_ky τ ω g w bits k (some q) d) (s + d) (10 * t9 + d) (s_kB τ ω g w bits (s_kE τ ω g w bits m) k (some q) s t9 B d) := rfl
      generalize hBd : s_kB τ ω g w bits (s_kE τ ω g w bits m) k (some q) s t9 B d = Bd at v3 es
      show jW (F_Keep_tryFrom_c35 (F_Keep_tryFrom F) (F_Keep_tryFrom_l35 (F_Keep_tryFrom F) F2) 95 (nI k) (nI s) (nI t9) (nI d) (jz_I h K)) P
      unfold F_Keep_tryFrom_c35
      cases hok : s_bok Bd (s + d)
      · cases Bd with
        | none => cases hok
        | some y =>
          have y10 := (v3.2.2 y rfl).1
          have hlt := of_decide_eq_false hok
          have e6 : K 95 6 = nI y.1 := v3.1
          simp (disch := omega) only [e6, F_Keep_tryFrom_b172, ↓dR_64_4 hL, ↓dK_95 hL, ↓dG_95 hL, ↓dP_95 hL, ↓reduceIte, ↓kq_bi, ↓kq_let, ↓kq_rz0, ↓kq_rz1, ↓kq_rzB, ↓Option.bind_some, kq_dvn, kt_lt, kf_lt, kt_eq, kf_eq, decide_true, decide_false, eq_self, Bool.false_eq_true, Bool.true_eq_false, not_true_eq_false, not_false_eq_true, jU_eq, jU_ne, jU_U, jV_eq, jV_ne, jV_V, kn_lit, kn_add, kn_mul, kn_sdm, kn_sub, kn_div, kn_nsdm, kn_lt, kn_eq, kn_pred, kn_m1, kn_m1', kn_a31, kn_shl, kn_shr, kn_bit, nB_0, nB_1, nB_t, nB_f, Nat.zero_add, Nat.add_zero, Nat.reduceAdd, Nat.reduceMul, Nat.reduceSub, Nat.reducePow]
          refine jW_s (hP K ⟨v1, v2, ?_, v4⟩)
          rw [s_kB_stop hBd (fun e h1 h2 => s_kE_pr _ _ _ _ _ _ (s_bok_mono hok (by omega))) 3 (by omega) (Nat.le_refl 3)]
          exact v3
      · have key : jW (F_Keep_tryFrom_b60 (F_Keep_tryFrom F) (F_Keep_tryFrom_l35 (F_Keep_tryFrom F) F2) 95 (nI k) (nI s) (nI t9) (nI d) (jz_I h K)) P := by
          unfold F_Keep_tryFrom_b60
          simp (disch := omega) only [↓dR_95_0 hL, ↓dR_95_1 hL, dA_96 hL, ↓dR_64_4 hL, ↓dK_95 hL, ↓dG_95 hL, ↓dP_95 hL, ↓dR_64_3 hL, ↓dR_95_0 hL, ↓dR_102_0 hL, ↓dR_105_0 hL, ↓dK_90 hL, ↓dG_90 hL, ↓dP_90 hL, ↓dZ_90 hL (x := nI 0) (Or.inl rfl), ↓dZ_90 hL (x := nI 1) (Or.inr rfl), ↓dZ_90 hL (Or.inl rfl), ↓dZ_90 hL (Or.inr rfl), ↓dZ_90 hL (nB_01 _), ↓reduceIte, ↓kq_bi, ↓kq_let, ↓kq_rz0, ↓kq_rz1, ↓kq_rzB, ↓Option.bind_some, kq_dvn, kt_lt, kf_lt, kt_eq, kf_eq, decide_true, decide_false, eq_self, Bool.false_eq_true, Bool.true_eq_false, not_true_eq_false, not_false_eq_true, jU_eq, jU_ne, jU_U, jV_eq, jV_ne, jV_V, kn_lit, kn_add, kn_mul, kn_sdm, kn_sub, kn_div, kn_nsdm, kn_lt, kn_eq, kn_pred, kn_m1, kn_m1', kn_a31, kn_shl, kn_shr, kn_bit, nB_0, nB_1, nB_t, nB_f, Nat.zero_add, Nat.add_zero, Nat.reduceAdd, Nat.reduceMul, Nat.reduceSub, Nat.reducePow]
          refine jW_bn (c_loadFrom hL (Or.inr rfl) (lk_97 hL (show k < 5 by omega)) (ll_97 hL (show k < 5 by omega)) (by omega) (by omega) v6 hq1) (fun K1 hK1 => ?_)
          obtain ⟨k1, k2⟩ := hK1
          have f1 : jSk l I K1 := jSk_trans v1 (fun a a1 _ _ => k2 a (by omega) (by omega))
          have f95 := k2 95 (by omega) (by omega)
          have fin : ∀ (K2 : Nat → Nat → Int32) (q2 : JRw), s_kl τ g w q d = some q2 → jSk l I K2 → jCS K2 90 τ false q2 → K2 95 = K 95 → (∀ j, j < k → K2 (97 + j) = J (97 + j)) → jW (F_Keep_tryFrom_b97 (F_Keep_tryFrom F) (F_Keep_tryFrom_l35 (F_Keep_tryFrom F) F2) 95 (nI k) (nI s) (nI t9) (nI d) (jz_I h K2)) P := fun K2 q2 g1 g2 g3 g4 g5 => by
            obtain ⟨hq2, hq2h⟩ := s_kl_ok ho (show g < 9 by omega) hw hq _ _ g1
            have p2 : jKp K2 g w n bits := jKp_e (fun j _ => by rw [g4]) v2
            have p3 : jKf K2 Bd := jKf_e g4 v3
            unfold F_Keep_tryFrom_b97
            simp (disch := omega) only [↓dR_95_0 hL, ↓dR_95_1 hL, dA_96 hL, ↓dR_64_4 hL, ↓dK_95 hL, ↓dG_95 hL, ↓dP_95 hL, ↓dR_64_3 hL, ↓dR_95_0 hL, ↓dR_102_0 hL, ↓dR_105_0 hL, ↓dK_90 hL, ↓dG_90 hL, ↓dP_90 hL, ↓dZ_90 hL (x := nI 0) (Or.inl rfl), ↓dZ_90 hL (x := nI 1) (Or.inr rfl), ↓dZ_90 hL (Or.inl rfl), ↓dZ_90 hL (Or.inr rfl), ↓dZ_90 hL (nB_01 _), ↓reduceIte, ↓kq_bi, ↓kq_let, ↓kq_rz0, ↓kq_rz1, ↓kq_rzB, ↓Option.bind_some, kq_dvn, kt_lt, kf_lt, kt_eq, kf_eq, decide_true, decide_false, eq_self, Bool.false_eq_true, Bool.true_eq_false, not_true_eq_false, not_false_eq_true, jU_eq, jU_ne, jU_U, jV_eq, jV_ne, jV_V, kn_lit, kn_add, kn_mul, kn_sdm, kn_sub, kn_div, kn_nsdm, kn_lt, kn_eq, kn_pred, kn_m1, kn_m1', kn_a31, kn_shl, kn_shr, kn_bit, nB_0, nB_1, nB_t, nB_f, Nat.zero_add, Nat.add_zero, Nat.reduceAdd, Nat.reduceMul, Nat.reduceSub, Nat.reducePow]
            refine jW_bn (c_saveTo hL (Or.inr rfl) (lk_97 hL (show k < 5 by omega)) (ll_97 hL (show k < 5 by omega)) (by omega) (by omega) g3.1 hq2) (fun K3 hK3 => ?_)
            obtain ⟨c1, c2⟩ := hK3
            have c95 := c2 95 (by omega)
            have d1 : jSk l I K3 := jSk_trans g2 (fun a _ _ z => c2 a (by omega))
            have d2 : jCS K3 90 τ false q2 := jCS_congr (fun a a1 a2 => c2 a (by omega)) g3
            have d3 : jKp K3 g w n bits := jKp_e (fun j _ => by rw [c95]) p2
            simp (disch := omega) only [↓dR_95_0 hL, d3.1, ↓dR_64_4 hL, ↓dK_95 hL, ↓dG_95 hL, ↓dP_95 hL, ↓dR_64_3 hL, ↓dR_95_0 hL, ↓dR_102_0 hL, ↓dR_105_0 hL, ↓dK_90 hL, ↓dG_90 hL, ↓dP_90 hL, ↓dZ_90 hL (x := nI 0) (Or.inl rfl), ↓dZ_90 hL (x := nI 1) (Or.inr rfl), ↓dZ_90 hL (Or.inl rfl), ↓dZ_90 hL (Or.inr rfl), ↓dZ_90 hL (nB_01 _), ↓reduceIte, ↓kq_bi, ↓kq_let, ↓kq_rz0, ↓kq_rz1, ↓kq_rzB, ↓Option.bind_some, kq_dvn, kt_lt, kf_lt, kt_eq, kf_eq, decide_true, decide_false, eq_self, Bool.false_eq_true, Bool.true_eq_false, not_true_eq_false, not_false_eq_true, jU_eq, jU_ne, jU_U, jV_eq, jV_ne, jV_V, kn_lit, kn_add, kn_mul, kn_sdm, kn_sub, kn_div, kn_nsdm, kn_lt, kn_eq, kn_pred, kn_m1, kn_m1', kn_a31, kn_shl, kn_shr, kn_bit, nB_0, nB_1, nB_t, nB_f, Nat.zero_add, Nat.add_zero, Nat.reduceAdd, Nat.reduceMul, Nat.reduceSub, Nat.reducePow]
            refine jW_bi (c_shutT hL (jQC_Sk hL d1 hQ) jSc_refl d2 hq2 hg) (fun K4 hK4 => ?_)
            have e95 := hK4.1 95 (by omega) (by omega)
            have d5 : jKp K4 g w n bits := jKp_e (fun j _ => by rw [e95]) d3
            have d6 : jKf K4 Bd := jKf_e (by rw [e95, c95]) p3
            have d7 : jSk l I K4 := jSk_Sc d1 hK4.1
            have d8 : ∀ j, j < k → K4 (97 + j) = J (97 + j) := fun j hj => by rw [hK4.1 _ (by omega) (by omega), c2 _ (by omega)]; exact g5 j hj
            have d9 : jCR K4 (97 + k) q2 := jCR_congr (hK4.1 _ (by omega) (by omega)) c1
            have hm := Nat.mod_two_eq_zero_or_one (bits / 2 ^ k)
            have eky : s_ky τ ω g w bits k (some q) d = s_ks τ ω g bits k q2 := by show (s_kl τ g w q d).bind _ = _; rw [g1]; rfl
            rw [eky] at es
            have yes : s_sh τ ω false q2 g = decide (bits / 2 ^ k % 2 = 1) → jW ((F_Scene_pass 90 (jz_I h K4)).bind fun h2 => jf_kd h2 95 3 ((F_Keep_tryFrom F 95 (nI k + nI 1) (nI s + nI d) (nI 10 * nI t9 + nI d) h2).bind fun h3 => F_Keep_tryFrom_b166 (F_Keep_tryFrom F) (F_Keep_tryFrom_l35 (F_Keep_tryFrom F) F2) 95 (nI k) (nI s) (nI t9) (nI d) h3)) P := fun hy => by
              have ek : s_ks τ ω g bits k q2 = some (s_hour τ ω false q2) := if_pos hy
              rw [ek] at es
              refine jW_bn (c_hourT hL (jQC_Sk hL d7 hQ) jSc_refl hK4.2 hq2) (fun K5 hK5 => ?_)
              have g95 := hK5.1 95 (by omega) (by omega)
              simp (disch := omega) only [↓dR_64_4 hL, ↓dK_95 hL, ↓dG_95 hL, ↓dP_95 hL, ↓reduceIte, ↓kq_bi, ↓kq_let, ↓kq_rz0, ↓kq_rz1, ↓kq_rzB, ↓Option.bind_some, kq_dvn, kt_lt, kf_lt, kt_eq, kf_eq, decide_true, decide_false, eq_self, Bool.false_eq_true, Bool.true_eq_false, not_true_eq_false, not_false_eq_true, jU_eq, jU_ne, jU_U, jV_eq, jV_ne, jV_V, kn_lit, kn_add, kn_mul, kn_sdm, kn_sub, kn_div, kn_nsdm, kn_lt, kn_eq, kn_pred, kn_m1, kn_m1', kn_a31, kn_shl, kn_shr, kn_bit, nB_0, nB_1, nB_t, nB_f, Nat.zero_add, Nat.add_zero, Nat.reduceAdd, Nat.reduceMul, Nat.reduceSub, Nat.reducePow]
              have h10 : 10 ^ (k + 1) = 10 * 10 ^ k := by rw [Nat.pow_succ, Nat.mul_comm]
              refine jW_bn (ih (k + 1) F (by omega) (by omega) K5 (s_hour τ ω false q2) (s + d) (10 * t9 + d) Bd (jSk_Sc d7 hK5.1) hK5.2 (s_hour_ok ho hq2 (by omega)) (by rw [s_hour_133]; omega) (jKp_e (fun j _ => by rw [g95]) d5) (jKf_e g95 d6) (by omega) (by rw [h10]; omega) hok) (fun K6 hK6 => ?_)
              obtain ⟨x1, x2, x3, x4⟩ := hK6
              simp (disch := omega) only [F_Keep_tryFrom_b166, ↓reduceIte, ↓kq_bi, ↓kq_let, ↓kq_rz0, ↓kq_rz1, ↓kq_rzB, ↓Option.bind_some, kq_dvn, kt_lt, kf_lt, kt_eq, kf_eq, decide_true, decide_false, eq_self, Bool.false_eq_true, Bool.true_eq_false, not_true_eq_false, not_false_eq_true, jU_eq, jU_ne, jU_U, jV_eq, jV_ne, jV_V, kn_lit, kn_add, kn_mul, kn_sdm, kn_sub, kn_div, kn_nsdm, kn_lt, kn_eq, kn_pred, kn_m1, kn_m1', kn_a31, kn_shl, kn_shr, kn_bit, nB_0, nB_1, nB_t, nB_f, Nat.zero_add, Nat.add_zero, Nat.reduceAdd, Nat.reduceMul, Nat.reduceSub, Nat.reducePow]
              refine ih2 K6 ⟨⟨x1, x2, by rw [es]; exact x3, fun j hj => by rw [x4 j (by omega), hK5.1 _ (by omega) (by omega)]; exact d8 j hj⟩, q2, g1, jCR_congr (by rw [x4 k (by omega), hK5.1 _ (by omega) (by omega)]) d9⟩
            have no : ¬ s_sh τ ω false q2 g = decide (bits / 2 ^ k % 2 = 1) → jW (F_Keep_tryFrom_b166 (F_Keep_tryFrom F) (F_Keep_tryFrom_l35 (F_Keep_tryFrom F) F2) 95 (nI k) (nI s) (nI t9) (nI d) (jz_I h K4)) P := fun hy => by
              have ek : s_ks τ ω g bits k q2 = none := if_neg hy
              rw [ek, s_kE_none] at es
              simp (disch := omega) only [F_Keep_tryFrom_b166, ↓reduceIte, ↓kq_bi, ↓kq_let, ↓kq_rz0, ↓kq_rz1, ↓kq_rzB, ↓Option.bind_some, kq_dvn, kt_lt, kf_lt, kt_eq, kf_eq, decide_true, decide_false, eq_self, Bool.false_eq_true, Bool.true_eq_false, not_true_eq_false, not_false_eq_true, jU_eq, jU_ne, jU_U, jV_eq, jV_ne, jV_V, kn_lit, kn_add, kn_mul, kn_sdm, kn_sub, kn_div, kn_nsdm, kn_lt, kn_eq, kn_pred, kn_m1, kn_m1', kn_a31, kn_shl, kn_shr, kn_bit, nB_0, nB_1, nB_t, nB_f, Nat.zero_add, Nat.add_zero, Nat.reduceAdd, Nat.reduceMul, Nat.reduceSub, Nat.reducePow]
              exact ih2 K4 ⟨⟨d7, d5, by rw [es]; exact d6, d8⟩, q2, g1, d9⟩
            have bd : bits < 2147483648 := by omega
            rcases hm with hm | hm
            · rw [hm] at yes no
              cases hb : s_sh τ ω false q2 g
              · rw [hb] at yes
                have yes := yes (by decide)
                simp (disch := omega) only [↓dR_95_0 hL, d5.2.2.2, hm, F_Keep_tryFrom_b138, ↓dR_64_4 hL, ↓dK_95 hL, ↓dG_95 hL, ↓dP_95 hL, ↓dR_64_3 hL, ↓dR_95_0 hL, ↓dR_102_0 hL, ↓dR_105_0 hL, ↓dK_90 hL, ↓dG_90 hL, ↓dP_90 hL, ↓dZ_90 hL (x := nI 0) (Or.inl rfl), ↓dZ_90 hL (x := nI 1) (Or.inr rfl), ↓dZ_90 hL (Or.inl rfl), ↓dZ_90 hL (Or.inr rfl), ↓dZ_90 hL (nB_01 _), ↓reduceIte, ↓kq_bi, ↓kq_let, ↓kq_rz0, ↓kq_rz1, ↓kq_rzB, ↓Option.bind_some, kq_dvn, kt_lt, kf_lt, kt_eq, kf_eq, decide_true, decide_false, eq_self, Bool.false_eq_true, Bool.true_eq_false, not_true_eq_false, not_false_eq_true, jU_eq, jU_ne, jU_U, jV_eq, jV_ne, jV_V, kn_lit, kn_add, kn_mul, kn_sdm, kn_sub, kn_div, kn_nsdm, kn_lt, kn_eq, kn_pred, kn_m1, kn_m1', kn_a31, kn_shl, kn_shr, kn_bit, nB_0, nB_1, nB_t, nB_f, Nat.zero_add, Nat.add_zero, Nat.reduceAdd, Nat.reduceMul, Nat.reduceSub, Nat.reducePow]
                exact (by simpa only [kn_add, kn_mul] using yes)
              · rw [hb] at no
                have no := no (by decide)
                simp (disch := omega) only [↓dR_95_0 hL, d5.2.2.2, hm, F_Keep_tryFrom_b138, ↓dR_64_4 hL, ↓dK_95 hL, ↓dG_95 hL, ↓dP_95 hL, ↓dR_64_3 hL, ↓dR_95_0 hL, ↓dR_102_0 hL, ↓dR_105_0 hL, ↓dK_90 hL, ↓dG_90 hL, ↓dP_90 hL, ↓dZ_90 hL (x := nI 0) (Or.inl rfl), ↓dZ_90 hL (x := nI 1) (Or.inr rfl), ↓dZ_90 hL (Or.inl rfl), ↓dZ_90 hL (Or.inr rfl), ↓dZ_90 hL (nB_01 _), ↓reduceIte, ↓kq_bi, ↓kq_let, ↓kq_rz0, ↓kq_rz1, ↓kq_rzB, ↓Option.bind_some, kq_dvn, kt_lt, kf_lt, kt_eq, kf_eq, decide_true, decide_false, eq_self, Bool.false_eq_true, Bool.true_eq_false, not_true_eq_false, not_false_eq_true, jU_eq, jU_ne, jU_U, jV_eq, jV_ne, jV_V, kn_lit, kn_add, kn_mul, kn_sdm, kn_sub, kn_div, kn_nsdm, kn_lt, kn_eq, kn_pred, kn_m1, kn_m1', kn_a31, kn_shl, kn_shr, kn_bit, nB_0, nB_1, nB_t, nB_f, Nat.zero_add, Nat.add_zero, Nat.reduceAdd, Nat.reduceMul, Nat.reduceSub, Nat.reducePow]
                exact no
            · rw [hm] at yes no
              cases hb : s_sh τ ω false q2 g
              · rw [hb] at no
                have no := no (by decide)
                simp (disch := omega) only [↓dR_95_0 hL, d5.2.2.2, hm, F_Keep_tryFrom_b138, ↓dR_64_4 hL, ↓dK_95 hL, ↓dG_95 hL, ↓dP_95 hL, ↓dR_64_3 hL, ↓dR_95_0 hL, ↓dR_102_0 hL, ↓dR_105_0 hL, ↓dK_90 hL, ↓dG_90 hL, ↓dP_90 hL, ↓dZ_90 hL (x := nI 0) (Or.inl rfl), ↓dZ_90 hL (x := nI 1) (Or.inr rfl), ↓dZ_90 hL (Or.inl rfl), ↓dZ_90 hL (Or.inr rfl), ↓dZ_90 hL (nB_01 _), ↓reduceIte, ↓kq_bi, ↓kq_let, ↓kq_rz0, ↓kq_rz1, ↓kq_rzB, ↓Option.bind_some, kq_dvn, kt_lt, kf_lt, kt_eq, kf_eq, decide_true, decide_false, eq_self, Bool.false_eq_true, Bool.true_eq_false, not_true_eq_false, not_false_eq_true, jU_eq, jU_ne, jU_U, jV_eq, jV_ne, jV_V, kn_lit, kn_add, kn_mul, kn_sdm, kn_sub, kn_div, kn_nsdm, kn_lt, kn_eq, kn_pred, kn_m1, kn_m1', kn_a31, kn_shl, kn_shr, kn_bit, nB_0, nB_1, nB_t, nB_f, Nat.zero_add, Nat.add_zero, Nat.reduceAdd, Nat.reduceMul, Nat.reduceSub, Nat.reducePow]
                exact no
              · rw [hb] at yes
                have yes := yes (by decide)
                simp (disch := omega) only [↓dR_95_0 hL, d5.2.2.2, hm, F_Keep_tryFrom_b138, ↓dR_64_4 hL, ↓dK_95 hL, ↓dG_95 hL, ↓dP_95 hL, ↓dR_64_3 hL, ↓dR_95_0 hL, ↓dR_102_0 hL, ↓dR_105_0 hL, ↓dK_90 hL, ↓dG_90 hL, ↓dP_90 hL, ↓dZ_90 hL (x := nI 0) (Or.inl rfl), ↓dZ_90 hL (x := nI 1) (Or.inr rfl), ↓dZ_90 hL (Or.inl rfl), ↓dZ_90 hL (Or.inr rfl), ↓dZ_90 hL (nB_01 _), ↓reduceIte, ↓kq_bi, ↓kq_let, ↓kq_rz0, ↓kq_rz1, ↓kq_rzB, ↓Option.bind_some, kq_dvn, kt_lt, kf_lt, kt_eq, kf_eq, decide_true, decide_false, eq_self, Bool.false_eq_true, Bool.true_eq_false, not_true_eq_false, not_false_eq_true, jU_eq, jU_ne, jU_U, jV_eq, jV_ne, jV_V, kn_lit, kn_add, kn_mul, kn_sdm, kn_sub, kn_div, kn_nsdm, kn_lt, kn_eq, kn_pred, kn_m1, kn_m1', kn_a31, kn_shl, kn_shr, kn_bit, nB_0, nB_1, nB_t, nB_f, Nat.zero_add, Nat.add_zero, Nat.reduceAdd, Nat.reduceMul, Nat.reduceSub, Nat.reducePow]
                exact (by simpa only [kn_add, kn_mul] using yes)
          have g5 : ∀ j, j < k → K1 (97 + j) = J (97 + j) := fun j hj => by rw [k2 _ (by omega) (by omega)]; exact v4 j hj
          by_cases hd0 : d = 0
          · subst hd0
            simp (disch := omega) only [↓reduceIte, ↓kq_bi, ↓kq_let, ↓kq_rz0, ↓kq_rz1, ↓kq_rzB, ↓Option.bind_some, kq_dvn, kt_lt, kf_lt, kt_eq, kf_eq, decide_true, decide_false, eq_self, Bool.false_eq_true, Bool.true_eq_false, not_true_eq_false, not_false_eq_true, jU_eq, jU_ne, jU_U, jV_eq, jV_ne, jV_V, kn_lit, kn_add, kn_mul, kn_sdm, kn_sub, kn_div, kn_nsdm, kn_lt, kn_eq, kn_pred, kn_m1, kn_m1', kn_a31, kn_shl, kn_shr, kn_bit, nB_0, nB_1, nB_t, nB_f, Nat.zero_add, Nat.add_zero, Nat.reduceAdd, Nat.reduceMul, Nat.reduceSub, Nat.reducePow]
            exact fin K1 q1 v5 f1 k1 f95 g5
          · obtain ⟨e, rfl⟩ : ∃ e, d = e + 1 := ⟨d - 1, by omega⟩
            have v5' : s_kl τ g w q e = some q1 := v5
            have p1 : jKp K1 g w n bits := jKp_e (fun j _ => by rw [f95]) v2
            simp (disch := omega) only [↓dR_95_0 hL, p1.1, p1.2.1, ↓dR_64_4 hL, ↓dK_95 hL, ↓dG_95 hL, ↓dP_95 hL, ↓dR_64_3 hL, ↓dR_95_0 hL, ↓dR_102_0 hL, ↓dR_105_0 hL, ↓dK_90 hL, ↓dG_90 hL, ↓dP_90 hL, ↓dZ_90 hL (x := nI 0) (Or.inl rfl), ↓dZ_90 hL (x := nI 1) (Or.inr rfl), ↓dZ_90 hL (Or.inl rfl), ↓dZ_90 hL (Or.inr rfl), ↓dZ_90 hL (nB_01 _), ↓reduceIte, ↓kq_bi, ↓kq_let, ↓kq_rz0, ↓kq_rz1, ↓kq_rzB, ↓Option.bind_some, kq_dvn, kt_lt, kf_lt, kt_eq, kf_eq, decide_true, decide_false, eq_self, Bool.false_eq_true, Bool.true_eq_false, not_true_eq_false, not_false_eq_true, jU_eq, jU_ne, jU_U, jV_eq, jV_ne, jV_V, kn_lit, kn_add, kn_mul, kn_sdm, kn_sub, kn_div, kn_nsdm, kn_lt, kn_eq, kn_pred, kn_m1, kn_m1', kn_a31, kn_shl, kn_shr, kn_bit, nB_0, nB_1, nB_t, nB_f, Nat.zero_add, Nat.add_zero, Nat.reduceAdd, Nat.reduceMul, Nat.reduceSub, Nat.reducePow]
            refine jW_bi (c_lay hL (jQC_Sk hL f1 hQ).1 (Or.inr rfl) k1 hq1 (show g < 9 by omega) hw) (fun K2 hK2 => ?_)
            have e95 := hK2.2 95 (by omega) (by omega)
            have el : s_kl τ g w q (e + 1) = (if s_can q1 g w = true then some (s_lay τ q1 g w) else none) := by show (s_kl τ g w q e).bind _ = _; rw [v5']; rfl
            cases hc : s_can q1 g w
            · rw [hc, if_neg (show ¬ false = true by decide)] at el
              simp (disch := omega) only [↓reduceIte, ↓kq_bi, ↓kq_let, ↓kq_rz0, ↓kq_rz1, ↓kq_rzB, ↓Option.bind_some, kq_dvn, kt_lt, kf_lt, kt_eq, kf_eq, decide_true, decide_false, eq_self, Bool.false_eq_true, Bool.true_eq_false, not_true_eq_false, not_false_eq_true, jU_eq, jU_ne, jU_U, jV_eq, jV_ne, jV_V, kn_lit, kn_add, kn_mul, kn_sdm, kn_sub, kn_div, kn_nsdm, kn_lt, kn_eq, kn_pred, kn_m1, kn_m1', kn_a31, kn_shl, kn_shr, kn_bit, nB_0, nB_1, nB_t, nB_f, Nat.zero_add, Nat.add_zero, Nat.reduceAdd, Nat.reduceMul, Nat.reduceSub, Nat.reducePow]
              refine jW_s (hP K2 ⟨jSk_Sc f1 hK2.2, jKp_e (fun j _ => by rw [e95]) p1, ?_, fun j hj => by rw [hK2.2 _ (by omega) (by omega)]; exact g5 j hj⟩)
              rw [s_kB_stop hBd (fun e' h1 h2 => by
                have : s_ky τ ω g w bits k (some q) e' = none := by
                  show (s_kl τ g w q e').bind _ = none
                  have := s_kl_none el (e' - (e + 1))
                  rw [show e + 1 + (e' - (e + 1)) = e' by omega] at this
                  rw [this]; rfl
                rw [this]
                exact s_kE_none _ _ _ _ _) 3 (by omega) (Nat.le_refl 3)]
              exact jKf_e (by rw [e95, f95]) v3
            · rw [hc, if_pos (show true = true from rfl)] at el
              have h21 := hK2.1
              unfold s_layd at h21
              rw [hc, if_pos (show true = true from rfl)] at h21
              simp (disch := omega) only [↓reduceIte, ↓kq_bi, ↓kq_let, ↓kq_rz0, ↓kq_rz1, ↓kq_rzB, ↓Option.bind_some, kq_dvn, kt_lt, kf_lt, kt_eq, kf_eq, decide_true, decide_false, eq_self, Bool.false_eq_true, Bool.true_eq_false, not_true_eq_false, not_false_eq_true, jU_eq, jU_ne, jU_U, jV_eq, jV_ne, jV_V, kn_lit, kn_add, kn_mul, kn_sdm, kn_sub, kn_div, kn_nsdm, kn_lt, kn_eq, kn_pred, kn_m1, kn_m1', kn_a31, kn_shl, kn_shr, kn_bit, nB_0, nB_1, nB_t, nB_f, Nat.zero_add, Nat.add_zero, Nat.reduceAdd, Nat.reduceMul, Nat.reduceSub, Nat.reducePow]
              exact fin K2 _ el (jSk_Sc f1 hK2.2) h21 (by rw [e95, f95]) (fun j hj => by rw [hK2.2 _ (by omega) (by omega)]; exact g5 j hj)
        cases Bd with
        | none =>
          have e6 : K 95 6 = -nI 1 := v3.1
          simp (disch := omega) only [e6, ↓dR_64_4 hL, ↓dK_95 hL, ↓dG_95 hL, ↓dP_95 hL, ↓reduceIte, ↓kq_bi, ↓kq_let, ↓kq_rz0, ↓kq_rz1, ↓kq_rzB, ↓Option.bind_some, kq_dvn, kt_lt, kf_lt, kt_eq, kf_eq, decide_true, decide_false, eq_self, Bool.false_eq_true, Bool.true_eq_false, not_true_eq_false, not_false_eq_true, jU_eq, jU_ne, jU_U, jV_eq, jV_ne, jV_V, kn_lit, kn_add, kn_mul, kn_sdm, kn_sub, kn_div, kn_nsdm, kn_lt, kn_eq, kn_pred, kn_m1, kn_m1', kn_a31, kn_shl, kn_shr, kn_bit, nB_0, nB_1, nB_t, nB_f, Nat.zero_add, Nat.add_zero, Nat.reduceAdd, Nat.reduceMul, Nat.reduceSub, Nat.reducePow]
          exact key
        | some y =>
          have y10 := (v3.2.2 y rfl).1
          have hlt := of_decide_eq_true hok
          have e6 : K 95 6 = nI y.1 := v3.1
          simp (disch := omega) only [e6, ↓dR_64_4 hL, ↓dK_95 hL, ↓dG_95 hL, ↓dP_95 hL, ↓reduceIte, ↓kq_bi, ↓kq_let, ↓kq_rz0, ↓kq_rz1, ↓kq_rzB, ↓Option.bind_some, kq_dvn, kt_lt, kf_lt, kt_eq, kf_eq, decide_true, decide_false, eq_self, Bool.false_eq_true, Bool.true_eq_false, not_true_eq_false, not_false_eq_true, jU_eq, jU_ne, jU_U, jV_eq, jV_ne, jV_V, kn_lit, kn_add, kn_mul, kn_sdm, kn_sub, kn_div, kn_nsdm, kn_lt, kn_eq, kn_pred, kn_m1, kn_m1', kn_a31, kn_shl, kn_shr, kn_bit, nB_0, nB_1, nB_t, nB_f, Nat.zero_add, Nat.add_zero, Nat.reduceAdd, Nat.reduceMul, Nat.reduceSub, Nat.reducePow]
          exact key
    · obtain ⟨⟨v1, v2, v3, v4⟩, -⟩ := hV
      show jW (F_Keep_tryFrom_c35 (F_Keep_tryFrom F) (F_Keep_tryFrom_l35 (F_Keep_tryFrom F) F2) 95 (nI k) (nI s) (nI t9) (nI 3) (jz_I h K)) P
      unfold F_Keep_tryFrom_c35
      simp (disch := omega) only [F_Keep_tryFrom_b172, ↓reduceIte, ↓kq_bi, ↓kq_let, ↓kq_rz0, ↓kq_rz1, ↓kq_rzB, ↓Option.bind_some, kq_dvn, kt_lt, kf_lt, kt_eq, kf_eq, decide_true, decide_false, eq_self, Bool.false_eq_true, Bool.true_eq_false, not_true_eq_false, not_false_eq_true, jU_eq, jU_ne, jU_U, jV_eq, jV_ne, jV_V, kn_lit, kn_add, kn_mul, kn_sdm, kn_sub, kn_div, kn_nsdm, kn_lt, kn_eq, kn_pred, kn_m1, kn_m1', kn_a31, kn_shl, kn_shr, kn_bit, nB_0, nB_1, nB_t, nB_f, Nat.zero_add, Nat.add_zero, Nat.reduceAdd, Nat.reduceMul, Nat.reduceSub, Nat.reducePow]
      exact jW_s (hP K ⟨v1, v2, v3, v4⟩)
end

/-! PLAIN LEAN, 9: the class: scenes, what stands where -/
section
variable {t u l m b c a : Nat} {h : LH} {I : Nat → Nat → Int32} {τ : JTn} {i k : Nat} {Q : Type} {x : Int32}
theorem jLay_t (hL : jLay t u l m b c h) : t = 69 ∨ t = 183 := hL.2.2.2.2.1.elim (fun z => Or.inl z.1) (fun z => Or.inr z.1)
theorem jLay_u (hL : jLay t u l m b c h) : u = 69 ∨ u = 183 := hL.2.2.2.2.1.elim (fun z => Or.inr z.2) (fun z => Or.inl z.2)
theorem jLay_l (hL : jLay t u l m b c h) : l = 82 ∨ l = 196 := hL.2.2.2.2.2.1.elim (fun z => Or.inl z.1) (fun z => Or.inr z.1)
theorem jLay_m (hL : jLay t u l m b c h) : m = 82 ∨ m = 196 := hL.2.2.2.2.2.1.elim (fun z => Or.inr z.2) (fun z => Or.inl z.2)
theorem jLay_b (hL : jLay t u l m b c h) : b = 199 ∨ b = 202 := hL.2.2.2.2.2.2.1.elim (fun z => Or.inl z.1) (fun z => Or.inr z.1)
theorem jLay_c (hL : jLay t u l m b c h) : c = 199 ∨ c = 202 := hL.2.2.2.2.2.2.1.elim (fun z => Or.inr z.2) (fun z => Or.inl z.2)
theorem lk_S (hL : jLay t u l m b c h) (ha : a = 85 ∨ a = 90) : jl_kd h a = 6 := by rcases ha with rfl | rfl; exact lk_85 hL; exact lk_90 hL
theorem dK_S (hL : jLay t u l m b c h) (ha : a = 85 ∨ a = 90) {X : Option Q} : jf_kd (jz_I h I) a 6 X = X := if_pos (lk_S hL ha)
theorem dG_S (hL : jLay t u l m b c h) (ha : a = 85 ∨ a = 90) {K : Int32 → Option Q} : jf_gi (jz_I h I) a 6 k K = K (I a k) := if_pos (lk_S hL ha)
theorem dP_S (hL : jLay t u l m b c h) (ha : a = 85 ∨ a = 90) {K : LH → Option Q} : jf_pi (jz_I h I) a 6 k x K = K (jz_I h (jU I a (jV (I a) k x))) := (if_pos ⟨lk_S hL ha, by omega⟩).trans (by rw [jz_setI])
theorem dZ_S (hL : jLay t u l m b c h) (ha : a = 85 ∨ a = 90) {K : LH → Option Q} (hx : x = 0 ∨ x = 1) : jf_pz (jz_I h I) a 6 k x K = K (jz_I h (jU I a (jV (I a) k x))) := (if_pos ⟨⟨lk_S hL ha, by omega⟩, hx⟩).trans (by rw [jz_setI])
theorem dR_S_0 (hL : jLay t u l m b c h) (ha : a = 85 ∨ a = 90) {K : Nat → Option Q} : jf_gr (jz_I h I) a 6 0 K = K (a + 1) := by rcases ha with rfl | rfl; exact dR_85_0 hL; exact dR_90_0 hL
theorem dR_S_7 (hL : jLay t u l m b c h) (ha : a = 85 ∨ a = 90) {K : Nat → Option Q} : jf_gr (jz_I h I) a 6 7 K = K (a + 2) := by rcases ha with rfl | rfl; exact dR_85_7 hL; exact dR_90_7 hL
theorem dR_S_8 (hL : jLay t u l m b c h) (ha : a = 85 ∨ a = 90) {K : Nat → Option Q} : jf_gr (jz_I h I) a 6 8 K = K (a + 3) := by rcases ha with rfl | rfl; exact dR_85_8 hL; exact dR_90_8 hL
theorem dR_S_9 (hL : jLay t u l m b c h) (ha : a = 85 ∨ a = 90) {K : Nat → Option Q} : jf_gr (jz_I h I) a 6 9 K = K (a + 4) := by rcases ha with rfl | rfl; exact dR_85_9 hL; exact dR_90_9 hL
theorem dR_S_1 (hL : jLay t u l m b c h) (ha : a = 85 ∨ a = 90) {K : Nat → Option Q} : jf_gr (jz_I h I) a 6 1 K = K (t) := by rcases ha with rfl | rfl; exact dR_85_1 hL; exact dR_90_1 hL
theorem dR_S_2 (hL : jLay t u l m b c h) (ha : a = 85 ∨ a = 90) {K : Nat → Option Q} : jf_gr (jz_I h I) a 6 2 K = K (l) := by rcases ha with rfl | rfl; exact dR_85_2 hL; exact dR_90_2 hL
theorem lk_S1 (hL : jLay t u l m b c h) (ha : a = 85 ∨ a = 90) : jl_kd h (a + 1) = 20 := by rcases ha with rfl | rfl; exact lk_86 hL; exact lk_91 hL
theorem ll_S1 (hL : jLay t u l m b c h) (ha : a = 85 ∨ a = 90) : jl_ln h (a + 1) = 134 := by rcases ha with rfl | rfl; exact ll_86 hL; exact ll_91 hL
theorem dI_S1 (hL : jLay t u l m b c h) (ha : a = 85 ∨ a = 90) {K : Int32 → Option Q} (hi : i < 134) : jf_ia (jz_I h I) (a + 1) (nI i) K = K (I (a + 1) i) := by rcases ha with rfl | rfl; exact dI_86 hL hi; exact dI_91 hL hi
theorem dS_S1 (hL : jLay t u l m b c h) (ha : a = 85 ∨ a = 90) {K : LH → Option Q} (hi : i < 134) : jf_is (jz_I h I) (a + 1) (nI i) x K = K (jz_I h (jU I (a + 1) (jV (I (a + 1)) i x))) := by rcases ha with rfl | rfl; exact dS_86 hL hi; exact dS_91 hL hi
theorem lk_S2 (hL : jLay t u l m b c h) (ha : a = 85 ∨ a = 90) : jl_kd h (a + 2) = 20 := by rcases ha with rfl | rfl; exact lk_87 hL; exact lk_92 hL
theorem ll_S2 (hL : jLay t u l m b c h) (ha : a = 85 ∨ a = 90) : jl_ln h (a + 2) = 9 := by rcases ha with rfl | rfl; exact ll_87 hL; exact ll_92 hL
theorem dI_S2 (hL : jLay t u l m b c h) (ha : a = 85 ∨ a = 90) {K : Int32 → Option Q} (hi : i < 9) : jf_ia (jz_I h I) (a + 2) (nI i) K = K (I (a + 2) i) := by rcases ha with rfl | rfl; exact dI_87 hL hi; exact dI_92 hL hi
theorem dS_S2 (hL : jLay t u l m b c h) (ha : a = 85 ∨ a = 90) {K : LH → Option Q} (hi : i < 9) : jf_is (jz_I h I) (a + 2) (nI i) x K = K (jz_I h (jU I (a + 2) (jV (I (a + 2)) i x))) := by rcases ha with rfl | rfl; exact dS_87 hL hi; exact dS_92 hL hi
theorem lk_S3 (hL : jLay t u l m b c h) (ha : a = 85 ∨ a = 90) : jl_kd h (a + 3) = 20 := by rcases ha with rfl | rfl; exact lk_88 hL; exact lk_93 hL
theorem ll_S3 (hL : jLay t u l m b c h) (ha : a = 85 ∨ a = 90) : jl_ln h (a + 3) = 9 := by rcases ha with rfl | rfl; exact ll_88 hL; exact ll_93 hL
theorem dI_S3 (hL : jLay t u l m b c h) (ha : a = 85 ∨ a = 90) {K : Int32 → Option Q} (hi : i < 9) : jf_ia (jz_I h I) (a + 3) (nI i) K = K (I (a + 3) i) := by rcases ha with rfl | rfl; exact dI_88 hL hi; exact dI_93 hL hi
theorem dS_S3 (hL : jLay t u l m b c h) (ha : a = 85 ∨ a = 90) {K : LH → Option Q} (hi : i < 9) : jf_is (jz_I h I) (a + 3) (nI i) x K = K (jz_I h (jU I (a + 3) (jV (I (a + 3)) i x))) := by rcases ha with rfl | rfl; exact dS_88 hL hi; exact dS_93 hL hi
theorem lk_S4 (hL : jLay t u l m b c h) (ha : a = 85 ∨ a = 90) : jl_kd h (a + 4) = 20 := by rcases ha with rfl | rfl; exact lk_89 hL; exact lk_94 hL
theorem ll_S4 (hL : jLay t u l m b c h) (ha : a = 85 ∨ a = 90) : jl_ln h (a + 4) = 7 := by rcases ha with rfl | rfl; exact ll_89 hL; exact ll_94 hL
theorem dI_S4 (hL : jLay t u l m b c h) (ha : a = 85 ∨ a = 90) {K : Int32 → Option Q} (hi : i < 7) : jf_ia (jz_I h I) (a + 4) (nI i) K = K (I (a + 4) i) := by rcases ha with rfl | rfl; exact dI_89 hL hi; exact dI_94 hL hi
theorem dS_S4 (hL : jLay t u l m b c h) (ha : a = 85 ∨ a = 90) {K : LH → Option Q} (hi : i < 7) : jf_is (jz_I h I) (a + 4) (nI i) x K = K (jz_I h (jU I (a + 4) (jV (I (a + 4)) i x))) := by rcases ha with rfl | rfl; exact dS_89 hL hi; exact dS_94 hL hi
theorem cT_f0 (hT : jCT I a τ) : I a 0 = nI (τ 0 0) := hT.1
theorem cT_f1 (hT : jCT I a τ) : I a 1 = nI (τ 0 1) := hT.2.1
theorem cT_f2 (hT : jCT I a τ) : I a 2 = nI (τ 0 4) := hT.2.2.1
theorem cT_f3 (hT : jCT I a τ) : I a 3 = nI (τ 0 5) := hT.2.2.2.1
theorem cT_f4 (hT : jCT I a τ) : I a 4 = nI (τ 0 2) := hT.2.2.2.2.1
theorem cT_f5 (hT : jCT I a τ) : I a 5 = nI (τ 0 3) := hT.2.2.2.2.2.1
theorem cT_a1 (hT : jCT I a τ) (hk : k < τ 0 0) : I (a + 1) k = nI (τ 1 k) := hT.2.2.2.2.2.2.1 k hk
theorem cT_a2 (hT : jCT I a τ) (hk : k < τ 0 1) : I (a + 2) k = nI (τ 2 k) := hT.2.2.2.2.2.2.2.1 k hk
theorem cT_a3 (hT : jCT I a τ) (hk : k < τ 0 1) : I (a + 3) k = nI (τ 3 k) := hT.2.2.2.2.2.2.2.2.1 k hk
theorem cT_a4 (hT : jCT I a τ) (hk : k < τ 0 1) : I (a + 4) k = nI (τ 4 k) := hT.2.2.2.2.2.2.2.2.2.1 k hk
theorem cT_a5 (hT : jCT I a τ) (hk : k < τ 0 1) : I (a + 5) k = nI (τ 5 k) := hT.2.2.2.2.2.2.2.2.2.2.1 k hk
theorem cT_a6 (hT : jCT I a τ) (hk : k < τ 0 4) : I (a + 6) k = nI (τ 6 k) := hT.2.2.2.2.2.2.2.2.2.2.2.1 k hk
theorem cT_a7 (hT : jCT I a τ) (hk : k < τ 0 5) : I (a + 7) k = nI (τ 7 k) := hT.2.2.2.2.2.2.2.2.2.2.2.2.1 k hk
theorem cT_a8 (hT : jCT I a τ) (hk : k < τ 0 5) : I (a + 8) k = nI (τ 8 k) := hT.2.2.2.2.2.2.2.2.2.2.2.2.2.1 k hk
theorem cT_a9 (hT : jCT I a τ) (hk : k < τ 0 2) : I (a + 9) k = nI (τ 9 k) := hT.2.2.2.2.2.2.2.2.2.2.2.2.2.2.1 k hk
theorem cT_a10 (hT : jCT I a τ) (hk : k < τ 0 2) : I (a + 10) k = nI (τ 10 k) := hT.2.2.2.2.2.2.2.2.2.2.2.2.2.2.2.1 k hk
theorem cT_a11 (hT : jCT I a τ) (hk : k < τ 0 2) : I (a + 11) k = nI (τ 11 k) := hT.2.2.2.2.2.2.2.2.2.2.2.2.2.2.2.2.1 k hk
theorem cT_a12 (hT : jCT I a τ) (hk : k < τ 0 3) : I (a + 12) k = nI (τ 12 k) := hT.2.2.2.2.2.2.2.2.2.2.2.2.2.2.2.2.2 k hk
end
/-- numbers below 0 -/
theorem kn_tin {a : Nat} (ha : a < 2147483648) : (-nI a).toInt = -(a : Int) := by
  rw [Int32.toInt_neg, kn_ti ha, Int.bmod_eq_of_le (by omega) (by omega)]
theorem kn_nlt {a b : Nat} (ha : a < 2147483648) (hb : b < 2147483648) : (-nI a < -nI b) = (b < a) := by
  rw [Int32.lt_iff_toInt_lt, kn_tin ha, kn_tin hb]
  exact propext ⟨fun h => by omega, fun h => by omega⟩
theorem kn_nltp {a b : Nat} (h1 : 1 ≤ a) (ha : a < 2147483648) (hb : b < 2147483648) : (-nI a < nI b) = True := by
  rw [Int32.lt_iff_toInt_lt, kn_tin ha, kn_ti hb]
  exact eq_true (by omega)
theorem kn_pltn {a b : Nat} (ha : a < 2147483648) (hb : b < 2147483648) : (nI b < -nI a) = False := by
  rw [Int32.lt_iff_toInt_lt, kn_tin ha, kn_ti hb]
  exact eq_false (by omega)
theorem kn_neq {a b : Nat} (ha : a < 2147483648) (hb : b < 2147483648) : (-nI a = -nI b) = (a = b) := by
  rw [Int32.neg_inj]
  exact kn_eq ha hb
theorem kn_nsub (a b : Nat) : -nI a - nI b = -nI (a + b) := by rw [← kn_add, Int32.neg_add]
theorem kn_nn {a b : Nat} (h : a ≤ b) : -nI a - -nI b = nI (b - a) := by
  rw [Int32.sub_neg, Int32.add_comm, ← Int32.sub_eq_add_neg, kn_sub h]
/-- a loop that looks whether there is one -/
theorem jz_any {R : Type} (f : Nat → Nat → R) (N : Nat) (p : Nat → Bool) (rt rf : R) (hs : ∀ n k, k < N → p k = false → f (n + 1) k = f n (k + 1)) (ht : ∀ n k, k < N → p k = true → f (n + 1) k = rt) (he : ∀ n, f (n + 1) N = rf) (fuel : Nat) (hf : N < fuel) : f fuel 0 = if s_any p N = true then rt else rf := by
  have key : ∀ (fuel k : Nat), k ≤ N → N - k < fuel → s_any p k = false → f fuel k = if s_any p N = true then rt else rf := by
    intro fuel
    induction fuel with
    | zero => intro k _ h; omega
    | succ n ih =>
      intro k hk hf ha
      rcases Nat.lt_or_eq_of_le hk with h | h
      · cases hp : p k with
        | true => rw [ht n k h hp, if_pos (s_any_true.mpr ⟨k, h, hp⟩)]
        | false =>
          rw [hs n k h hp]
          exact ih (k + 1) h (by omega) (by show (s_any p k || p k) = false; rw [ha, hp]; rfl)
      · subst h
        rw [he n, ha]
        rfl
  exact key fuel 0 (Nat.zero_le _) (by omega) rfl
/-- what the class's hours rest on -/
def jCE (I : Nat → Nat → Int32) (t l : Nat) (τ : JTn) (ω : JLw) : Prop := jCT I t τ ∧ jTOK τ ∧ jCL I l ω ∧ jLOK ω
/-- a scene has looked -/
def jCK (I : Nat → Nat → Int32) (σ : Nat) (τ : JTn) (d : Bool) (r : JRw) : Prop := I σ 4 = nI 1 ∧ I σ 5 = nI (s_wind τ (r 133)) ∧ I σ 6 = nB (s_rain τ d (r 133)) ∧ ∀ g, g < τ 0 0 → I (σ + 2) g = nI (s_sma τ d r g) ∧ I (σ + 3) g = nI (s_sca τ r g)
/-- a scene holds a row -/
def jCS (I : Nat → Nat → Int32) (σ : Nat) (τ : JTn) (d : Bool) (r : JRw) : Prop := jCR I (σ + 1) r ∧ I σ 3 = nB d ∧ (I σ 4 = nI 0 ∨ jCK I σ τ d r)
/-- all but a scene and a law's stack -/
def jSc (l σ : Nat) (I J : Nat → Nat → Int32) : Prop := ∀ a, ¬ (σ ≤ a ∧ a < σ + 5) → ¬ a = l + 2 → J a = I a
section
variable {t u l m b c : Nat} {h : LH} {I J K : Nat → Nat → Int32} {τ : JTn} {r : JRw} {σ i : Nat} {Q : Type} {x : Int32} {d : Bool} {ω : JLw}
theorem jSc_refl : jSc l σ I I := fun _ _ _ => rfl
theorem jSc_trans (h1 : jSc l σ I J) (h2 : jSc l σ J K) : jSc l σ I K := fun a x y => (h2 a x y).trans (h1 a x y)
theorem jCE_Sc (hL : jLay t u l m b c h) (hσ : σ = 85 ∨ σ = 90) (hS : jSc l σ I J) (hE : jCE I t l τ ω) : jCE J t l τ ω := by
  have ht := jLay_t hL
  have hl := jLay_l hL
  refine ⟨jCT_congr (fun i hi => hS _ (by omega) (by omega)) hE.1, hE.2.1, ⟨?_, fun k hk => ?_⟩, hE.2.2.2⟩
  · rw [hS l (by omega) (by omega)]; exact hE.2.2.1.1
  · rw [hS (l + 1) (by omega) (by omega)]; exact hE.2.2.1.2 k hk
theorem jCR_congr {ρ : Nat} (h : J ρ = I ρ) (hR : jCR I ρ r) : jCR J ρ r := by unfold jCR at hR ⊢; rw [h]; exact hR
theorem c_windIn (hL : jLay t u l m b c h) (hT : jCT I t τ) (ho : jTOK τ) {hr : Nat} (hh : hr < 100000) : F_Town_windIn t (nI hr) (jz_I h I) = some (nI (s_wind τ hr), jz_I h I) := by
  have ht := jLay_t hL
  unfold F_Town_windIn s_wind
  have o4 : τ 0 4 ≤ 24 := ho.2.2.2.2.1
  by_cases h0 : τ 0 4 = 0
  · simp (disch := omega) only [F_Town_windIn_b26, F_Town_windIn_b25, cT_f2 hT, h0, ↓dK_T hL ht, ↓dG_T hL ht, ↓dP_T hL ht, ↓reduceIte, ↓kq_bi, ↓kq_let, ↓kq_rz0, ↓kq_rz1, ↓kq_rzB, ↓Option.bind_some, kq_dvn, kt_lt, kf_lt, kt_eq, kf_eq, decide_true, decide_false, eq_self, Bool.false_eq_true, Bool.true_eq_false, not_true_eq_false, not_false_eq_true, jU_eq, jU_ne, jU_U, jV_eq, jV_ne, jV_V, kn_lit, kn_add, kn_mul, kn_sdm, kn_sub, kn_div, kn_nsdm, kn_lt, kn_eq, kn_pred, kn_m1, kn_m1', kn_a31, kn_shl, kn_shr, kn_bit, nB_0, nB_1, nB_t, nB_f, Nat.zero_add, Nat.add_zero, Nat.reduceAdd, Nat.reduceMul, Nat.reduceSub, Nat.reducePow]
  · have := Nat.mod_lt hr (by omega : 0 < τ 0 4)
    simp (disch := omega) only [F_Town_windIn_b26, F_Town_windIn_b25, cT_f2 hT, cT_a6 hT, h0, ↓dK_T hL ht, ↓dG_T hL ht, ↓dP_T hL ht, ↓dR_T_11 hL ht, dI_T6 hL ht, dS_T6 hL ht, ↓reduceIte, ↓kq_bi, ↓kq_let, ↓kq_rz0, ↓kq_rz1, ↓kq_rzB, ↓Option.bind_some, kq_dvn, kt_lt, kf_lt, kt_eq, kf_eq, decide_true, decide_false, eq_self, Bool.false_eq_true, Bool.true_eq_false, not_true_eq_false, not_false_eq_true, jU_eq, jU_ne, jU_U, jV_eq, jV_ne, jV_V, kn_lit, kn_add, kn_mul, kn_sdm, kn_sub, kn_div, kn_nsdm, kn_lt, kn_eq, kn_pred, kn_m1, kn_m1', kn_a31, kn_shl, kn_shr, kn_bit, nB_0, nB_1, nB_t, nB_f, Nat.zero_add, Nat.add_zero, Nat.reduceAdd, Nat.reduceMul, Nat.reduceSub, Nat.reducePow]
theorem c_rainsIn (hL : jLay t u l m b c h) (hT : jCT I t τ) (ho : jTOK τ) {hr : Nat} (hh : hr < 100000) : F_Town_rainsIn t (nI hr) (jz_I h I) = some (nB (s_any (fun k => decide (τ 7 k ≤ hr ∧ hr ≤ τ 8 k)) (τ 0 5)), jz_I h I) := by
  have ht := jLay_t hL
  have o5 : τ 0 5 ≤ 6 := ho.2.2.2.2.2.1
  unfold F_Town_rainsIn
  refine (jz_any (fun fuel k => F_Town_rainsIn_l2 fuel t (nI hr) (nI k) (jz_I h I)) (τ 0 5) (fun k => decide (τ 7 k ≤ hr ∧ hr ≤ τ 8 k)) (some (nI 1, jz_I h I)) (some (nI 0, jz_I h I)) (fun n k hk hp => ?_) (fun n k hk hp => ?_) (fun n => ?_) jF (by show _ < 1000; omega)).trans (by cases s_any (fun k => decide (τ 7 k ≤ hr ∧ hr ≤ τ 8 k)) (τ 0 5) <;> rfl)
  · have hp := of_decide_eq_false hp
    obtain ⟨h7, h8⟩ := ho.2.2.2.2.2.2.2.2.2.1 k hk
    show F_Town_rainsIn_c2 (F_Town_rainsIn_l2 n) t (nI hr) (nI k) (jz_I h I) = F_Town_rainsIn_l2 n t (nI hr) (nI (k + 1)) (jz_I h I)
    unfold F_Town_rainsIn_c2
    by_cases h1 : hr < τ 7 k
    · simp (disch := omega) only [F_Town_rainsIn_b32, cT_f3 hT, cT_a7 hT, cT_a8 hT, ↓dK_T hL ht, ↓dG_T hL ht, ↓dP_T hL ht, ↓dR_T_12 hL ht, dI_T7 hL ht, dS_T7 hL ht, ↓dR_T_13 hL ht, dI_T8 hL ht, dS_T8 hL ht, ↓reduceIte, ↓kq_bi, ↓kq_let, ↓kq_rz0, ↓kq_rz1, ↓kq_rzB, ↓Option.bind_some, kq_dvn, kt_lt, kf_lt, kt_eq, kf_eq, decide_true, decide_false, eq_self, Bool.false_eq_true, Bool.true_eq_false, not_true_eq_false, not_false_eq_true, jU_eq, jU_ne, jU_U, jV_eq, jV_ne, jV_V, kn_lit, kn_add, kn_mul, kn_sdm, kn_sub, kn_div, kn_nsdm, kn_lt, kn_eq, kn_pred, kn_m1, kn_m1', kn_a31, kn_shl, kn_shr, kn_bit, nB_0, nB_1, nB_t, nB_f, Nat.zero_add, Nat.add_zero, Nat.reduceAdd, Nat.reduceMul, Nat.reduceSub, Nat.reducePow]
    · simp (disch := omega) only [F_Town_rainsIn_b32, cT_f3 hT, cT_a7 hT, cT_a8 hT, ↓dK_T hL ht, ↓dG_T hL ht, ↓dP_T hL ht, ↓dR_T_12 hL ht, dI_T7 hL ht, dS_T7 hL ht, ↓dR_T_13 hL ht, dI_T8 hL ht, dS_T8 hL ht, ↓reduceIte, ↓kq_bi, ↓kq_let, ↓kq_rz0, ↓kq_rz1, ↓kq_rzB, ↓Option.bind_some, kq_dvn, kt_lt, kf_lt, kt_eq, kf_eq, decide_true, decide_false, eq_self, Bool.false_eq_true, Bool.true_eq_false, not_true_eq_false, not_false_eq_true, jU_eq, jU_ne, jU_U, jV_eq, jV_ne, jV_V, kn_lit, kn_add, kn_mul, kn_sdm, kn_sub, kn_div, kn_nsdm, kn_lt, kn_eq, kn_pred, kn_m1, kn_m1', kn_a31, kn_shl, kn_shr, kn_bit, nB_0, nB_1, nB_t, nB_f, Nat.zero_add, Nat.add_zero, Nat.reduceAdd, Nat.reduceMul, Nat.reduceSub, Nat.reducePow]
  · have hp := of_decide_eq_true hp
    obtain ⟨h7, h8⟩ := ho.2.2.2.2.2.2.2.2.2.1 k hk
    show F_Town_rainsIn_c2 (F_Town_rainsIn_l2 n) t (nI hr) (nI k) (jz_I h I) = some (nI 1, jz_I h I)
    unfold F_Town_rainsIn_c2
    simp (disch := omega) only [F_Town_rainsIn_b32, cT_f3 hT, cT_a7 hT, cT_a8 hT, ↓dK_T hL ht, ↓dG_T hL ht, ↓dP_T hL ht, ↓dR_T_12 hL ht, dI_T7 hL ht, dS_T7 hL ht, ↓dR_T_13 hL ht, dI_T8 hL ht, dS_T8 hL ht, ↓reduceIte, ↓kq_bi, ↓kq_let, ↓kq_rz0, ↓kq_rz1, ↓kq_rzB, ↓Option.bind_some, kq_dvn, kt_lt, kf_lt, kt_eq, kf_eq, decide_true, decide_false, eq_self, Bool.false_eq_true, Bool.true_eq_false, not_true_eq_false, not_false_eq_true, jU_eq, jU_ne, jU_U, jV_eq, jV_ne, jV_V, kn_lit, kn_add, kn_mul, kn_sdm, kn_sub, kn_div, kn_nsdm, kn_lt, kn_eq, kn_pred, kn_m1, kn_m1', kn_a31, kn_shl, kn_shr, kn_bit, nB_0, nB_1, nB_t, nB_f, Nat.zero_add, Nat.add_zero, Nat.reduceAdd, Nat.reduceMul, Nat.reduceSub, Nat.reducePow]
  · show F_Town_rainsIn_c2 (F_Town_rainsIn_l2 n) t (nI hr) (nI (τ 0 5)) (jz_I h I) = some (nI 0, jz_I h I)
    unfold F_Town_rainsIn_c2
    simp (disch := omega) only [F_Town_rainsIn_b32, cT_f3 hT, ↓dK_T hL ht, ↓dG_T hL ht, ↓dP_T hL ht, ↓dR_T_12 hL ht, dI_T7 hL ht, dS_T7 hL ht, ↓dR_T_13 hL ht, dI_T8 hL ht, dS_T8 hL ht, ↓reduceIte, ↓kq_bi, ↓kq_let, ↓kq_rz0, ↓kq_rz1, ↓kq_rzB, ↓Option.bind_some, kq_dvn, kt_lt, kf_lt, kt_eq, kf_eq, decide_true, decide_false, eq_self, Bool.false_eq_true, Bool.true_eq_false, not_true_eq_false, not_false_eq_true, jU_eq, jU_ne, jU_U, jV_eq, jV_ne, jV_V, kn_lit, kn_add, kn_mul, kn_sdm, kn_sub, kn_div, kn_nsdm, kn_lt, kn_eq, kn_pred, kn_m1, kn_m1', kn_a31, kn_shl, kn_shr, kn_bit, nB_0, nB_1, nB_t, nB_f, Nat.zero_add, Nat.add_zero, Nat.reduceAdd, Nat.reduceMul, Nat.reduceSub, Nat.reducePow]
theorem c_hourNow (hL : jLay t u l m b c h) (hσ : σ = 85 ∨ σ = 90) (hR : jCR I (σ + 1) r) : F_Scene_hourNow σ (jz_I h I) = some (nI (r 133), jz_I h I) := by
  unfold F_Scene_hourNow
  simp (disch := omega) only [hR.1, ↓dK_S hL hσ, ↓dG_S hL hσ, ↓dP_S hL hσ, ↓dZ_S hL hσ (x := nI 0) (Or.inl rfl), ↓dZ_S hL hσ (x := nI 1) (Or.inr rfl), ↓dZ_S hL hσ (Or.inl rfl), ↓dZ_S hL hσ (Or.inr rfl), ↓dZ_S hL hσ (nB_01 _), ↓dR_S_1 hL hσ, ↓dR_S_2 hL hσ, ↓dR_S_0 hL hσ, dI_S1 hL hσ, dS_S1 hL hσ, ↓reduceIte, ↓kq_bi, ↓kq_let, ↓kq_rz0, ↓kq_rz1, ↓kq_rzB, ↓Option.bind_some, kq_dvn, kt_lt, kf_lt, kt_eq, kf_eq, decide_true, decide_false, eq_self, Bool.false_eq_true, Bool.true_eq_false, not_true_eq_false, not_false_eq_true, jU_eq, jU_ne, jU_U, jV_eq, jV_ne, jV_V, kn_lit, kn_add, kn_mul, kn_sdm, kn_sub, kn_div, kn_nsdm, kn_lt, kn_eq, kn_pred, kn_m1, kn_m1', kn_a31, kn_shl, kn_shr, kn_bit, nB_0, nB_1, nB_t, nB_f, Nat.zero_add, Nat.add_zero, Nat.reduceAdd, Nat.reduceMul, Nat.reduceSub, Nat.reducePow]
theorem c_burning (hL : jLay t u l m b c h) (hσ : σ = 85 ∨ σ = 90) (hR : jCR I (σ + 1) r) {g : Nat} (hg : g < 9) : F_Scene_burning σ (nI g) (jz_I h I) = some (nI (r (108 + g)), jz_I h I) := by
  unfold F_Scene_burning
  simp (disch := omega) only [hR.2.2.2.1, ↓dK_S hL hσ, ↓dG_S hL hσ, ↓dP_S hL hσ, ↓dZ_S hL hσ (x := nI 0) (Or.inl rfl), ↓dZ_S hL hσ (x := nI 1) (Or.inr rfl), ↓dZ_S hL hσ (Or.inl rfl), ↓dZ_S hL hσ (Or.inr rfl), ↓dZ_S hL hσ (nB_01 _), ↓dR_S_1 hL hσ, ↓dR_S_2 hL hσ, ↓dR_S_0 hL hσ, dI_S1 hL hσ, dS_S1 hL hσ, ↓reduceIte, ↓kq_bi, ↓kq_let, ↓kq_rz0, ↓kq_rz1, ↓kq_rzB, ↓Option.bind_some, kq_dvn, kt_lt, kf_lt, kt_eq, kf_eq, decide_true, decide_false, eq_self, Bool.false_eq_true, Bool.true_eq_false, not_true_eq_false, not_false_eq_true, jU_eq, jU_ne, jU_U, jV_eq, jV_ne, jV_V, kn_lit, kn_add, kn_mul, kn_sdm, kn_sub, kn_div, kn_nsdm, kn_lt, kn_eq, kn_pred, kn_m1, kn_m1', kn_a31, kn_shl, kn_shr, kn_bit, nB_0, nB_1, nB_t, nB_f, Nat.zero_add, Nat.add_zero, Nat.reduceAdd, Nat.reduceMul, Nat.reduceSub, Nat.reducePow]
theorem c_woodOf (hL : jLay t u l m b c h) (hσ : σ = 85 ∨ σ = 90) (hR : jCR I (σ + 1) r) (hr : jROK τ r) {g k : Nat} (hg : g < 9) (hk : k < r (108 + g)) : F_Scene_woodOf σ (nI g) (nI k) (jz_I h I) = some (nI (r (6 * g + k)), jz_I h I) := by
  have b := hr.1 g hg
  have e := (hR.2.2.2.2 g k hg hk).1
  unfold F_Scene_woodOf
  simp (disch := omega) only [show 26 + g * 6 + k = 26 + (6 * g + k) from (by omega), e, ↓dK_S hL hσ, ↓dG_S hL hσ, ↓dP_S hL hσ, ↓dZ_S hL hσ (x := nI 0) (Or.inl rfl), ↓dZ_S hL hσ (x := nI 1) (Or.inr rfl), ↓dZ_S hL hσ (Or.inl rfl), ↓dZ_S hL hσ (Or.inr rfl), ↓dZ_S hL hσ (nB_01 _), ↓dR_S_1 hL hσ, ↓dR_S_2 hL hσ, ↓dR_S_0 hL hσ, dI_S1 hL hσ, dS_S1 hL hσ, ↓reduceIte, ↓kq_bi, ↓kq_let, ↓kq_rz0, ↓kq_rz1, ↓kq_rzB, ↓Option.bind_some, kq_dvn, kt_lt, kf_lt, kt_eq, kf_eq, decide_true, decide_false, eq_self, Bool.false_eq_true, Bool.true_eq_false, not_true_eq_false, not_false_eq_true, jU_eq, jU_ne, jU_U, jV_eq, jV_ne, jV_V, kn_lit, kn_add, kn_mul, kn_sdm, kn_sub, kn_div, kn_nsdm, kn_lt, kn_eq, kn_pred, kn_m1, kn_m1', kn_a31, kn_shl, kn_shr, kn_bit, nB_0, nB_1, nB_t, nB_f, Nat.zero_add, Nat.add_zero, Nat.reduceAdd, Nat.reduceMul, Nat.reduceSub, Nat.reducePow]
theorem c_leftOf (hL : jLay t u l m b c h) (hσ : σ = 85 ∨ σ = 90) (hR : jCR I (σ + 1) r) (hr : jROK τ r) {g k : Nat} (hg : g < 9) (hk : k < r (108 + g)) : F_Scene_leftOf σ (nI g) (nI k) (jz_I h I) = some (nI (r (54 + (6 * g + k))), jz_I h I) := by
  have b := hr.1 g hg
  have e := (hR.2.2.2.2 g k hg hk).2
  unfold F_Scene_leftOf
  simp (disch := omega) only [show 80 + g * 6 + k = 80 + (6 * g + k) from (by omega), e, ↓dK_S hL hσ, ↓dG_S hL hσ, ↓dP_S hL hσ, ↓dZ_S hL hσ (x := nI 0) (Or.inl rfl), ↓dZ_S hL hσ (x := nI 1) (Or.inr rfl), ↓dZ_S hL hσ (Or.inl rfl), ↓dZ_S hL hσ (Or.inr rfl), ↓dZ_S hL hσ (nB_01 _), ↓dR_S_1 hL hσ, ↓dR_S_2 hL hσ, ↓dR_S_0 hL hσ, dI_S1 hL hσ, dS_S1 hL hσ, ↓reduceIte, ↓kq_bi, ↓kq_let, ↓kq_rz0, ↓kq_rz1, ↓kq_rzB, ↓Option.bind_some, kq_dvn, kt_lt, kf_lt, kt_eq, kf_eq, decide_true, decide_false, eq_self, Bool.false_eq_true, Bool.true_eq_false, not_true_eq_false, not_false_eq_true, jU_eq, jU_ne, jU_U, jV_eq, jV_ne, jV_V, kn_lit, kn_add, kn_mul, kn_sdm, kn_sub, kn_div, kn_nsdm, kn_lt, kn_eq, kn_pred, kn_m1, kn_m1', kn_a31, kn_shl, kn_shr, kn_bit, nB_0, nB_1, nB_t, nB_f, Nat.zero_add, Nat.add_zero, Nat.reduceAdd, Nat.reduceMul, Nat.reduceSub, Nat.reducePow]
theorem c_standsByLean (hL : jLay t u l m b c h) (hσ : σ = 85 ∨ σ = 90) (hT : jCT I t τ) (ho : jTOK τ) (hw5 : I σ 5 = nI (s_wind τ (r 133))) {g k : Nat} (hg : g < τ 0 0) (hk : k ≤ 3) : F_Scene_standsByLean σ (nI g) (nI k) (jz_I h I) = some (nI (s_stl τ r g k), jz_I h I) := by
  have ht := jLay_t hL
  have o0 : τ 0 0 ≤ 9 := ho.1
  have hw := s_wind_le ho (r 133)
  unfold F_Scene_standsByLean s_stl
  simp (disch := omega) only [F_Scene_standsByLean_b30, cT_f0 hT, hw5, ↓dK_S hL hσ, ↓dG_S hL hσ, ↓dP_S hL hσ, ↓dZ_S hL hσ (x := nI 0) (Or.inl rfl), ↓dZ_S hL hσ (x := nI 1) (Or.inr rfl), ↓dZ_S hL hσ (Or.inl rfl), ↓dZ_S hL hσ (Or.inr rfl), ↓dZ_S hL hσ (nB_01 _), ↓dR_S_1 hL hσ, ↓dR_S_2 hL hσ, ↓dK_T hL ht, ↓dG_T hL ht, ↓dP_T hL ht, ↓reduceIte, ↓kq_bi, ↓kq_let, ↓kq_rz0, ↓kq_rz1, ↓kq_rzB, ↓Option.bind_some, kq_dvn, kt_lt, kf_lt, kt_eq, kf_eq, decide_true, decide_false, eq_self, Bool.false_eq_true, Bool.true_eq_false, not_true_eq_false, not_false_eq_true, jU_eq, jU_ne, jU_U, jV_eq, jV_ne, jV_V, kn_lit, kn_add, kn_mul, kn_sdm, kn_sub, kn_div, kn_nsdm, kn_lt, kn_eq, kn_pred, kn_m1, kn_m1', kn_a31, kn_shl, kn_shr, kn_bit, nB_0, nB_1, nB_t, nB_f, Nat.zero_add, Nat.add_zero, Nat.reduceAdd, Nat.reduceMul, Nat.reduceSub, Nat.reducePow]
theorem c_thickNow (hL : jLay t u l m b c h) (hσ : σ = 85 ∨ σ = 90) (hT : jCT I t τ) (ho : jTOK τ) (hw6 : I σ 6 = nB (s_rain τ d (r 133))) {w : Nat} (hw : w < τ 0 1) : F_Scene_thickNow σ (nI w) (jz_I h I) = some (nI (s_th τ d r w), jz_I h I) := by
  have ht := jLay_t hL
  have o1 : τ 0 1 ≤ 6 := ho.2.1
  have hb := ho.2.2.2.2.2.2.2.1 w hw
  unfold F_Scene_thickNow s_th
  cases hr : s_rain τ d (r 133)
  · rw [hr] at hw6
    simp (disch := omega) only [F_Scene_thickNow_b31, cT_a2 hT, hw6, Nat.div_one, show (false = true) = False from (by simp), ↓dK_S hL hσ, ↓dG_S hL hσ, ↓dP_S hL hσ, ↓dZ_S hL hσ (x := nI 0) (Or.inl rfl), ↓dZ_S hL hσ (x := nI 1) (Or.inr rfl), ↓dZ_S hL hσ (Or.inl rfl), ↓dZ_S hL hσ (Or.inr rfl), ↓dZ_S hL hσ (nB_01 _), ↓dR_S_1 hL hσ, ↓dR_S_2 hL hσ, ↓dK_T hL ht, ↓dG_T hL ht, ↓dP_T hL ht, ↓dR_T_7 hL ht, dI_T2 hL ht, dS_T2 hL ht, ↓reduceIte, ↓kq_bi, ↓kq_let, ↓kq_rz0, ↓kq_rz1, ↓kq_rzB, ↓Option.bind_some, kq_dvn, kt_lt, kf_lt, kt_eq, kf_eq, decide_true, decide_false, eq_self, Bool.false_eq_true, Bool.true_eq_false, not_true_eq_false, not_false_eq_true, jU_eq, jU_ne, jU_U, jV_eq, jV_ne, jV_V, kn_lit, kn_add, kn_mul, kn_sdm, kn_sub, kn_div, kn_nsdm, kn_lt, kn_eq, kn_pred, kn_m1, kn_m1', kn_a31, kn_shl, kn_shr, kn_bit, nB_0, nB_1, nB_t, nB_f, Nat.zero_add, Nat.add_zero, Nat.reduceAdd, Nat.reduceMul, Nat.reduceSub, Nat.reducePow]
  · rw [hr] at hw6
    simp (disch := omega) only [F_Scene_thickNow_b31, cT_a2 hT, hw6, ↓dK_S hL hσ, ↓dG_S hL hσ, ↓dP_S hL hσ, ↓dZ_S hL hσ (x := nI 0) (Or.inl rfl), ↓dZ_S hL hσ (x := nI 1) (Or.inr rfl), ↓dZ_S hL hσ (Or.inl rfl), ↓dZ_S hL hσ (Or.inr rfl), ↓dZ_S hL hσ (nB_01 _), ↓dR_S_1 hL hσ, ↓dR_S_2 hL hσ, ↓dK_T hL ht, ↓dG_T hL ht, ↓dP_T hL ht, ↓dR_T_7 hL ht, dI_T2 hL ht, dS_T2 hL ht, ↓reduceIte, ↓kq_bi, ↓kq_let, ↓kq_rz0, ↓kq_rz1, ↓kq_rzB, ↓Option.bind_some, kq_dvn, kt_lt, kf_lt, kt_eq, kf_eq, decide_true, decide_false, eq_self, Bool.false_eq_true, Bool.true_eq_false, not_true_eq_false, not_false_eq_true, jU_eq, jU_ne, jU_U, jV_eq, jV_ne, jV_V, kn_lit, kn_add, kn_mul, kn_sdm, kn_sub, kn_div, kn_nsdm, kn_lt, kn_eq, kn_pred, kn_m1, kn_m1', kn_a31, kn_shl, kn_shr, kn_bit, nB_0, nB_1, nB_t, nB_f, Nat.zero_add, Nat.add_zero, Nat.reduceAdd, Nat.reduceMul, Nat.reduceSub, Nat.reducePow]
end

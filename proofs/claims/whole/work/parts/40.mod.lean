/-! PLAIN LEAN, 6: what a run comes to; the reference: by law, is shut -/
def jW {Q : Type} (x : Option Q) (P : Q → Prop) : Prop := ∃ q, x = some q ∧ P q
section
variable {Q A : Type} {h : LH} {P : Q → Prop} {R : (Nat → Nat → Int32) → Prop}
theorem jW_s {q : Q} (hq : P q) : jW (some q) P := ⟨q, rfl, hq⟩
theorem jW_e {x : Option Q} {q : Q} (e : x = some q) (hq : P q) : jW x P := ⟨q, e, hq⟩
theorem jW_bi {x : Option (Int32 × LH)} {v : Int32} {K : Int32 → LH → Option Q} (hx : ∃ J, x = some (v, jz_I h J) ∧ R J) (hk : ∀ J, R J → jW (K v (jz_I h J)) P) : jW (jf_bi x K) P := by
  obtain ⟨J, rfl, hJ⟩ := hx
  exact hk J hJ
theorem jW_bn {x : Option LH} {K : LH → Option Q} (hx : ∃ J, x = some (jz_I h J) ∧ R J) (hk : ∀ J, R J → jW (K (jz_I h J)) P) : jW (x.bind K) P := by
  obtain ⟨J, rfl, hJ⟩ := hx
  exact hk J hJ
theorem jE_i {x : Option (Int32 × LH)} {v : Int32} (hx : ∀ P : Int32 × LH → Prop, (∀ J, R J → P (v, jz_I h J)) → jW x P) : ∃ J, x = some (v, jz_I h J) ∧ R J := by
  obtain ⟨q, e, J, rfl, hJ⟩ := hx (fun q => ∃ J, q = (v, jz_I h J) ∧ R J) (fun J hJ => ⟨J, rfl, hJ⟩)
  exact ⟨J, e, hJ⟩
theorem jE_n {x : Option LH} (hx : ∀ P : LH → Prop, (∀ J, R J → P (jz_I h J)) → jW x P) : ∃ J, x = some (jz_I h J) ∧ R J := by
  obtain ⟨q, e, J, rfl, hJ⟩ := hx (fun q => ∃ J, q = jz_I h J ∧ R J) (fun J hJ => ⟨J, rfl, hJ⟩)
  exact ⟨J, e, hJ⟩
/-- a loop that counts up to N -/
theorem jW_for {f : Nat → Nat → A → Option Q} (N : Nat) (V : Nat → A → Prop) (hs : ∀ n k s, k < N → V k s → (∀ s', V (k + 1) s' → jW (f n (k + 1) s') P) → jW (f (n + 1) k s) P) (he : ∀ n s, V N s → jW (f (n + 1) N s) P) : ∀ (fuel k : Nat) (s : A), k ≤ N → N - k < fuel → V k s → jW (f fuel k s) P
  | 0, _, _, _, h, _ => absurd h (Nat.not_lt_zero _)
  | fuel + 1, k, s, hk, hf, hV => by
    rcases Nat.lt_or_eq_of_le hk with hl | hl
    · exact hs fuel k s hl hV (fun s' hV' => jW_for N V hs he fuel (k + 1) s' hl (by omega) hV')
    · subst hl
      exact he fuel s hV
theorem jW_for0 {f : Nat → Nat → A → Option Q} (N : Nat) (V : Nat → A → Prop) (s : A) (h0 : V 0 s) (hN : N ≤ 900) (hs : ∀ n k s, k < N → V k s → (∀ s', V (k + 1) s' → jW (f n (k + 1) s') P) → jW (f (n + 1) k s) P) (he : ∀ n s, V N s → jW (f (n + 1) N s) P) : jW (f jF 0 s) P := jW_for N V hs he jF 0 s (Nat.zero_le _) (by show N - 0 < 1000; omega) h0
end
section
variable {t u l m b c : Nat} {h : LH} {I J : Nat → Nat → Int32} {τ : JTn} {r : JRw} {ρ i : Nat} {Q : Type} {x : Int32} {d : Bool} {ω : JLw}
theorem jMR_at (hR : jMR I ρ r) {k : Nat} (hk : k < 134) : I ρ k = nI (r k) := hR k hk
theorem s_dep_le (f : Nat → Nat → Nat) : ∀ k, s_dep f k ≤ k
  | 0 => Nat.le_refl 0
  | k + 1 => by
    have := s_dep_le f k
    show (if f k 0 < 2 then s_dep f k + 1 else s_dep f k - 1) ≤ k + 1
    split <;> omega
theorem s_dep_pos (hω : jLOK ω) : ∀ k, k < ω.1 → 1 ≤ s_dep ω.2 (k + 1) := fun k hk => by
  show 1 ≤ (if ω.2 k 0 < 2 then s_dep ω.2 k + 1 else s_dep ω.2 k - 1)
  have := (hω.2.2 k hk).2.2.2
  split <;> omega
theorem s_plain_ok : jLOK s_plain := by
  refine ⟨by decide, by decide, fun k hk => ?_⟩
  have : k = 0 ∨ k = 1 ∨ k = 2 := by have : k < 3 := hk; omega
  rcases this with rfl | rfl | rfl <;> decide
theorem s_plain_ev (kn : Nat → Int32) : s_ev s_plain.2 kn 3 0 = kn 0 - nI 9 := by
  simp [s_ev, s_dep, s_plain, jV, s_by]
theorem m_byLaw (hL : jLay t u l m b c h) (hω : jLOK ω) (hM : jML I ω) {kn : Nat → Int32} (hk : ∀ j, j < 7 → I 609 j = kn j) : ∃ J, F_Mod_byLaw 205 (jz_I h I) = some (s_ev ω.2 kn ω.1 0, jz_I h J) ∧ ∃ st, J = jU I 608 st := by
  unfold F_Mod_byLaw
  rcases hM with ⟨h0, rfl⟩ | ⟨h0, h1, hc⟩
  · refine ⟨I, ?_, I 608, jU_id.symm⟩
    simp (disch := omega) only [h0, hk, ↓dK_205 hL, ↓dG_205 hL, ↓dP_205 hL, ↓dZ_205 hL (Or.inl rfl), ↓dZ_205 hL (Or.inr rfl), ↓dZ_205 hL (nB_01 _), ↓dR_205_32 hL, dI_609 hL, dS_609 hL, ↓reduceIte, ↓kq_bi, ↓kq_let, ↓kq_rz0, ↓kq_rz1, ↓kq_rzB, ↓Option.bind_some, kq_dvn, kt_lt, kf_lt, kt_eq, kf_eq, jU_eq, jU_ne, jU_U, jV_eq, jV_ne, jV_V, kn_lit, kn_add, kn_mul, kn_sdm, kn_sub, kn_div, kn_nsdm, kn_lt, kn_eq, kn_pred, kn_m1, kn_m1', kn_a31, kn_shl, kn_shr, kn_bit, nB_0, nB_1, nB_t, nB_f, Nat.zero_add, Nat.add_zero, Nat.reduceAdd, Nat.reduceMul, Nat.reduceSub, Nat.reducePow]
    rw [show s_plain.1 = 3 from rfl, s_plain_ev]
  · obtain ⟨hn1, hn, hs⟩ := hω
    refine jE_i (fun P hP => ?_)
    simp (disch := omega) only [h0, ↓dK_205 hL, ↓dG_205 hL, ↓dP_205 hL, ↓dZ_205 hL (Or.inl rfl), ↓dZ_205 hL (Or.inr rfl), ↓dZ_205 hL (nB_01 _), ↓reduceIte, ↓kq_bi, ↓kq_let, ↓kq_rz0, ↓kq_rz1, ↓kq_rzB, ↓Option.bind_some, kq_dvn, kt_lt, kf_lt, kt_eq, kf_eq, jU_eq, jU_ne, jU_U, jV_eq, jV_ne, jV_V, kn_lit, kn_add, kn_mul, kn_sdm, kn_sub, kn_div, kn_nsdm, kn_lt, kn_eq, kn_pred, kn_m1, kn_m1', kn_a31, kn_shl, kn_shr, kn_bit, nB_0, nB_1, nB_t, nB_f, Nat.zero_add, Nat.add_zero, Nat.reduceAdd, Nat.reduceMul, Nat.reduceSub, Nat.reducePow]
    have hnn : ¬ ω.1 = 0 := by omega
    refine (jU_id (I := I) (a := 608)) ▸ jW_for0 (f := fun fuel k (s : Nat → Int32) => F_Mod_byLaw_l21 fuel 205 (nI (s_dep ω.2 k)) (nI k) (jz_I h (jU I 608 s))) ω.1 (fun k s => ∀ j, j < s_dep ω.2 k → s j = s_ev ω.2 kn k j) (I 608) (fun j hj => absurd hj (Nat.not_lt_zero j)) (by omega) (fun n k s hlt hV ih => ?_) (fun n s hV => ?_)
    · have hdk := s_dep_le ω.2 k
      obtain ⟨a7, a0, a1, a2⟩ := hs k hlt
      have hs1 : s_ev ω.2 kn (k + 1) = (if ω.2 k 0 < 2 then jV (s_ev ω.2 kn k) (s_dep ω.2 k) (if ω.2 k 0 = 0 then nI (ω.2 k 1) else kn (ω.2 k 1)) else jV (s_ev ω.2 kn k) (s_dep ω.2 k - 2) (s_by (ω.2 k 0) (s_ev ω.2 kn k (s_dep ω.2 k - 2)) (s_ev ω.2 kn k (s_dep ω.2 k - 1)))) := rfl
      show jW (F_Mod_byLaw_c21 (F_Mod_byLaw_l21 n) 205 (nI (s_dep ω.2 k)) (nI k) (jz_I h (jU I 608 s))) P
      unfold F_Mod_byLaw_c21
      by_cases hw : ω.2 k 0 < 2
      · have hd' : s_dep ω.2 (k + 1) = s_dep ω.2 k + 1 := if_pos hw
        have ih' := ih (jV s (s_dep ω.2 k) (if ω.2 k 0 = 0 then nI (ω.2 k 1) else kn (ω.2 k 1))) (fun j hj => by
          rw [hs1, if_pos hw]
          unfold jV
          by_cases hj2 : j = s_dep ω.2 k
          · rw [if_pos hj2, if_pos hj2]
          · rw [if_neg hj2, if_neg hj2]
            exact hV j (by omega))
        by_cases hw0 : ω.2 k 0 = 0
        · have hv := a0 hw0
          rw [hd', if_pos hw0] at ih'
          simp (disch := omega) only [h0, hc, hw0, F_Mod_byLaw_b81, F_Mod_byLaw_b124, ↓dK_205 hL, ↓dG_205 hL, ↓dP_205 hL, ↓dZ_205 hL (Or.inl rfl), ↓dZ_205 hL (Or.inr rfl), ↓dZ_205 hL (nB_01 _), ↓dR_205_27 hL, dA_266 hL, dI_267 hL, dS_267 hL, ↓dR_205_31 hL, dI_608 hL, dS_608 hL, ↓dR_205_32 hL, dI_609 hL, dS_609 hL, ↓reduceIte, ↓kq_bi, ↓kq_let, ↓kq_rz0, ↓kq_rz1, ↓kq_rzB, ↓Option.bind_some, kq_dvn, kt_lt, kf_lt, kt_eq, kf_eq, jU_eq, jU_ne, jU_U, jV_eq, jV_ne, jV_V, kn_lit, kn_add, kn_mul, kn_sdm, kn_sub, kn_div, kn_nsdm, kn_lt, kn_eq, kn_pred, kn_m1, kn_m1', kn_a31, kn_shl, kn_shr, kn_bit, nB_0, nB_1, nB_t, nB_f, Nat.zero_add, Nat.add_zero, Nat.reduceAdd, Nat.reduceMul, Nat.reduceSub, Nat.reducePow]
          exact ih'
        · have hw1 : ω.2 k 0 = 1 := by omega
          have hv := a1 hw1
          rw [hd', if_neg hw0] at ih'
          simp (disch := omega) only [h0, hc, hk, hw1, F_Mod_byLaw_b81, F_Mod_byLaw_b124, ↓dK_205 hL, ↓dG_205 hL, ↓dP_205 hL, ↓dZ_205 hL (Or.inl rfl), ↓dZ_205 hL (Or.inr rfl), ↓dZ_205 hL (nB_01 _), ↓dR_205_27 hL, dA_266 hL, dI_267 hL, dS_267 hL, ↓dR_205_31 hL, dI_608 hL, dS_608 hL, ↓dR_205_32 hL, dI_609 hL, dS_609 hL, ↓reduceIte, ↓kq_bi, ↓kq_let, ↓kq_rz0, ↓kq_rz1, ↓kq_rzB, ↓Option.bind_some, kq_dvn, kt_lt, kf_lt, kt_eq, kf_eq, jU_eq, jU_ne, jU_U, jV_eq, jV_ne, jV_V, kn_lit, kn_add, kn_mul, kn_sdm, kn_sub, kn_div, kn_nsdm, kn_lt, kn_eq, kn_pred, kn_m1, kn_m1', kn_a31, kn_shl, kn_shr, kn_bit, nB_0, nB_1, nB_t, nB_f, Nat.zero_add, Nat.add_zero, Nat.reduceAdd, Nat.reduceMul, Nat.reduceSub, Nat.reducePow]
          exact ih'
      · have hd' : s_dep ω.2 (k + 1) = s_dep ω.2 k - 1 := if_neg hw
        have h2 := a2 (by omega)
        have ih' := ih (jV s (s_dep ω.2 k - 2) (s_by (ω.2 k 0) (s (s_dep ω.2 k - 2)) (s (s_dep ω.2 k - 1)))) (fun j hj => by
          rw [hs1, if_neg hw]
          unfold jV
          rw [hV _ (show s_dep ω.2 k - 2 < s_dep ω.2 k by omega), hV _ (show s_dep ω.2 k - 1 < s_dep ω.2 k by omega)]
          by_cases hj2 : j = s_dep ω.2 k - 2
          · rw [if_pos hj2, if_pos hj2]
          · rw [if_neg hj2, if_neg hj2]
            exact hV j (by omega))
        rw [hd'] at ih'
        simp (disch := omega) only [h0, hc, m_by, F_Mod_byLaw_b124, Nat.sub_sub, ↓dK_205 hL, ↓dG_205 hL, ↓dP_205 hL, ↓dZ_205 hL (Or.inl rfl), ↓dZ_205 hL (Or.inr rfl), ↓dZ_205 hL (nB_01 _), ↓dR_205_27 hL, dA_266 hL, dI_267 hL, dS_267 hL, ↓dR_205_31 hL, dI_608 hL, dS_608 hL, ↓dR_205_32 hL, dI_609 hL, dS_609 hL, ↓reduceIte, ↓kq_bi, ↓kq_let, ↓kq_rz0, ↓kq_rz1, ↓kq_rzB, ↓Option.bind_some, kq_dvn, kt_lt, kf_lt, kt_eq, kf_eq, jU_eq, jU_ne, jU_U, jV_eq, jV_ne, jV_V, kn_lit, kn_add, kn_mul, kn_sdm, kn_sub, kn_div, kn_nsdm, kn_lt, kn_eq, kn_pred, kn_m1, kn_m1', kn_a31, kn_shl, kn_shr, kn_bit, nB_0, nB_1, nB_t, nB_f, Nat.zero_add, Nat.add_zero, Nat.reduceAdd, Nat.reduceMul, Nat.reduceSub, Nat.reducePow]
        exact ih'
    · have hp := s_dep_pos (ω := ω) ⟨hn1, hn, hs⟩ (ω.1 - 1) (by omega)
      rw [show ω.1 - 1 + 1 = ω.1 by omega] at hp
      show jW (F_Mod_byLaw_c21 (F_Mod_byLaw_l21 n) 205 (nI (s_dep ω.2 ω.1)) (nI ω.1) (jz_I h (jU I 608 s))) P
      unfold F_Mod_byLaw_c21
      simp (disch := omega) only [h0, ↓dK_205 hL, ↓dG_205 hL, ↓dP_205 hL, ↓dZ_205 hL (Or.inl rfl), ↓dZ_205 hL (Or.inr rfl), ↓dZ_205 hL (nB_01 _), ↓dR_205_31 hL, dI_608 hL, dS_608 hL, ↓reduceIte, ↓kq_bi, ↓kq_let, ↓kq_rz0, ↓kq_rz1, ↓kq_rzB, ↓Option.bind_some, kq_dvn, kt_lt, kf_lt, kt_eq, kf_eq, jU_eq, jU_ne, jU_U, jV_eq, jV_ne, jV_V, kn_lit, kn_add, kn_mul, kn_sdm, kn_sub, kn_div, kn_nsdm, kn_lt, kn_eq, kn_pred, kn_m1, kn_m1', kn_a31, kn_shl, kn_shr, kn_bit, nB_0, nB_1, nB_t, nB_f, Nat.zero_add, Nat.add_zero, Nat.reduceAdd, Nat.reduceMul, Nat.reduceSub, Nat.reducePow]
      rw [hV 0 (by omega)]
      exact jW_s (hP _ ⟨s, rfl⟩)
/-- all but the places where the reference reckons, and a row -/
def jS3 (ρ : Nat) (I J : Nat → Nat → Int32) : Prop := ∀ a, ¬ a = 608 → ¬ a = 609 → ¬ a = ρ → J a = I a
theorem jS3_refl : jS3 ρ I I := fun _ _ _ _ => rfl
theorem jS3_trans {K : Nat → Nat → Int32} (h1 : jS3 ρ I J) (h2 : jS3 ρ J K) : jS3 ρ I K := fun a x y z => (h2 a x y z).trans (h1 a x y z)
/-- what the reference's hours rest on -/
def jME (I : Nat → Nat → Int32) (τ : JTn) (ω : JLw) (d : Bool) : Prop := jMT I τ ∧ jTOK τ ∧ jML I ω ∧ jLOK ω ∧ I 205 44 = nB d
theorem jML_congr (h : ∀ a, 266 ≤ a → a < 427 → J a = I a) (h25 : J 205 25 = I 205 25) (hω : jLOK ω) (hM : jML I ω) : jML J ω := by
  rcases hM with ⟨h0, h1⟩ | ⟨h0, h1, hc⟩
  · exact Or.inl ⟨h25.trans h0, h1⟩
  · refine Or.inr ⟨h25.trans h0, h1, fun k j hk hj => ?_⟩
    have := hω.2.1
    rw [h (267 + k) (by omega) (by omega)]
    exact hc k j hk hj
theorem jME_S3 (hρ : ρ = 691 ∨ ρ = 692) (h : jS3 ρ I J) (hE : jME I τ ω d) : jME J τ ω d := ⟨jMT_congr (fun a h1 h2 => h a (by omega) (by omega) (by omega)) hE.2.1 hE.1, hE.2.1, jML_congr (fun a h1 h2 => h a (by omega) (by omega) (by omega)) (by rw [h 205 (by omega) (by omega) (by omega)]) hE.2.2.2.1 hE.2.2.1, hE.2.2.2.1, by rw [h 205 (by omega) (by omega) (by omega)]; exact hE.2.2.2.2⟩
theorem m_isShutBy (hL : jLay t u l m b c h) (hE : jME I τ ω d) (hρ : ρ = 691 ∨ ρ = 692) (hR : jMR I ρ r) (hr : jROK τ r) {g sm lg : Nat} (hg : g < τ 0 0) : ∃ J, F_Mod_isShutBy 205 ρ (nI g) (nI sm) (nI lg) (jz_I h I) = some (nB (s_shb τ ω d r g sm lg), jz_I h J) ∧ ∀ a, ¬ a = 608 → ¬ a = 609 → J a = I a := by
  obtain ⟨hT, ho, hM, hω, hd⟩ := hE
  have o0 : τ 0 0 ≤ 9 := ho.1
  have hh : r 133 < 100000 := hr.2.2.2.2 133 (by omega)
  have tr : ∀ {f : Nat → Int32}, jMT (jU I 609 f) τ ∧ jU I 609 f 205 44 = nB d ∧ jMR (jU I 609 f) ρ r ∧ jML (jU I 609 f) ω := fun {f} => by
    have h2 : jS3 ρ I (jU I 609 f) := fun a _ h9 _ => jU_ne h9
    have := jME_S3 hρ h2 ⟨hT, ho, hM, hω, hd⟩
    exact ⟨this.1, this.2.2.2.2, fun k hk => by rw [jU_ne (by omega)]; exact hR k hk, this.2.2.1⟩
  have hRn : ∀ (f : Nat → Int32) (k : Nat), k < 134 → jU I 609 f ρ k = nI (r k) := fun f k hk => tr.2.2.1 k hk
  refine jE_i (fun P hP => ?_)
  have key : ∀ (f : Nat → Int32), f 0 = nI sm → f 1 = nI lg → f 2 = nI (s_wind τ (r 133)) → jW (F_Mod_isShutBy_b52 205 ρ (nI g) 609 (nI 3) (nB (s_rain τ d (r 133))) (jz_I h (jU I 609 f))) P := fun f f0 f1 f2 => by
    unfold F_Mod_isShutBy_b52
    simp (disch := omega) only [dI_R hL hρ, hRn, ↓m_scentAt hL tr.1 ho hρ tr.2.2.1 hr hg, ↓dK_205 hL, ↓dG_205 hL, ↓dP_205 hL, ↓dZ_205 hL (Or.inl rfl), ↓dZ_205 hL (Or.inr rfl), ↓dZ_205 hL (nB_01 _), ↓dR_205_32 hL, dI_609 hL, dS_609 hL, ↓reduceIte, ↓kq_bi, ↓kq_let, ↓kq_rz0, ↓kq_rz1, ↓kq_rzB, ↓Option.bind_some, kq_dvn, kt_lt, kf_lt, kt_eq, kf_eq, jU_eq, jU_ne, jU_U, jV_eq, jV_ne, jV_V, kn_lit, kn_add, kn_mul, kn_sdm, kn_sub, kn_div, kn_nsdm, kn_lt, kn_eq, kn_pred, kn_m1, kn_m1', kn_a31, kn_shl, kn_shr, kn_bit, nB_0, nB_1, nB_t, nB_f, Nat.zero_add, Nat.add_zero, Nat.reduceAdd, Nat.reduceMul, Nat.reduceSub, Nat.reducePow]
    refine jW_bi (m_byLaw hL hω tr.2.2.2 (kn := s_kn τ d r g sm lg) (fun j hj => ?_)) (fun J hJ => ?_)
    · rw [jU_eq]
      have : j = 0 ∨ j = 1 ∨ j = 2 ∨ j = 3 ∨ j = 4 ∨ j = 5 ∨ j = 6 := by omega
      rcases this with rfl | rfl | rfl | rfl | rfl | rfl | rfl <;> simp [jV, s_kn, f0, f1, f2]
    · obtain ⟨st, rfl⟩ := hJ
      by_cases hc : nI 0 < s_ev ω.2 (s_kn τ d r g sm lg) ω.1 0
      · have e : s_shb τ ω d r g sm lg = true := decide_eq_true hc
        simp only [hc, ↓reduceIte, F_Mod_isShutBy_b99, kn_lit, ↓kq_rz1]
        rw [e] at hP
        exact jW_s (hP _ (fun a h8 h9 => by rw [jU_ne h8, jU_ne h9]))
      · have e : s_shb τ ω d r g sm lg = false := decide_eq_false hc
        simp only [hc, ↓reduceIte, F_Mod_isShutBy_b99, kn_lit, ↓kq_rz0]
        rw [e] at hP
        exact jW_s (hP _ (fun a h8 h9 => by rw [jU_ne h8, jU_ne h9]))
  unfold F_Mod_isShutBy
  cases hb : s_rain τ d (r 133)
  · rw [hb] at key
    simp (disch := omega) only [dI_R hL hρ, hRn, jMR_at hR, ↓m_windIn hL tr.1 ho hh, ↓m_isRain hL tr.1 ho tr.2.1 hh, hb, ↓dK_205 hL, ↓dG_205 hL, ↓dP_205 hL, ↓dZ_205 hL (Or.inl rfl), ↓dZ_205 hL (Or.inr rfl), ↓dZ_205 hL (nB_01 _), ↓dR_205_32 hL, dI_609 hL, dS_609 hL, ↓reduceIte, ↓kq_bi, ↓kq_let, ↓kq_rz0, ↓kq_rz1, ↓kq_rzB, ↓Option.bind_some, kq_dvn, kt_lt, kf_lt, kt_eq, kf_eq, jU_eq, jU_ne, jU_U, jV_eq, jV_ne, jV_V, kn_lit, kn_add, kn_mul, kn_sdm, kn_sub, kn_div, kn_nsdm, kn_lt, kn_eq, kn_pred, kn_m1, kn_m1', kn_a31, kn_shl, kn_shr, kn_bit, nB_0, nB_1, nB_t, nB_f, Nat.zero_add, Nat.add_zero, Nat.reduceAdd, Nat.reduceMul, Nat.reduceSub, Nat.reducePow]
    exact key _ rfl rfl rfl
  · rw [hb] at key
    simp (disch := omega) only [dI_R hL hρ, hRn, jMR_at hR, ↓m_windIn hL tr.1 ho hh, ↓m_isRain hL tr.1 ho tr.2.1 hh, hb, ↓dK_205 hL, ↓dG_205 hL, ↓dP_205 hL, ↓dZ_205 hL (Or.inl rfl), ↓dZ_205 hL (Or.inr rfl), ↓dZ_205 hL (nB_01 _), ↓dR_205_32 hL, dI_609 hL, dS_609 hL, ↓reduceIte, ↓kq_bi, ↓kq_let, ↓kq_rz0, ↓kq_rz1, ↓kq_rzB, ↓Option.bind_some, kq_dvn, kt_lt, kf_lt, kt_eq, kf_eq, jU_eq, jU_ne, jU_U, jV_eq, jV_ne, jV_V, kn_lit, kn_add, kn_mul, kn_sdm, kn_sub, kn_div, kn_nsdm, kn_lt, kn_eq, kn_pred, kn_m1, kn_m1', kn_a31, kn_shl, kn_shr, kn_bit, nB_0, nB_1, nB_t, nB_f, Nat.zero_add, Nat.add_zero, Nat.reduceAdd, Nat.reduceMul, Nat.reduceSub, Nat.reducePow]
    exact key _ rfl rfl rfl
theorem m_isShut (hL : jLay t u l m b c h) (hE : jME I τ ω d) (hρ : ρ = 691 ∨ ρ = 692) (hR : jMR I ρ r) (hr : jROK τ r) {g : Nat} (hg : g < τ 0 0) : ∃ J, F_Mod_isShut 205 ρ (nI g) (jz_I h I) = some (nB (s_sh τ ω d r g), jz_I h J) ∧ ∀ a, ¬ a = 608 → ¬ a = 609 → J a = I a := by
  have o0 : τ 0 0 ≤ 9 := hE.2.1.1
  unfold F_Mod_isShut s_sh
  refine jE_i (fun P hP => ?_)
  simp (disch := omega) only [dI_R hL hρ, jMR_at hR, m_smokeAt hL hE.1 hE.2.1 hE.2.2.2.2 hρ hR hr hg, ↓dK_205 hL, ↓dG_205 hL, ↓dP_205 hL, ↓dZ_205 hL (Or.inl rfl), ↓dZ_205 hL (Or.inr rfl), ↓dZ_205 hL (nB_01 _), ↓reduceIte, ↓kq_bi, ↓kq_let, ↓kq_rz0, ↓kq_rz1, ↓kq_rzB, ↓Option.bind_some, kq_dvn, kt_lt, kf_lt, kt_eq, kf_eq, jU_eq, jU_ne, jU_U, jV_eq, jV_ne, jV_V, kn_lit, kn_add, kn_mul, kn_sdm, kn_sub, kn_div, kn_nsdm, kn_lt, kn_eq, kn_pred, kn_m1, kn_m1', kn_a31, kn_shl, kn_shr, kn_bit, nB_0, nB_1, nB_t, nB_f, Nat.zero_add, Nat.add_zero, Nat.reduceAdd, Nat.reduceMul, Nat.reduceSub, Nat.reducePow]
  refine jW_bi (m_isShutBy hL hE hρ hR hr hg) (fun J hJ => ?_)
  rw [kq_rzB]
  exact jW_s (hP _ hJ)
/-- gates as bits -/
def s_bits (p : Nat → Bool) (n : Nat) : Nat := s_or (fun k => if p k = true then 2 ^ k else 0) n
theorem s_bits_lt (p : Nat → Bool) (n : Nat) : s_bits p n < 2 ^ n := by
  refine s_or_lt n (fun k hk => ?_)
  show (if p k = true then 2 ^ k else 0) < 2 ^ n
  split
  · exact Nat.pow_lt_pow_right (by omega) hk
  · exact Nat.two_pow_pos n
theorem s_bits_test (p : Nat → Bool) : ∀ (n i : Nat), (s_bits p n).testBit i = (decide (i < n) && p i)
  | 0, i => by
    show Nat.testBit 0 i = _
    rw [Nat.zero_testBit]
    simp
  | n + 1, i => by
    show (s_bits p n ||| (if p n = true then 2 ^ n else 0)).testBit i = _
    rw [Nat.testBit_or, s_bits_test p n i]
    by_cases hp : p n = true
    · rw [if_pos hp, Nat.testBit_two_pow]
      by_cases hi : i = n
      · subst hi; simp [hp]
      · have : ¬ n = i := fun z => hi z.symm
        have e : decide (i < n + 1) = decide (i < n) := by by_cases h : i < n <;> simp [h] <;> omega
        rw [e, decide_eq_false this]; simp
    · rw [if_neg hp, Nat.zero_testBit, Bool.or_false]
      by_cases hi : i = n
      · subst hi; simp [hp]
      · have e : decide (i < n + 1) = decide (i < n) := by by_cases h : i < n <;> simp [h] <;> omega
        rw [e]
theorem s_bits_has (p : Nat → Bool) {n i : Nat} (hi : i < n) : s_bits p n / 2 ^ i % 2 = if p i = true then 1 else 0 := by
  have h1 := s_bits_test p n i
  rw [Nat.testBit_eq_decide_div_mod_eq, decide_eq_true hi, Bool.true_and] at h1
  have h2 := Nat.mod_two_eq_zero_or_one (s_bits p n / 2 ^ i)
  by_cases hp : p i = true
  · rw [if_pos hp]
    rw [hp] at h1
    exact of_decide_eq_true h1
  · rw [if_neg hp]
    rw [Bool.not_eq_true] at hp
    rw [hp] at h1
    have := of_decide_eq_false h1
    omega
theorem m_has {v k : Nat} (hv : v < 2147483648) (hk : k < 32) (g : LH) : F_Mod_has (nI v) (nI k) g = some (nB (decide (v / 2 ^ k % 2 = 1)), g) := by
  unfold F_Mod_has
  have h2 := Nat.mod_two_eq_zero_or_one (v / 2 ^ k)
  rcases h2 with h2 | h2
  · simp (disch := omega) only [h2, F_Mod_has_b14, ↓reduceIte, ↓kq_bi, ↓kq_let, ↓kq_rz0, ↓kq_rz1, ↓kq_rzB, ↓Option.bind_some, kq_dvn, kt_lt, kf_lt, kt_eq, kf_eq, jU_eq, jU_ne, jU_U, jV_eq, jV_ne, jV_V, kn_lit, kn_add, kn_mul, kn_sdm, kn_sub, kn_div, kn_nsdm, kn_lt, kn_eq, kn_pred, kn_m1, kn_m1', kn_a31, kn_shl, kn_shr, kn_bit, nB_0, nB_1, nB_t, nB_f, Nat.zero_add, Nat.add_zero, Nat.reduceAdd, Nat.reduceMul, Nat.reduceSub, Nat.reducePow]
    rfl
  · simp (disch := omega) only [h2, F_Mod_has_b14, ↓reduceIte, ↓kq_bi, ↓kq_let, ↓kq_rz0, ↓kq_rz1, ↓kq_rzB, ↓Option.bind_some, kq_dvn, kt_lt, kf_lt, kt_eq, kf_eq, jU_eq, jU_ne, jU_U, jV_eq, jV_ne, jV_V, kn_lit, kn_add, kn_mul, kn_sdm, kn_sub, kn_div, kn_nsdm, kn_lt, kn_eq, kn_pred, kn_m1, kn_m1', kn_a31, kn_shl, kn_shr, kn_bit, nB_0, nB_1, nB_t, nB_f, Nat.zero_add, Nat.add_zero, Nat.reduceAdd, Nat.reduceMul, Nat.reduceSub, Nat.reducePow]
    rfl
theorem kn_pow {k : Nat} (hk : k < 31) : 2 ^ k < 2147483648 := by
  have := Nat.pow_lt_pow_right (a := 2) (by omega) hk
  omega
theorem m_shutBits (hL : jLay t u l m b c h) (hE : jME I τ ω d) (hρ : ρ = 691 ∨ ρ = 692) (hR : jMR I ρ r) (hr : jROK τ r) : ∃ J, F_Mod_shutBits 205 ρ (jz_I h I) = some (nI (s_bits (s_sh τ ω d r) (τ 0 0)), jz_I h J) ∧ ∀ a, ¬ a = 608 → ¬ a = 609 → J a = I a := by
  have o0 : τ 0 0 ≤ 9 := hE.2.1.1
  refine jE_i (fun P hP => ?_)
  unfold F_Mod_shutBits
  refine jW_for0 (f := fun fuel k (J : Nat → Nat → Int32) => F_Mod_shutBits_l4 fuel 205 ρ (nI (s_bits (s_sh τ ω d r) k)) (nI k) (jz_I h J)) (τ 0 0) (fun k J => ∀ a, ¬ a = 608 → ¬ a = 609 → J a = I a) I (fun _ _ _ => rfl) (by omega) (fun n k J hk hJ ih => ?_) (fun n J hJ => ?_)
  · have hE' := jME_S3 hρ (fun a x y _ => hJ a x y) hE
    have hR' : jMR J ρ r := fun k hk => by rw [hJ ρ (by omega) (by omega)]; exact hR k hk
    show jW (F_Mod_shutBits_c4 (F_Mod_shutBits_l4 n) 205 ρ (nI (s_bits (s_sh τ ω d r) k)) (nI k) (jz_I h J)) P
    unfold F_Mod_shutBits_c4
    simp (disch := omega) only [hE'.1.1, ↓dK_205 hL, ↓dG_205 hL, ↓dP_205 hL, ↓dZ_205 hL (Or.inl rfl), ↓dZ_205 hL (Or.inr rfl), ↓dZ_205 hL (nB_01 _), ↓dR_205_12 hL, dI_209 hL, dS_209 hL, ↓reduceIte, ↓kq_bi, ↓kq_let, ↓kq_rz0, ↓kq_rz1, ↓kq_rzB, ↓Option.bind_some, kq_dvn, kt_lt, kf_lt, kt_eq, kf_eq, jU_eq, jU_ne, jU_U, jV_eq, jV_ne, jV_V, kn_lit, kn_add, kn_mul, kn_sdm, kn_sub, kn_div, kn_nsdm, kn_lt, kn_eq, kn_pred, kn_m1, kn_m1', kn_a31, kn_shl, kn_shr, kn_bit, nB_0, nB_1, nB_t, nB_f, Nat.zero_add, Nat.add_zero, Nat.reduceAdd, Nat.reduceMul, Nat.reduceSub, Nat.reducePow]
    refine jW_bi (m_isShut hL hE' hρ hR' hr hk) (fun J' hJ' => ?_)
    have ih' := ih J' (fun a x y => (hJ' a x y).trans (hJ a x y))
    have e : s_bits (s_sh τ ω d r) (k + 1) = s_bits (s_sh τ ω d r) k ||| (if s_sh τ ω d r k = true then 2 ^ k else 0) := rfl
    rw [e] at ih'
    have hp := kn_pow (k := k) (by omega)
    cases hb : s_sh τ ω d r k
    · rw [hb] at ih'
      simp (disch := omega) only [F_Mod_shutBits_b31, kn_or, ↓reduceIte, ↓kq_bi, ↓kq_let, ↓kq_rz0, ↓kq_rz1, ↓kq_rzB, ↓Option.bind_some, kq_dvn, kt_lt, kf_lt, kt_eq, kf_eq, jU_eq, jU_ne, jU_U, jV_eq, jV_ne, jV_V, kn_lit, kn_add, kn_mul, kn_sdm, kn_sub, kn_div, kn_nsdm, kn_lt, kn_eq, kn_pred, kn_m1, kn_m1', kn_a31, kn_shl, kn_shr, kn_bit, nB_0, nB_1, nB_t, nB_f, Nat.zero_add, Nat.add_zero, Nat.reduceAdd, Nat.reduceMul, Nat.reduceSub, Nat.reducePow]
      exact ih'
    · rw [hb] at ih'
      simp (disch := omega) only [F_Mod_shutBits_b31, kn_or, Nat.one_mul, ↓reduceIte, ↓kq_bi, ↓kq_let, ↓kq_rz0, ↓kq_rz1, ↓kq_rzB, ↓Option.bind_some, kq_dvn, kt_lt, kf_lt, kt_eq, kf_eq, jU_eq, jU_ne, jU_U, jV_eq, jV_ne, jV_V, kn_lit, kn_add, kn_mul, kn_sdm, kn_sub, kn_div, kn_nsdm, kn_lt, kn_eq, kn_pred, kn_m1, kn_m1', kn_a31, kn_shl, kn_shr, kn_bit, nB_0, nB_1, nB_t, nB_f, Nat.zero_add, Nat.add_zero, Nat.reduceAdd, Nat.reduceMul, Nat.reduceSub, Nat.reducePow]
      exact ih'
  · have hE' := jME_S3 hρ (fun a x y _ => hJ a x y) hE
    show jW (F_Mod_shutBits_c4 (F_Mod_shutBits_l4 n) 205 ρ (nI (s_bits (s_sh τ ω d r) (τ 0 0))) (nI (τ 0 0)) (jz_I h J)) P
    unfold F_Mod_shutBits_c4
    simp (disch := omega) only [hE'.1.1, ↓dK_205 hL, ↓dG_205 hL, ↓dP_205 hL, ↓dZ_205 hL (Or.inl rfl), ↓dZ_205 hL (Or.inr rfl), ↓dZ_205 hL (nB_01 _), ↓dR_205_12 hL, dI_209 hL, dS_209 hL, ↓reduceIte, ↓kq_bi, ↓kq_let, ↓kq_rz0, ↓kq_rz1, ↓kq_rzB, ↓Option.bind_some, kq_dvn, kt_lt, kf_lt, kt_eq, kf_eq, jU_eq, jU_ne, jU_U, jV_eq, jV_ne, jV_V, kn_lit, kn_add, kn_mul, kn_sdm, kn_sub, kn_div, kn_nsdm, kn_lt, kn_eq, kn_pred, kn_m1, kn_m1', kn_a31, kn_shl, kn_shr, kn_bit, nB_0, nB_1, nB_t, nB_f, Nat.zero_add, Nat.add_zero, Nat.reduceAdd, Nat.reduceMul, Nat.reduceSub, Nat.reducePow]
    exact jW_s (hP _ hJ)
end

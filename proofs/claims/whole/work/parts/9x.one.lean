/-! PLAIN LEAN: one call of the checking loop -/
/-- what lies outside of both sides: the script, the cell for an answer; and the room -/
def jOut (L : Nat) (xs : Nat → Int32) (S N : Nat) (h : LH) (I : Nat → Nat → Int32) : Prop := (jl_kd h 63 = 30 ∧ jl_ln h 63 = L ∧ ∀ k, I 63 k = xs k) ∧ (jl_kd h 717 = 23 ∧ jl_ln h 717 = 1) ∧ 718 ≤ h.1.length ∧ h.1.length ≤ 718 + N ∧ jl_sl h ≤ S + 6 * N
def jInv (L : Nat) (xs : Nat → Int32) (S N : Nat) (A : JA) (h : LH) (I : Nat → Nat → Int32) : Prop := jAG N A ∧ jMM I A ∧ jOut L xs S N h I ∧ ∃ t u l m b c, jLay t u l m b c h ∧ jCC h I t l b A
section
variable {t u l m b c : Nat} {h h' : LH} {I J K : Nat → Nat → Int32} {A A' : JA} {N L S i : Nat} {xs : Nat → Int32} {Q : Type} {cd : Nat → Nat}
theorem jMM_hi (hA : jAG N A) (hF : ∀ a, 205 ≤ a → J a = I a) (hC : jMM I A) : jMM J A := by
  obtain ⟨τ, ω, r, β, H, E, Tp, p, rf, c0, c1⟩ := A
  obtain ⟨⟨a1, a2, a3⟩, a4, a5, a6, a8, ⟨a9, a10, a11⟩, a13, a14, a15⟩ := hC
  obtain ⟨o1, o2, -, ⟨o3, -⟩, ⟨b1, -⟩, ⟨b2, -⟩, -⟩ := hA
  have e := hF 205 (by omega)
  exact ⟨⟨jMT_congr (fun a x1 x2 => hF a (by omega)) o1 a1, jML_congr (fun a x1 x2 => hF a (by omega)) (by rw [e]) o2 a2, by rw [e]; exact a3⟩, fun k hk => by rw [hF 691 (by omega)]; exact a4 k hk, jMB_cg o3 (by rw [e]) (fun a x1 x2 => hF a (by omega)) a5, jmH_cg b1 (by rw [e]) (fun a x1 x2 => hF a (by omega)) a6, jmE_cg b2 (by rw [e]) (fun a x1 x2 => hF a (by omega)) a8, ⟨by rw [e]; exact a9, by rw [e]; exact a10, fun k hk => by rw [hF 206 (by omega)]; exact a11 k hk⟩, by rw [e]; exact a13, by rw [hF 207 (by omega)]; exact a14, by rw [hF 207 (by omega)]; exact a15⟩
theorem jCC_lo (hL : jLay t u l m b c h) (hA : jAG N A) (hF : ∀ a, a < 205 → J a = I a) (hC : jCC h I t l b A) : jCC h J t l b A := by
  have ht := jLay_t hL
  have hl := jLay_l hL
  have hb := jLay_b hL
  obtain ⟨τ, ω, r, β, H, E, Tp, p, rf, c0, c1⟩ := A
  obtain ⟨⟨a1, a2⟩, a3, a4, a5, a7, ⟨a8, a9, a10⟩, ⟨a12, a13, a14⟩, a15⟩ := hC
  obtain ⟨-, -, -, -, ⟨b1, -⟩, ⟨b2, b3⟩, -⟩ := hA
  have e4 := hF 64 (by omega)
  have e5 := hF 65 (by omega)
  exact ⟨⟨jCT_congr (fun i hi => hF _ (by omega)) a1, jCL_cg (fun a ha => hF a (by omega)) a2⟩, jCS_cg (fun a x1 x2 => hF a (by omega)) a3, jCB_cg (fun a ha => hF a (by omega)) a4, jcH_cg b1 (fun a x1 x2 => hF a (by omega)) a5, jcE_cg b2 (fun e he => (b3 e he).2.1) (by rw [e4]) (fun a x1 x2 => hF a (by omega)) a7, ⟨by rw [e5]; exact a8, by rw [e5]; exact a9, fun k hk => by rw [hF 66 (by omega)]; exact a10 k hk⟩, ⟨by rw [e4]; exact a12, by rw [e4]; exact a13, by rw [e4]; exact a14⟩, jStr_eq a15 (fun a ha => hF a (by omega))⟩
theorem jOut_I (hO : jOut L xs S N h I) (h63 : J 63 = I 63) : jOut L xs S N h J := ⟨⟨hO.1.1, hO.1.2.1, fun k => by rw [h63]; exact hO.1.2.2 k⟩, hO.2⟩
theorem jOut_N (hO : jOut L xs S N h I) : jOut L xs S (N + 1) h I := by
  obtain ⟨a1, a2, a3, a4, a5⟩ := hO
  exact ⟨a1, a2, a3, by omega, by omega⟩
theorem jOut_h (hH : jHp h h') (hO : jOut L xs S N h I) (h63 : J 63 = I 63) : jOut L xs S (N + 1) h' J := by
  obtain ⟨⟨a1, a2, a3⟩, ⟨b1, b2⟩, a4, a5, a6⟩ := hO
  rcases hH.1 with e | e
  · refine ⟨⟨?_, ?_, fun k => by rw [h63]; exact a3 k⟩, ⟨?_, ?_⟩, ?_, ?_, ?_⟩
    · unfold jl_kd at a1 ⊢; rw [e]; exact a1
    · unfold jl_ln at a2 ⊢; rw [e]; exact a2
    · unfold jl_kd at b1 ⊢; rw [e]; exact b1
    · unfold jl_ln at b2 ⊢; rw [e]; exact b2
    · rw [e]; exact a4
    · rw [e]; omega
    · unfold jl_sl at a6 ⊢; rw [e]; omega
  · have g : ∀ a, a < 718 → h'.1[a]? = h.1[a]? := fun a ha => by rw [e, List.getElem?_append_left (by omega)]
    refine ⟨⟨?_, ?_, fun k => by rw [h63]; exact a3 k⟩, ⟨?_, ?_⟩, ?_, ?_, ?_⟩
    · unfold jl_kd at a1 ⊢; rw [g 63 (by omega)]; exact a1
    · unfold jl_ln at a2 ⊢; rw [g 63 (by omega)]; exact a2
    · unfold jl_kd at b1 ⊢; rw [g 717 (by omega)]; exact b1
    · unfold jl_ln at b2 ⊢; rw [g 717 (by omega)]; exact b2
    · rw [e, List.length_append]; omega
    · rw [e, List.length_append]; show h.1.length + 1 ≤ _; omega
    · unfold jl_sl at a6 ⊢; rw [e, List.map_append, List.sum_append]; show _ + (6 + 0) ≤ _; omega
theorem rd_0 (hO : jOut L xs S N h I) {k : Nat} (hk : k < L) (hL : L ≤ 3072) {K : Int32 → Option Q} : jf_ia (jz_I h I) 63 (nI k) K = K (xs k) := by
  have e := hO.1.2.2 k
  unfold jf_ia
  rw [if_pos ⟨Or.inr hO.1.1, by rw [kn_in (by omega)]; exact decide_eq_true (by show k < jl_ln h 63; rw [hO.1.2.1]; exact hk)⟩, ← e]
  show K (I 63 (nI k).toNatClampNeg) = _
  rw [kn_tn (by omega)]
theorem rd_1 (hO : jOut L xs S N h I) (hi : i + 6 ≤ L) (hL : L ≤ 3072) {K : Int32 → Option Q} : jf_ia (jz_I h I) 63 (nI i + (1 : Int32)) K = K (xs (i + 1)) := (congrArg (fun z => jf_ia (jz_I h I) 63 z K) (kn_add i 1)).trans (rd_0 hO (by omega) hL)
theorem rd_2 (hO : jOut L xs S N h I) (hi : i + 6 ≤ L) (hL : L ≤ 3072) {K : Int32 → Option Q} : jf_ia (jz_I h I) 63 (nI i + (2 : Int32)) K = K (xs (i + 2)) := (congrArg (fun z => jf_ia (jz_I h I) 63 z K) (kn_add i 2)).trans (rd_0 hO (by omega) hL)
theorem rd_3 (hO : jOut L xs S N h I) (hi : i + 6 ≤ L) (hL : L ≤ 3072) {K : Int32 → Option Q} : jf_ia (jz_I h I) 63 (nI i + (3 : Int32)) K = K (xs (i + 3)) := (congrArg (fun z => jf_ia (jz_I h I) 63 z K) (kn_add i 3)).trans (rd_0 hO (by omega) hL)
theorem rd_4 (hO : jOut L xs S N h I) (hi : i + 6 ≤ L) (hL : L ≤ 3072) {K : Int32 → Option Q} : jf_ia (jz_I h I) 63 (nI i + (4 : Int32)) K = K (xs (i + 4)) := (congrArg (fun z => jf_ia (jz_I h I) 63 z K) (kn_add i 4)).trans (rd_0 hO (by omega) hL)
theorem rd_5 (hO : jOut L xs S N h I) (hi : i + 6 ≤ L) (hL : L ≤ 3072) {K : Int32 → Option Q} : jf_ia (jz_I h I) 63 (nI i + (5 : Int32)) K = K (xs (i + 5)) := (congrArg (fun z => jf_ia (jz_I h I) 63 z K) (kn_add i 5)).trans (rd_0 hO (by omega) hL)
theorem x_one {Fc : LH → Option JOut} {Fm Chk : LH → Option (Int32 × LH)} {f : Int32 → Int64} (hX : jInv L xs S N A h I) (hD : jDo cd Fc Fm N A) (hc1 : ∀ x g, Fc (jz_I h I) = some (jo_i (x, g)) → Chk (jz_I h I) = jf_ls g 717 (0 : Int32) (f x) (fun h3 => some ((0 : Int32), h3))) (hc2 : ∀ k g, k < 2 → ¬ cd k = 0 → Fc (jz_I h I) = some (.inr k, g) → Chk (jz_I h I) = some (nI (cd k), g)) (hcd : ∀ k, k < 2 → cd k ≤ 2) : ∃ v2 v5 h1 I1 I2 A', Chk (jz_I h I) = some (v2, jz_I h1 I1) ∧ jOut L xs S (N + 1) h1 I1 ∧ (∃ t u l m b c, jLay t u l m b c h1) ∧ Fm (jz_I h1 I1) = some (v5, jz_I h1 I2) ∧ I2 205 0 = v2 ∧ (v2 = 0 → h1.2.2.2 717 0 = f v5) ∧ jInv L xs S (N + 1) A' h1 I2 := by
  obtain ⟨hA, hM, hO, t, u, l, m, b, c, hL, hC⟩ := hX
  obtain ⟨o, A', ⟨hFc, hFm⟩, hA', hk⟩ := hD
  obtain ⟨t', u', l', m', b', c', h', J, e1, hL', hC', hJ, hH⟩ := hFc t u l m b c h I hL hC
  have hM1 : jMM J A := jMM_hi hA (fun a ha => hJ a (by omega)) hM
  have hO1 : jOut L xs S (N + 1) h' J := jOut_h hH hO (hJ 63 (by omega))
  cases o with
  | inl w =>
    have e2 : Chk (jz_I h I) = some ((0 : Int32), jz_I (jl_setL h' 717 0 (f w)) J) := by
      rw [hc1 w (jz_I h' J) e1]
      unfold jf_ls
      rw [if_pos ⟨hO1.2.1.1, by omega, by show jl_in 0 (jl_ln h' 717) = true; rw [hO1.2.1.2]; rfl⟩]
      rfl
    have hL1 : jLay t' u' l' m' b' c' (jl_setL h' 717 0 (f w)) := hL'
    have hO2 : jOut L xs S (N + 1) (jl_setL h' 717 0 (f w)) J := hO1
    have hC1 : jCC (jl_setL h' 717 0 (f w)) J t' l' b' A' := hC'
    obtain ⟨v, J2, e3, j0, jv, hM2, hJ2⟩ := hFm t' u' l' m' b' c' _ J hL1 hM1
    have jv := jv w rfl
    refine ⟨0, v, _, J, J2, A', e2, hO2, ⟨t', u', l', m', b', c', hL1⟩, e3, j0, fun _ => ?_, hA', hM2, jOut_I hO2 (hJ2 63 (by omega)), t', u', l', m', b', c', hL1, jCC_lo hL1 hA' hJ2 hC1⟩
    rw [jv]
    rfl
  | inr k =>
    obtain ⟨hk2, hk0⟩ := hk k rfl
    have hk3 := hcd k hk2
    obtain ⟨v, J2, e3, j0, -, hM2, hJ2⟩ := hFm t' u' l' m' b' c' _ J hL' hM1
    refine ⟨nI (cd k), v, h', J, J2, A', hc2 k (jz_I h' J) hk2 hk0 e1, hO1, ⟨t', u', l', m', b', c', hL'⟩, e3, j0, fun z => absurd (kn_inj (by omega) (by omega) (show nI (cd k) = nI 0 from z)) hk0, hA', hM2, jOut_I hO1 (hJ2 63 (by omega)), t', u', l', m', b', c', hL', jCC_lo hL' hA' hJ2 hC'⟩
theorem x_oneN {Fc Fm : LH → Option (Int32 × LH)} (hX : jInv L xs S N A h I) (hD : jDoN Fc Fm N A) : ∃ v I1 I2 A', Fc (jz_I h I) = some (v, jz_I h I1) ∧ jOut L xs S (N + 1) h I1 ∧ Fm (jz_I h I1) = some (v, jz_I h I2) ∧ jInv L xs S (N + 1) A' h I2 := by
  obtain ⟨hA, hM, hO, t, u, l, m, b, c, hL, hC⟩ := hX
  obtain ⟨v, A', ⟨hFc, hFm⟩, hA'⟩ := hD
  obtain ⟨J, e1, hC', hJ⟩ := hFc t u l m b c h I hL hC
  have hM1 : jMM J A := jMM_hi hA (fun a ha => hJ a (by omega)) hM
  have hO1 : jOut L xs S (N + 1) h J := jOut_I (jOut_N hO) (hJ 63 (by omega))
  obtain ⟨J2, e3, hM2, hJ2⟩ := hFm t u l m b c h J hL hM1
  exact ⟨v, J, J2, A', e1, hO1, e3, hA', hM2, jOut_I hO1 (hJ2 63 (by omega)), t, u, l, m, b, c, hL, jCC_lo hL hA' hJ2 hC'⟩
theorem lg_0 {x : Int64} : lg_cmp x x = 0 := by
  unfold lg_cmp
  rw [if_neg (Int64.lt_irrefl), if_pos rfl]
theorem x_tl {P : Int32 × LH → Prop} {v2 : Int32} {y : Int64} {h1 : LH} {I2 : Nat → Nat → Int32} {kk E : LH → Option (Int32 × LH)} (hX : jInv L xs S N A h1 I2) (e0 : I2 205 0 = v2) (el : v2 = 0 → h1.2.2.2 717 0 = y) (hk : jW (kk (jz_I h1 I2)) P) : jW (jf_kd (jz_I h1 I2) 205 11 (jf_bi (F_Mod_thrown 205 (jz_I h1 I2)) fun v7 h8 => if v7 = v2 then (if v2 = 0 then jf_la h8 717 (0 : Int32) fun v9 => if lg_cmp v9 y = 0 then kk h8 else E h8 else kk h8) else E h8)) P := by
  obtain ⟨hA, hM, hO, t, u, l, m, b, c, hL, hC⟩ := hX
  have et : F_Mod_thrown 205 (jz_I h1 I2) = some (v2, jz_I h1 I2) := by
    unfold F_Mod_thrown
    simp (disch := omega) only [e0, ↓dK_205 hL, ↓dG_205 hL, ↓dP_205 hL, ↓dZ_205 hL (x := nI 0) (Or.inl rfl), ↓dZ_205 hL (x := nI 1) (Or.inr rfl), ↓dZ_205 hL (Or.inl rfl), ↓dZ_205 hL (Or.inr rfl), ↓dZ_205 hL (nB_01 _), ↓reduceIte, ↓kq_bi, ↓kq_let, ↓kq_rz0, ↓kq_rz1, ↓kq_rzB, ↓Option.bind_some, kq_dvn, kt_lt, kf_lt, kt_eq, kf_eq, decide_true, decide_false, eq_self, Bool.false_eq_true, Bool.true_eq_false, not_true_eq_false, not_false_eq_true, jU_eq, jU_ne, jU_U, jV_eq, jV_ne, jV_V, kn_lit, kn_add, kn_mul, kn_sdm, kn_sub, kn_div, kn_nsdm, kn_lt, kn_eq, kn_pred, kn_m1, kn_m1', kn_a31, kn_shl, kn_shr, kn_bit, nB_0, nB_1, nB_t, nB_f, Nat.zero_add, Nat.add_zero, Nat.reduceAdd, Nat.reduceMul, Nat.reduceSub, Nat.reducePow]
  rw [dK_205 hL, et, kq_bi, if_pos rfl]
  by_cases z : v2 = 0
  · rw [if_pos z]
    unfold jf_la
    rw [if_pos ⟨hO.2.1.1, by show jl_in 0 (jl_ln h1 717) = true; rw [hO.2.1.2]; rfl⟩]
    have e : (jz_I h1 I2).2.2.2 717 (0 : Int32).toNatClampNeg = y := el z
    rw [e]
    exact (congrArg (fun z => jW z P) (if_pos lg_0)).mpr hk
  · rw [if_neg z]; exact hk
theorem jW_if {Q : Type} {P : Q → Prop} {c : Prop} [Decidable c] {X Y : Option Q} (hx : c → jW X P) (hy : ¬ c → jW Y P) : jW (if c then X else Y) P := by
  by_cases z : c
  · rw [if_pos z]; exact hx z
  · rw [if_neg z]; exact hy z
theorem cdI_2 : ∀ k, k < 2 → cdI k ≤ 2 := by decide
theorem cdB_2 : ∀ k, k < 2 → cdB k ≤ 2 := by decide
theorem cdE_2 : ∀ k, k < 2 → cdE k ≤ 2 := by decide
end

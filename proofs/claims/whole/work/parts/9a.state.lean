/-! PLAIN LEAN, 66: the state as a whole -/
abbrev JHs : Type := Nat × (Nat → JRw)
abbrev JIm : Type := Nat × (Nat → JRw × JHs)
/-- town, law, row, book, history, images, tape, place of the fault, refused steps, refusals of both kinds -/
abbrev JA : Type := JTn × JLw × JRw × JBk × JHs × JIm × (Nat × (Nat → Nat)) × Int32 × Nat × Nat × Nat
def jRG (τ : JTn) (r : JRw) : Prop := jROK τ r ∧ jCm τ r ∧ r 133 ≤ 1000
/-- what holds of it by itself; N: no more refusals than this -/
def jAG (N : Nat) : JA → Prop := fun (τ, ω, r, β, H, E, Tp, _, rf, c0, c1) => jTOK τ ∧ jLOK ω ∧ jRG τ r ∧ jBOK τ β ∧ (H.1 ≤ 16 ∧ ∀ i, i < H.1 → jRG τ (H.2 i)) ∧ (E.1 ≤ 3 ∧ ∀ e, e < E.1 → jRG τ (E.2 e).1 ∧ (E.2 e).2.1 ≤ 16 ∧ ∀ i, i < (E.2 e).2.1 → jRG τ ((E.2 e).2.2 i)) ∧ (Tp.1 ≤ 600 ∧ ∀ k, Tp.2 k < 256) ∧ rf < 100000 ∧ c0 ≤ N ∧ c1 ≤ N
/-- the class holds it -/
def jCC (h : LH) (I : Nat → Nat → Int32) (t l b : Nat) : JA → Prop := fun (τ, ω, r, β, H, E, Tp, p, rf, c0, c1) => (jCT I t τ ∧ jCL I l ω) ∧ jCS I 85 τ false r ∧ jCB I b β ∧ (I 106 1 = nI H.1 ∧ ∀ i, i < H.1 → jCR I (108 + i) (H.2 i)) ∧ (I 64 14 = nI E.1 ∧ ∀ e, e < E.1 → jCR I (180 + e) (E.2 e).1 ∧ I (125 + 18 * e) 1 = nI (E.2 e).2.1 ∧ ∀ i, i < (E.2 e).2.1 → jCR I (127 + 18 * e + i) ((E.2 e).2.2 i)) ∧ (I 65 1 = nI Tp.1 ∧ I 65 3 = p ∧ ∀ k, k < Tp.1 → I 66 k = nS (Tp.2 k)) ∧ (I 64 15 = nI rf ∧ I 64 16 = nI c0 ∧ I 64 17 = nI c1) ∧ jStr h I
/-- the reference holds it -/
def jMM (I : Nat → Nat → Int32) : JA → Prop := fun (τ, ω, r, β, H, E, Tp, p, rf, c0, c1) => (jMT I τ ∧ jML I ω ∧ I 205 44 = nB false) ∧ jMR I 691 r ∧ jMB I β ∧ (I 205 40 = nI H.1 ∧ ∀ i, i < H.1 → jMR I (694 + i) (H.2 i)) ∧ (I 205 42 = nI E.1 ∧ ∀ e, e < E.1 → I (711 + e) 0 = nI (E.2 e).2.1 ∧ (∀ k, k < 134 → I (711 + e) (1 + k) = nI ((E.2 e).1 k)) ∧ ∀ i k, i < (E.2 e).2.1 → k < 134 → I (711 + e) (135 + (134 * i + k)) = nI ((E.2 e).2.2 i k)) ∧ (I 205 1 = nI Tp.1 ∧ I 205 3 = p ∧ ∀ k, k < Tp.1 → I 206 k = nI (Tp.2 k)) ∧ (I 205 41 = nI rf ∧ I 207 0 = nI c0 ∧ I 207 1 = nI c1)
/-- one refusal more -/
def jBmp (k : Nat) : JA → JA := fun (τ, ω, r, β, H, E, Tp, p, rf, c0, c1) => (τ, ω, r, β, H, E, Tp, p, rf, (if k = 0 then c0 + 1 else c0), (if k = 0 then c1 else c1 + 1))
def jCO (o : Int32 ⊕ Nat) (g : LH) : JOut := match o with
  | .inl v => jo_i (v, g)
  | .inr k => (.inr k, g)
def jHp (h h' : LH) : Prop := (h'.1 = h.1 ∨ h'.1 = h.1 ++ [(40, 6)]) ∧ h'.2.2.2 = h.2.2.2
/-- a call: both sides go from A to A', with the answer o; cd: the reference's numbers for refusals -/
def jCall (cd : Nat → Nat) (Fc : LH → Option JOut) (Fm : LH → Option (Int32 × LH)) (A A' : JA) (o : Int32 ⊕ Nat) : Prop := (∀ t u l m b c h I, jLay t u l m b c h → jCC h I t l b A → ∃ t' u' l' m' b' c' h' J, Fc (jz_I h I) = some (jCO o (jz_I h' J)) ∧ jLay t' u' l' m' b' c' h' ∧ jCC h' J t' l' b' A' ∧ (∀ a, a < 64 ∨ 205 ≤ a → J a = I a) ∧ jHp h h') ∧ ∀ t u l m b c h I, jLay t u l m b c h → jMM I A → ∃ v J, Fm (jz_I h I) = some (v, jz_I h J) ∧ J 205 0 = nI (o.elim (fun _ => 0) cd) ∧ (∀ w, o = .inl w → v = w) ∧ jMM J A' ∧ ∀ a, a < 205 → J a = I a
/-- a question has changed the class -/
def jCF (l b : Nat) (I J : Nat → Nat → Int32) : Prop := ∀ a, ¬ (85 ≤ a ∧ a ≤ 105) → ¬ a = l + 2 → ¬ a = b + 2 → J a = I a
section
variable {t u l m b c : Nat} {h : LH} {I J K : Nat → Nat → Int32} {A A' : JA} {N : Nat} {τ : JTn} {ω : JLw} {r : JRw} {β : JBk} {H : JHs} {E : JIm} {Tp : Nat × (Nat → Nat)} {p : Int32} {rf c0 c1 : Nat}
theorem jl_junk_I {n : Nat} : jl_junk (jz_I h J) n = jz_I (jl_junk h n) J := rfl
theorem jLay_len (hL : jLay t u l m b c h) : 718 ≤ h.1.length := by
  have h1 := hL.1 653 (by omega)
  have h2 : jh_K[653]? ≠ none := by decide +kernel
  by_cases z : 64 + 653 < h.1.length
  · omega
  · rw [List.getElem?_eq_none (by omega)] at h1
    exact absurd h1.symm h2
theorem jLay_junk (hL : jLay t u l m b c h) : jLay t u l m b c (jl_junk h 6) := by
  have hlen := jLay_len hL
  obtain ⟨a1, a2⟩ := hL
  refine ⟨fun a ha => ?_, a2⟩
  show (h.1 ++ [(40, 6)])[64 + a]? = _
  rw [List.getElem?_append_left (by omega)]
  exact a1 a ha
theorem jStr_junk (hL : jLay t u l m b c h) (hS : jStr h J) : jStr (jl_junk h 6) J := by
  have hlen := jLay_len hL
  have kd : ∀ a, a < 718 → jl_kd (jl_junk h 6) a = jl_kd h a := fun a ha => by
    unfold jl_kd
    show ((h.1 ++ [(40, 6)])[a]?).elim 999 _ = _
    rw [List.getElem?_append_left (by omega)]
  have ln : ∀ a, a < 718 → jl_ln (jl_junk h 6) a = jl_ln h a := fun a ha => by
    unfold jl_ln
    show ((h.1 ++ [(40, 6)])[a]?).elim 0 _ = _
    rw [List.getElem?_append_left (by omega)]
  intro k h1 h2
  rw [kd k (by omega), kd (k + 21) (by omega), ln (k + 21) (by omega)]
  exact hS k h1 h2
theorem jCF_c90 (h1 : jSc l 90 I J) : jCF l b I J := fun a x1 x2 _ => h1 a (by omega) x2
theorem jCF_c85 (h1 : jSc l 85 I J) : jCF l b I J := fun a x1 x2 _ => h1 a (by omega) x2
theorem jCF_b (h1 : jSb l b I J) : jCF l b I J := fun a x1 x2 x3 => h1 a (by omega) x2 x3
theorem jCF_g (h1 : jSg l I J) : jCF l b I J := fun a x1 x2 _ => h1 a (by omega) x2 (by omega)
theorem jCF_d (h1 : jSd l I J) : jCF l b I J := fun a x1 x2 _ => h1 a (by omega) x2 (by omega)
theorem jCF_k (h1 : jSk l I J) : jCF l b I J := fun a x1 x2 _ => h1 a (by omega) x2 (by omega)
theorem jCF_r : jCF l b I I := fun _ _ _ _ => rfl
theorem jCS_cg (h1 : ∀ a, 85 ≤ a → a < 90 → J a = I a) (hS : jCS I 85 τ false r) : jCS J 85 τ false r := jCS_congr (fun a x1 x2 => h1 a x1 (by omega)) hS
theorem jCC_F (hL : jLay t u l m b c h) (hC : jCC h I t l b (τ, ω, r, β, H, E, Tp, p, rf, c0, c1)) (hA : jAG N (τ, ω, r, β, H, E, Tp, p, rf, c0, c1)) (hF : jCF l b I J) (hS : jCS J 85 τ false r) : jCC h J t l b (τ, ω, r, β, H, E, Tp, p, rf, c0, c1) := by
  have ht := jLay_t hL
  have hl := jLay_l hL
  have hb := jLay_b hL
  obtain ⟨⟨a1, a2⟩, a3, a4, ⟨a5, a6⟩, ⟨a7, a8⟩, ⟨a9, a10, a11⟩, ⟨a12, a13, a14⟩, a15⟩ := hC
  obtain ⟨-, -, -, -, ⟨b1, -⟩, ⟨b2, b3⟩, -⟩ := hA
  refine ⟨⟨jCT_congr (fun i hi => hF _ (by omega) (by omega) (by omega)) a1, ⟨?_, fun k hk => ?_⟩⟩, hS, ⟨?_, fun g hg => ?_⟩, ⟨?_, fun i hi => ?_⟩, ⟨?_, fun e he => ?_⟩, ⟨?_, ?_, fun k hk => ?_⟩, ⟨?_, ?_, ?_⟩, jStr_eq a15 (fun a ha => hF a (by omega) (by omega) (by omega))⟩
  · rw [hF l (by omega) (by omega) (by omega)]; exact a2.1
  · rw [hF (l + 1) (by omega) (by omega) (by omega)]; exact a2.2 k hk
  · rw [hF b (by omega) (by omega) (by omega)]; exact a4.1
  · rw [hF (b + 1) (by omega) (by omega) (by omega)]; exact a4.2 g hg
  · rw [hF 106 (by omega) (by omega) (by omega)]; exact a5
  · exact jCR_congr (hF _ (by omega) (by omega) (by omega)) (a6 i hi)
  · rw [hF 64 (by omega) (by omega) (by omega)]; exact a7
  · obtain ⟨q1, q2, q3⟩ := a8 e he
    obtain ⟨-, d1, -⟩ := b3 e he
    exact ⟨jCR_congr (hF _ (by omega) (by omega) (by omega)) q1, by rw [hF _ (by omega) (by omega) (by omega)]; exact q2, fun i hi => jCR_congr (hF _ (by omega) (by omega) (by omega)) (q3 i hi)⟩
  · rw [hF 65 (by omega) (by omega) (by omega)]; exact a9
  · rw [hF 65 (by omega) (by omega) (by omega)]; exact a10
  · rw [hF 66 (by omega) (by omega) (by omega)]; exact a11 k hk
  · rw [hF 64 (by omega) (by omega) (by omega)]; exact a12
  · rw [hF 64 (by omega) (by omega) (by omega)]; exact a13
  · rw [hF 64 (by omega) (by omega) (by omega)]; exact a14
theorem jMM_N (hC : jMM I (τ, ω, r, β, H, E, Tp, p, rf, c0, c1)) (hA : jAG N (τ, ω, r, β, H, E, Tp, p, rf, c0, c1)) (hN : jN I J) : jMM J (τ, ω, r, β, H, E, Tp, p, rf, c0, c1) := by
  obtain ⟨⟨a1, a2, a3⟩, a4, a5, ⟨a6, a7⟩, ⟨a8, a9⟩, ⟨a10, a11, a12⟩, a13, a14, a15⟩ := hC
  obtain ⟨o1, o2, -, ⟨o3, -⟩, ⟨b1, -⟩, ⟨b2, -⟩, -⟩ := hA
  obtain ⟨n1, n2, n3, n4⟩ := hN
  have n1' : ∀ a, (206 ≤ a ∧ a < 608) ∨ a = 691 ∨ (693 ≤ a ∧ a < 714) → J a = I a := fun a ha => n1 a (by omega) (by omega) (by omega) (by omega) (by omega)
  refine ⟨⟨jMT_congr (fun a x1 x2 => n1' a (by omega)) o1 a1, jML_congr (fun a x1 x2 => n1' a (by omega)) (n2 25 (by omega) (by omega)) o2 a2, n3⟩, fun k hk => ?_, ⟨?_, fun k j hk hj => ?_⟩, ⟨?_, fun i hi k hk => ?_⟩, ⟨?_, fun e he => ?_⟩, ⟨?_, ?_, fun k hk => ?_⟩, ?_, ?_, ?_⟩
  · rw [n1' 691 (by omega)]; exact a4 k hk
  · rw [n2 39 (by omega) (by omega)]; exact a5.1
  · rw [n1' (589 + k) (by omega)]; exact a5.2 k j hk hj
  · rw [n2 40 (by omega) (by omega)]; exact a6
  · rw [n1' (694 + i) (by omega)]; exact a7 i hi k hk
  · rw [n2 42 (by omega) (by omega)]; exact a8
  · rw [n1' (711 + e) (by omega)]; exact a9 e he
  · rw [n2 1 (by omega) (by omega)]; exact a10
  · rw [n2 3 (by omega) (by omega)]; exact a11
  · rw [n1' 206 (by omega)]; exact a12 k hk
  · rw [n2 41 (by omega) (by omega)]; exact a13
  · rw [n1' 207 (by omega)]; exact a14
  · rw [n1' 207 (by omega)]; exact a15
theorem jCC_Q (hC : jCC h I t l b (τ, ω, r, β, H, E, Tp, p, rf, c0, c1)) (hA : jAG N (τ, ω, r, β, H, E, Tp, p, rf, c0, c1)) : jQC I t l τ ω r := by
  obtain ⟨⟨a1, a2⟩, a3, -⟩ := hC
  obtain ⟨o1, o2, o3, -⟩ := hA
  exact ⟨⟨a1, o1, a2, o2⟩, a3, o3.1, o3.2.2⟩
theorem jMM_Q (hC : jMM I (τ, ω, r, β, H, E, Tp, p, rf, c0, c1)) (hA : jAG N (τ, ω, r, β, H, E, Tp, p, rf, c0, c1)) : jQM I τ ω r := by
  obtain ⟨⟨a1, a2, a3⟩, a4, -⟩ := hC
  obtain ⟨o1, o2, o3, -⟩ := hA
  exact ⟨⟨a1, o1, a2, o2, a3⟩, a4, o3.1, o3.2.2⟩
theorem jCall_q {cd : Nat → Nat} {Fc : LH → Option JOut} {Fm : LH → Option (Int32 × LH)} {v : Int32} (hA : jAG N (τ, ω, r, β, H, E, Tp, p, rf, c0, c1)) (hc : ∀ t u l m b c h I, jLay t u l m b c h → jCC h I t l b (τ, ω, r, β, H, E, Tp, p, rf, c0, c1) → ∃ J, Fc (jz_I h I) = some (jo_i (v, jz_I h J)) ∧ jCS J 85 τ false r ∧ jCF l b I J) (hm : ∀ t u l m b c h I, jLay t u l m b c h → jMM I (τ, ω, r, β, H, E, Tp, p, rf, c0, c1) → ∃ J, Fm (jz_I h I) = some (v, jz_I h J) ∧ jN I J) : jCall cd Fc Fm (τ, ω, r, β, H, E, Tp, p, rf, c0, c1) (τ, ω, r, β, H, E, Tp, p, rf, c0, c1) (.inl v) := by
  refine ⟨fun t u l m b c h I hL hC => ?_, fun t u l m b c h I hL hC => ?_⟩
  · obtain ⟨J, e, hS, hF⟩ := hc t u l m b c h I hL hC
    have hl := jLay_l hL
    have hb := jLay_b hL
    exact ⟨t, u, l, m, b, c, h, J, e, hL, jCC_F hL hC hA hF hS, fun a ha => hF a (by omega) (by omega) (by omega), Or.inl rfl, rfl⟩
  · obtain ⟨J, e, hN⟩ := hm t u l m b c h I hL hC
    exact ⟨v, J, e, hN.2.2.2, fun w hw => by cases hw; rfl, jMM_N hC hA hN, fun a ha => hN.1 a (by omega) (by omega) (by omega) (by omega) (by omega)⟩
/-- a refused call -/
theorem jCall_b {cd : Nat → Nat} {Fc : LH → Option JOut} {Fm : LH → Option (Int32 × LH)} {k : Nat} (hk : k < 2) (hA : jAG N (τ, ω, r, β, H, E, Tp, p, rf, c0, c1)) (hc : ∀ t u l m b c h I, jLay t u l m b c h → jCC h I t l b (τ, ω, r, β, H, E, Tp, p, rf, c0, c1) → Fc (jz_I h I) = some (.inr k, jl_junk (jz_I h (jU I 64 (jV (I 64) (16 + k) (I 64 (16 + k) + nI 1)))) 6)) (hm : ∀ t u l m b c h I, jLay t u l m b c h → jMM I (τ, ω, r, β, H, E, Tp, p, rf, c0, c1) → ∃ J, Fm (jz_I h I) = some (nI 0, jz_I h J) ∧ J 205 0 = nI (cd k) ∧ J 207 = jV (I 207) k (I 207 k + nI 1) ∧ (∀ f, ¬ f = 0 → J 205 f = I 205 f) ∧ ∀ d, ¬ d = 205 → ¬ d = 207 → J d = I d) : jCall cd Fc Fm (τ, ω, r, β, H, E, Tp, p, rf, c0, c1) (jBmp k (τ, ω, r, β, H, E, Tp, p, rf, c0, c1)) (.inr k) := by
  refine ⟨fun t u l m b c h I hL hC => ?_, fun t u l m b c h I hL hC => ?_⟩
  · have e := hc t u l m b c h I hL hC
    have ht := jLay_t hL
    have hl := jLay_l hL
    have hb := jLay_b hL
    have hF : ∀ a, ¬ a = 64 → (jU I 64 (jV (I 64) (16 + k) (I 64 (16 + k) + nI 1))) a = I a := fun a ha => jU_ne ha
    have h64 : (jU I 64 (jV (I 64) (16 + k) (I 64 (16 + k) + nI 1))) 64 = jV (I 64) (16 + k) (I 64 (16 + k) + nI 1) := jU_eq
    refine ⟨t, u, l, m, b, c, jl_junk h 6, jU I 64 (jV (I 64) (16 + k) (I 64 (16 + k) + nI 1)), e, jLay_junk hL, ?_, fun a ha => hF a (by omega), Or.inr rfl, rfl⟩
    obtain ⟨⟨a1, a2⟩, a3, a4, ⟨a5, a6⟩, ⟨a7, a8⟩, ⟨a9, a10, a11⟩, ⟨a12, a13, a14⟩, a15⟩ := hC
    obtain ⟨-, -, -, -, ⟨b1, -⟩, ⟨b2, b3⟩, -⟩ := hA
    generalize jU I 64 (jV (I 64) (16 + k) (I 64 (16 + k) + nI 1)) = J at hF h64
    refine ⟨⟨jCT_congr (fun i hi => hF _ (by omega)) a1, ⟨?_, fun k hk => ?_⟩⟩, jCS_cg (fun a x1 x2 => hF a (by omega)) a3, ⟨?_, fun g hg => ?_⟩, ⟨?_, fun i hi => ?_⟩, ⟨?_, fun e he => ?_⟩, ⟨?_, ?_, fun k hk => ?_⟩, ⟨?_, ?_, ?_⟩, jStr_junk hL (jStr_eq a15 (fun a ha => hF a (by omega)))⟩
    · rw [hF l (by omega)]; exact a2.1
    · rw [hF (l + 1) (by omega)]; exact a2.2 k hk
    · rw [hF b (by omega)]; exact a4.1
    · rw [hF (b + 1) (by omega)]; exact a4.2 g hg
    · rw [hF 106 (by omega)]; exact a5
    · exact jCR_congr (hF _ (by omega)) (a6 i hi)
    · rw [h64, jV_ne (by omega)]; exact a7
    · obtain ⟨q1, q2, q3⟩ := a8 e he
      obtain ⟨-, d1, -⟩ := b3 e he
      exact ⟨jCR_congr (hF _ (by omega)) q1, by rw [hF _ (by omega)]; exact q2, fun i hi => jCR_congr (hF _ (by omega)) (q3 i hi)⟩
    · rw [hF 65 (by omega)]; exact a9
    · rw [hF 65 (by omega)]; exact a10
    · rw [hF 66 (by omega)]; exact a11 k hk
    · rw [h64, jV_ne (by omega)]; exact a12
    · rw [h64]
      rcases (show k = 0 ∨ k = 1 by omega) with rfl | rfl
      · rw [jV_eq, a13, kn_add]; rfl
      · rw [jV_ne (by omega)]; exact a13
    · rw [h64]
      rcases (show k = 0 ∨ k = 1 by omega) with rfl | rfl
      · rw [jV_ne (by omega)]; exact a14
      · rw [jV_eq, a14, kn_add]; rfl
  · obtain ⟨J, e, j0, j207, j205, jd⟩ := hm t u l m b c h I hL hC
    refine ⟨nI 0, J, e, j0, fun w hw => (by cases hw), ?_, fun a ha => jd a (by omega) (by omega)⟩
    obtain ⟨⟨a1, a2, a3⟩, a4, a5, ⟨a6, a7⟩, ⟨a8, a9⟩, ⟨a10, a11, a12⟩, a13, a14, a15⟩ := hC
    obtain ⟨o1, o2, -, ⟨o3, -⟩, ⟨b1, -⟩, ⟨b2, -⟩, -⟩ := hA
    refine ⟨⟨jMT_congr (fun a x1 x2 => jd a (by omega) (by omega)) o1 a1, jML_congr (fun a x1 x2 => jd a (by omega) (by omega)) (j205 25 (by omega)) o2 a2, (j205 44 (by omega)).trans a3⟩, fun k hk => ?_, ⟨?_, fun k j hk hj => ?_⟩, ⟨?_, fun i hi k hk => ?_⟩, ⟨?_, fun e he => ?_⟩, ⟨?_, ?_, fun k hk => ?_⟩, ?_, ?_, ?_⟩
    · rw [jd 691 (by omega) (by omega)]; exact a4 k hk
    · rw [j205 39 (by omega)]; exact a5.1
    · rw [jd (589 + k) (by omega) (by omega)]; exact a5.2 k j hk hj
    · rw [j205 40 (by omega)]; exact a6
    · rw [jd (694 + i) (by omega) (by omega)]; exact a7 i hi k hk
    · rw [j205 42 (by omega)]; exact a8
    · rw [jd (711 + e) (by omega) (by omega)]; exact a9 e he
    · rw [j205 1 (by omega)]; exact a10
    · rw [j205 3 (by omega)]; exact a11
    · rw [jd 206 (by omega) (by omega)]; exact a12 k hk
    · rw [j205 41 (by omega)]; exact a13
    · rw [j207]
      rcases (show k = 0 ∨ k = 1 by omega) with rfl | rfl
      · rw [jV_eq, a14, kn_add]; rfl
      · rw [jV_ne (by omega)]; exact a14
    · rw [j207]
      rcases (show k = 0 ∨ k = 1 by omega) with rfl | rfl
      · rw [jV_ne (by omega)]; exact a15
      · rw [jV_eq, a15, kn_add]; rfl
end

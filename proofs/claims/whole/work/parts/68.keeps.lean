/-! PLAIN LEAN, 34: keeps of the reference -/
section
variable {t u l m b c : Nat} {h : LH} {I J K : Nat → Nat → Int32} {τ : JTn} {r q : JRw} {σ ρ i a : Nat} {Q : Type} {x : Int32} {d : Bool} {ω : JLw} {f : Nat → Int32} {g w bits : Nat}
def jP1 (s : JKb) : Prop := ∀ q, s = some q → q.1 ≤ 10 ∧ q.2 < 100000
theorem s_ku_1 {n p : Nat} (hn : n ≤ 5) {B : JKb} (hB : jP1 B) : jP1 (s_ku τ ω r g w bits n p B) := fun q hq => by
  have h1 := s_ps_sl n p
  have h2 := s_sl_le (p := p) n
  have h3 := s_pt_lt n p
  have h10 : 10 ^ n ≤ 10 ^ 5 := Nat.pow_le_pow_right (by omega) hn
  unfold s_ku at hq
  split at hq
  · cases hq; exact ⟨by show s_ps n p ≤ 10; omega, by show s_pt n p < 100000; omega⟩
  · exact hB q hq
theorem s_kr_1 {n : Nat} (hn : n ≤ 5) : ∀ j, jP1 (s_kr τ ω r g w bits n none 0 j)
  | 0 => fun q hq => by cases hq
  | j + 1 => s_ku_1 hn (s_kr_1 hn j)
theorem m_keeps (hL : jLay t u l m b c h) (hQ : jQM I τ ω r) (hg : g < τ 0 0) (hw : w < τ 0 1) {n : Nat} (hn : n ≤ 5) (hb : bits < 2 ^ n) (v : Bool) : ∃ J, F_Mod_keeps 205 (nI g) (nI w) (nI n) (nI bits) (nB v) (jz_I h I) = some (s_keeps τ ω r g w n bits v, jz_I h J) ∧ jN I J := by
  have N0 := jN_0 hQ
  have hQ0 := jN_QM N0 hQ
  have ho := hQ.1.2.1
  have o0 : τ 0 0 ≤ 9 := ho.1
  have o1 : τ 0 1 ≤ 6 := ho.2.1
  have hb32 : bits < 32 := Nat.lt_of_lt_of_le hb (show 2 ^ n ≤ 2 ^ 5 from Nat.pow_le_pow_right (by omega) hn)
  have hp := kn_pow (k := n) (by omega)
  have hp1 : 1 ≤ 2 ^ n := Nat.one_le_two_pow
  have h243 : 3 ^ n ≤ 243 := show 3 ^ n ≤ 3 ^ 5 from Nat.pow_le_pow_right (by omega) hn
  refine jE_i (fun P hP => ?_)
  have key : jW (F_Mod_keeps_b82 205 (nI g) (nI w) (nI n) (nI bits) (nB v) 205 (nI 0) (jz_I h (jU I 205 (jV (I 205) 0 (nI 0))))) P := by
    unfold F_Mod_keeps_b82
    simp (disch := omega) only [m_bad0 hL N0.2.2.2, ↓dK_205 hL, ↓dG_205 hL, ↓dP_205 hL, ↓dZ_205 hL (x := nI 0) (Or.inl rfl), ↓dZ_205 hL (x := nI 1) (Or.inr rfl), ↓dZ_205 hL (Or.inl rfl), ↓dZ_205 hL (Or.inr rfl), ↓dZ_205 hL (nB_01 _), ↓reduceIte, ↓kq_bi, ↓kq_let, ↓kq_rz0, ↓kq_rz1, ↓kq_rzB, ↓Option.bind_some, kq_dvn, kt_lt, kf_lt, kt_eq, kf_eq, decide_true, decide_false, eq_self, Bool.false_eq_true, Bool.true_eq_false, not_true_eq_false, not_false_eq_true, jU_eq, jU_ne, jU_U, jV_eq, jV_ne, jV_V, kn_lit, kn_add, kn_mul, kn_sdm, kn_sub, kn_div, kn_nsdm, kn_lt, kn_eq, kn_pred, kn_m1, kn_m1', kn_a31, kn_shl, kn_shr, kn_bit, nB_0, nB_1, nB_t, nB_f, Nat.zero_add, Nat.add_zero, Nat.reduceAdd, Nat.reduceMul, Nat.reduceSub, Nat.reducePow]
    generalize jU I 205 (jV (I 205) 0 (nI 0)) = J0 at N0
    refine jW_for0 (f := fun fuel k (_ : Unit) => F_Mod_keeps_l104 fuel 205 (nI g) (nI w) (nI n) (nI bits) (nB v) (nI (3 ^ k)) (-nI 1) (-nI 1) (nI k) (jz_I h J0)) n (fun _ _ => True) () trivial (by omega) (fun F k _ hk _ ih => ?_) (fun F _ _ => ?_)
    · have h3k : 3 ^ k ≤ 243 := show 3 ^ k ≤ 3 ^ 5 from Nat.pow_le_pow_right (by omega) (by omega)
      have ih' := ih () trivial
      show jW (F_Mod_keeps_c104 (F_Mod_keeps_l104 F) 205 (nI g) (nI w) (nI n) (nI bits) (nB v) (nI (3 ^ k)) (-nI 1) (-nI 1) (nI k) (jz_I h J0)) P
      unfold F_Mod_keeps_c104
      simp (disch := omega) only [↓reduceIte, ↓kq_bi, ↓kq_let, ↓kq_rz0, ↓kq_rz1, ↓kq_rzB, ↓Option.bind_some, kq_dvn, kt_lt, kf_lt, kt_eq, kf_eq, decide_true, decide_false, eq_self, Bool.false_eq_true, Bool.true_eq_false, not_true_eq_false, not_false_eq_true, jU_eq, jU_ne, jU_U, jV_eq, jV_ne, jV_V, kn_lit, kn_add, kn_mul, kn_sdm, kn_sub, kn_div, kn_nsdm, kn_lt, kn_eq, kn_pred, kn_m1, kn_m1', kn_a31, kn_shl, kn_shr, kn_bit, nB_0, nB_1, nB_t, nB_f, Nat.zero_add, Nat.add_zero, Nat.reduceAdd, Nat.reduceMul, Nat.reduceSub, Nat.reducePow]
      exact ih'
    · show jW (F_Mod_keeps_c104 (F_Mod_keeps_l104 F) 205 (nI g) (nI w) (nI n) (nI bits) (nB v) (nI (3 ^ n)) (-nI 1) (-nI 1) (nI n) (jz_I h J0)) P
      unfold F_Mod_keeps_c104
      simp (disch := omega) only [↓reduceIte, ↓kq_bi, ↓kq_let, ↓kq_rz0, ↓kq_rz1, ↓kq_rzB, ↓Option.bind_some, kq_dvn, kt_lt, kf_lt, kt_eq, kf_eq, decide_true, decide_false, eq_self, Bool.false_eq_true, Bool.true_eq_false, not_true_eq_false, not_false_eq_true, jU_eq, jU_ne, jU_U, jV_eq, jV_ne, jV_V, kn_lit, kn_add, kn_mul, kn_sdm, kn_sub, kn_div, kn_nsdm, kn_lt, kn_eq, kn_pred, kn_m1, kn_m1', kn_a31, kn_shl, kn_shr, kn_bit, nB_0, nB_1, nB_t, nB_f, Nat.zero_add, Nat.add_zero, Nat.reduceAdd, Nat.reduceMul, Nat.reduceSub, Nat.reducePow]
      refine jW_for0 (f := fun fuel p (K : Nat → Nat → Int32) => F_Mod_keeps_l125 fuel 205 (nI g) (nI w) (nI n) (nI bits) (nB v) (nI (3 ^ n)) (nP1 (s_kr τ ω r g w bits n none 0 p)) (nP2 (s_kr τ ω r g w bits n none 0 p)) (nI p) (jz_I h K)) (3 ^ n) (fun p K => jN I K) J0 N0 (by omega) (fun F p K hpn hV ih => ?_) (fun F K hV => ?_)
      · have hB1 := s_kr_1 (τ := τ) (ω := ω) (r := r) (g := g) (w := w) (bits := bits) hn p
        have es : s_kr τ ω r g w bits n none 0 (p + 1) = s_ku τ ω r g w bits n p (s_kr τ ω r g w bits n none 0 p) := by show s_ku τ ω r g w bits n (0 + p) _ = _; rw [Nat.zero_add]
        rw [es] at ih
        show jW (F_Mod_keeps_c125 (F_Mod_keeps_l125 F) 205 (nI g) (nI w) (nI n) (nI bits) (nB v) (nI (3 ^ n)) (nP1 (s_kr τ ω r g w bits n none 0 p)) (nP2 (s_kr τ ω r g w bits n none 0 p)) (nI p) (jz_I h K)) P
        unfold F_Mod_keeps_c125
        generalize s_kr τ ω r g w bits n none 0 p = B at hB1 ih ⊢
        unfold s_ku at ih
        have hsl := s_sl_le (p := p) n
        have hpsl := s_ps_sl n p
        have hpt := s_pt_lt n p
        simp (disch := omega) only [↓reduceIte, ↓kq_bi, ↓kq_let, ↓kq_rz0, ↓kq_rz1, ↓kq_rzB, ↓Option.bind_some, kq_dvn, kt_lt, kf_lt, kt_eq, kf_eq, decide_true, decide_false, eq_self, Bool.false_eq_true, Bool.true_eq_false, not_true_eq_false, not_false_eq_true, jU_eq, jU_ne, jU_U, jV_eq, jV_ne, jV_V, kn_lit, kn_add, kn_mul, kn_sdm, kn_sub, kn_div, kn_nsdm, kn_lt, kn_eq, kn_pred, kn_m1, kn_m1', kn_a31, kn_shl, kn_shr, kn_bit, nB_0, nB_1, nB_t, nB_f, Nat.zero_add, Nat.add_zero, Nat.reduceAdd, Nat.reduceMul, Nat.reduceSub, Nat.reducePow]
        have ihno : ∀ K, jN I K → ((s_pq τ ω r g w bits n p).isSome && s_bok B (s_ps n p)) = false → jW (F_Mod_keeps_b253 (F_Mod_keeps_l125 F) 205 (nI g) (nI w) (nI n) (nI bits) (nB v) (nI (3 ^ n)) (nP1 B) (nP2 B) (nI p) (jz_I h K)) P := fun K z1 z2 => by
          have ih' := ih K z1
          rw [z2, if_neg (show ¬ false = true by decide)] at ih'
          simp (disch := omega) only [F_Mod_keeps_b253, ↓reduceIte, ↓kq_bi, ↓kq_let, ↓kq_rz0, ↓kq_rz1, ↓kq_rzB, ↓Option.bind_some, kq_dvn, kt_lt, kf_lt, kt_eq, kf_eq, decide_true, decide_false, eq_self, Bool.false_eq_true, Bool.true_eq_false, not_true_eq_false, not_false_eq_true, jU_eq, jU_ne, jU_U, jV_eq, jV_ne, jV_V, kn_lit, kn_add, kn_mul, kn_sdm, kn_sub, kn_div, kn_nsdm, kn_lt, kn_eq, kn_pred, kn_m1, kn_m1', kn_a31, kn_shl, kn_shr, kn_bit, nB_0, nB_1, nB_t, nB_f, Nat.zero_add, Nat.add_zero, Nat.reduceAdd, Nat.reduceMul, Nat.reduceSub, Nat.reducePow]
          exact ih'
        have hkd : nI n - nI 1 = nI (n - 0) - nI 1 := rfl
        have hst : ∀ i, i < n → nI (n - i) - nI 1 = nI (n - i - 1) := fun i hi => kn_sub (by omega)
        have hnx : ∀ i, i < n → nI (n - i - 1) + -nI 1 = nI (n - (i + 1)) - nI 1 := fun i hi => by rw [← Int32.sub_eq_add_neg, Nat.sub_sub]
        have start : jW (F_Mod_keeps_l147 (F_Mod_keeps_l125 F) jF 205 (nI g) (nI w) (nI n) (nI bits) (nB v) (nI (3 ^ n)) (nP1 B) (nP2 B) (nI p) (nI (p / 3 ^ 0)) (nI (s_sl p 0)) (nI 0) (nI (n - 0) - nI 1) (jz_I h K)) P := by
          refine jW_for0 (f := fun fuel i (K : Nat → Nat → Int32) => F_Mod_keeps_l147 (F_Mod_keeps_l125 F) fuel 205 (nI g) (nI w) (nI n) (nI bits) (nB v) (nI (3 ^ n)) (nP1 B) (nP2 B) (nI p) (nI (p / 3 ^ i)) (nI (s_sl p i)) (nI 0) (nI (n - i) - nI 1) (jz_I h K)) n (fun i K => jN I K ∧ ∀ k, n - i ≤ k → k < n → K 714 k = nI (p / 3 ^ (n - 1 - k) % 3)) K ⟨hV, fun k h1 h2 => by omega⟩ (by omega) (fun F2 i K hi hV2 ih2 => ?_) (fun F2 K hV2 => ?_)
          · obtain ⟨z1, z2⟩ := hV2
            have hdl : p / 3 ^ i ≤ p := Nat.div_le_self _ _
            have hd3 : p / 3 ^ i % 3 < 3 := Nat.mod_lt _ (by decide)
            have hs9 := s_sl_le (p := p) i
            show jW (F_Mod_keeps_c147 (F_Mod_keeps_l125 F) (F_Mod_keeps_l147 (F_Mod_keeps_l125 F) F2) 205 (nI g) (nI w) (nI n) (nI bits) (nB v) (nI (3 ^ n)) (nP1 B) (nP2 B) (nI p) (nI (p / 3 ^ i)) (nI (s_sl p i)) (nI 0) (nI (n - i) - nI 1) (jz_I h K)) P
            rw [hst i hi]
            unfold F_Mod_keeps_c147
            generalize hkk : n - i - 1 = kk
            have nx : nI kk + -nI 1 = nI kk - nI 1 := (Int32.sub_eq_add_neg _ _).symm
            simp (disch := omega) only [↓dK_205 hL, ↓dG_205 hL, ↓dP_205 hL, ↓dZ_205 hL (x := nI 0) (Or.inl rfl), ↓dZ_205 hL (x := nI 1) (Or.inr rfl), ↓dZ_205 hL (Or.inl rfl), ↓dZ_205 hL (Or.inr rfl), ↓dZ_205 hL (nB_01 _), ↓dR_205_47 hL, dI_714 hL, dS_714 hL, ↓reduceIte, ↓kq_bi, ↓kq_let, ↓kq_rz0, ↓kq_rz1, ↓kq_rzB, ↓Option.bind_some, kq_dvn, kt_lt, kf_lt, kt_eq, kf_eq, decide_true, decide_false, eq_self, Bool.false_eq_true, Bool.true_eq_false, not_true_eq_false, not_false_eq_true, jU_eq, jU_ne, jU_U, jV_eq, jV_ne, jV_V, kn_lit, kn_add, kn_mul, kn_sdm, kn_sub, kn_div, kn_nsdm, kn_lt, kn_eq, kn_pred, kn_m1, kn_m1', kn_a31, kn_shl, kn_shr, kn_bit, nB_0, nB_1, nB_t, nB_f, Nat.zero_add, Nat.add_zero, Nat.reduceAdd, Nat.reduceMul, Nat.reduceSub, Nat.reducePow]
            have ih' := ih2 (jU K 714 (jV (K 714) kk (nI (p / 3 ^ i % 3)))) ⟨jN_714 z1 (fun a ha => jU_ne ha), fun k h1 h2 => by
              rw [jU_eq]
              by_cases hk2 : k = kk
              · rw [hk2, jV_eq, show n - 1 - kk = i by omega]
              · rw [jV_ne hk2]; exact z2 k (by omega) h2⟩
            rw [show n - (i + 1) = kk by omega, ← nx, ← s_3d] at ih'
            exact ih'
          · obtain ⟨z1, z2⟩ := hV2
            have z2 : ∀ k, k < n → K 714 k = nI (p / 3 ^ (n - 1 - k) % 3) := fun k hk => z2 k (by omega) hk
            have hend : nI (n - n) - nI 1 = -nI 1 := by rw [Nat.sub_self]; exact kn_pred0
            show jW (F_Mod_keeps_c147 (F_Mod_keeps_l125 F) (F_Mod_keeps_l147 (F_Mod_keeps_l125 F) F2) 205 (nI g) (nI w) (nI n) (nI bits) (nB v) (nI (3 ^ n)) (nP1 B) (nP2 B) (nI p) (nI (p / 3 ^ n)) (nI (s_sl p n)) (nI 0) (nI (n - n) - nI 1) (jz_I h K)) P
            rw [hend]
            unfold F_Mod_keeps_c147
            have go : s_bok B (s_ps n p) = true → jW (F_Mod_keeps_b200 (F_Mod_keeps_l125 F) 205 (nI g) (nI w) (nI n) (nI bits) (nB v) (nI (3 ^ n)) (nP1 B) (nP2 B) (nI p) (nI (s_sl p n)) (nI 0) (jz_I h K)) P := fun hok => by
              unfold F_Mod_keeps_b200
              simp (disch := omega) only [↓dK_205 hL, ↓dG_205 hL, ↓dP_205 hL, ↓dZ_205 hL (x := nI 0) (Or.inl rfl), ↓dZ_205 hL (x := nI 1) (Or.inr rfl), ↓dZ_205 hL (Or.inl rfl), ↓dZ_205 hL (Or.inr rfl), ↓dZ_205 hL (nB_01 _), ↓reduceIte, ↓kq_bi, ↓kq_let, ↓kq_rz0, ↓kq_rz1, ↓kq_rzB, ↓Option.bind_some, kq_dvn, kt_lt, kf_lt, kt_eq, kf_eq, decide_true, decide_false, eq_self, Bool.false_eq_true, Bool.true_eq_false, not_true_eq_false, not_false_eq_true, jU_eq, jU_ne, jU_U, jV_eq, jV_ne, jV_V, kn_lit, kn_add, kn_mul, kn_sdm, kn_sub, kn_div, kn_nsdm, kn_lt, kn_eq, kn_pred, kn_m1, kn_m1', kn_a31, kn_shl, kn_shr, kn_bit, nB_0, nB_1, nB_t, nB_f, Nat.zero_add, Nat.add_zero, Nat.reduceAdd, Nat.reduceMul, Nat.reduceSub, Nat.reducePow]
              refine jW_bi (m_isKept hL hQ z1 hg hw hn hb32 z2) (fun K2 hK2 => ?_)
              cases hs : (s_pq τ ω r g w bits n p).isSome
              · have := ihno K2 hK2.1 (by rw [hs]; rfl)
                simp (disch := omega) only [↓reduceIte, ↓kq_bi, ↓kq_let, ↓kq_rz0, ↓kq_rz1, ↓kq_rzB, ↓Option.bind_some, kq_dvn, kt_lt, kf_lt, kt_eq, kf_eq, decide_true, decide_false, eq_self, Bool.false_eq_true, Bool.true_eq_false, not_true_eq_false, not_false_eq_true, jU_eq, jU_ne, jU_U, jV_eq, jV_ne, jV_V, kn_lit, kn_add, kn_mul, kn_sdm, kn_sub, kn_div, kn_nsdm, kn_lt, kn_eq, kn_pred, kn_m1, kn_m1', kn_a31, kn_shl, kn_shr, kn_bit, nB_0, nB_1, nB_t, nB_f, Nat.zero_add, Nat.add_zero, Nat.reduceAdd, Nat.reduceMul, Nat.reduceSub, Nat.reducePow]
                exact this
              · have ih' := ih K2 hK2.1
                rw [hs, hok, if_pos (show (true && true) = true from rfl)] at ih'
                simp (disch := omega) only [↓reduceIte, ↓kq_bi, ↓kq_let, ↓kq_rz0, ↓kq_rz1, ↓kq_rzB, ↓Option.bind_some, kq_dvn, kt_lt, kf_lt, kt_eq, kf_eq, decide_true, decide_false, eq_self, Bool.false_eq_true, Bool.true_eq_false, not_true_eq_false, not_false_eq_true, jU_eq, jU_ne, jU_U, jV_eq, jV_ne, jV_V, kn_lit, kn_add, kn_mul, kn_sdm, kn_sub, kn_div, kn_nsdm, kn_lt, kn_eq, kn_pred, kn_m1, kn_m1', kn_a31, kn_shl, kn_shr, kn_bit, nB_0, nB_1, nB_t, nB_f, Nat.zero_add, Nat.add_zero, Nat.reduceAdd, Nat.reduceMul, Nat.reduceSub, Nat.reducePow]
                refine jW_for0 (f := fun fuel k (_ : Unit) => F_Mod_keeps_l218 (F_Mod_keeps_l125 F) fuel 205 (nI g) (nI w) (nI n) (nI bits) (nB v) (nI (3 ^ n)) (nI p) (nI (s_sl p n)) (nI (s_pt k (p / 3 ^ (n - k)))) (nI k) (jz_I h K2)) n (fun _ _ => True) () trivial (by omega) (fun F3 k _ hk _ ih3 => ?_) (fun F3 _ _ => ?_)
                · have ed : K2 714 k = nI (p / 3 ^ (n - 1 - k) % 3) := by rw [hK2.2]; exact z2 k hk
                  have ih3' := ih3 () trivial
                  have et : s_pt (k + 1) (p / 3 ^ (n - (k + 1))) = 10 * s_pt k (p / 3 ^ (n - k)) + p / 3 ^ (n - 1 - k) % 3 := by
                    show 10 * s_pt k (p / 3 ^ (n - (k + 1)) / 3) + p / 3 ^ (n - (k + 1)) % 3 = _
                    rw [s_3d, show n - (k + 1) + 1 = n - k by omega, show n - (k + 1) = n - 1 - k by omega]
                  rw [et] at ih3'
                  show jW (F_Mod_keeps_c218 (F_Mod_keeps_l125 F) (F_Mod_keeps_l218 (F_Mod_keeps_l125 F) F3) 205 (nI g) (nI w) (nI n) (nI bits) (nB v) (nI (3 ^ n)) (nI p) (nI (s_sl p n)) (nI (s_pt k (p / 3 ^ (n - k)))) (nI k) (jz_I h K2)) P
                  unfold F_Mod_keeps_c218
                  generalize s_pt k (p / 3 ^ (n - k)) = pk at ih3' ⊢
                  generalize p / 3 ^ (n - 1 - k) % 3 = dk at ed ih3'
                  simp (disch := omega) only [ed, ↓dK_205 hL, ↓dG_205 hL, ↓dP_205 hL, ↓dZ_205 hL (x := nI 0) (Or.inl rfl), ↓dZ_205 hL (x := nI 1) (Or.inr rfl), ↓dZ_205 hL (Or.inl rfl), ↓dZ_205 hL (Or.inr rfl), ↓dZ_205 hL (nB_01 _), ↓dR_205_47 hL, dI_714 hL, dS_714 hL, ↓reduceIte, ↓kq_bi, ↓kq_let, ↓kq_rz0, ↓kq_rz1, ↓kq_rzB, ↓Option.bind_some, kq_dvn, kt_lt, kf_lt, kt_eq, kf_eq, decide_true, decide_false, eq_self, Bool.false_eq_true, Bool.true_eq_false, not_true_eq_false, not_false_eq_true, jU_eq, jU_ne, jU_U, jV_eq, jV_ne, jV_V, kn_lit, kn_add, kn_mul, kn_sdm, kn_sub, kn_div, kn_nsdm, kn_lt, kn_eq, kn_pred, kn_m1, kn_m1', kn_a31, kn_shl, kn_shr, kn_bit, nB_0, nB_1, nB_t, nB_f, Nat.zero_add, Nat.add_zero, Nat.reduceAdd, Nat.reduceMul, Nat.reduceSub, Nat.reducePow]
                  exact ih3'
                · have e0 : s_pt n (p / 3 ^ (n - n)) = s_pt n p := by rw [Nat.sub_self, Nat.pow_zero, Nat.div_one]
                  show jW (F_Mod_keeps_c218 (F_Mod_keeps_l125 F) (F_Mod_keeps_l218 (F_Mod_keeps_l125 F) F3) 205 (nI g) (nI w) (nI n) (nI bits) (nB v) (nI (3 ^ n)) (nI p) (nI (s_sl p n)) (nI (s_pt n (p / 3 ^ (n - n)))) (nI n) (jz_I h K2)) P
                  rw [e0]
                  unfold F_Mod_keeps_c218
                  simp (disch := omega) only [F_Mod_keeps_b253, ↓reduceIte, ↓kq_bi, ↓kq_let, ↓kq_rz0, ↓kq_rz1, ↓kq_rzB, ↓Option.bind_some, kq_dvn, kt_lt, kf_lt, kt_eq, kf_eq, decide_true, decide_false, eq_self, Bool.false_eq_true, Bool.true_eq_false, not_true_eq_false, not_false_eq_true, jU_eq, jU_ne, jU_U, jV_eq, jV_ne, jV_V, kn_lit, kn_add, kn_mul, kn_sdm, kn_sub, kn_div, kn_nsdm, kn_lt, kn_eq, kn_pred, kn_m1, kn_m1', kn_a31, kn_shl, kn_shr, kn_bit, nB_0, nB_1, nB_t, nB_f, Nat.zero_add, Nat.add_zero, Nat.reduceAdd, Nat.reduceMul, Nat.reduceSub, Nat.reducePow]
                  rw [hpsl] at ih'
                  exact ih'
            cases B with
            | none =>
              have go := go rfl
              have e1 : nP1 none = -nI 1 := rfl
              rw [e1] at go ⊢
              simp (disch := omega) only [kn_nltp, ↓reduceIte, ↓kq_bi, ↓kq_let, ↓kq_rz0, ↓kq_rz1, ↓kq_rzB, ↓Option.bind_some, kq_dvn, kt_lt, kf_lt, kt_eq, kf_eq, decide_true, decide_false, eq_self, Bool.false_eq_true, Bool.true_eq_false, not_true_eq_false, not_false_eq_true, jU_eq, jU_ne, jU_U, jV_eq, jV_ne, jV_V, kn_lit, kn_add, kn_mul, kn_sdm, kn_sub, kn_div, kn_nsdm, kn_lt, kn_eq, kn_pred, kn_m1, kn_m1', kn_a31, kn_shl, kn_shr, kn_bit, nB_0, nB_1, nB_t, nB_f, Nat.zero_add, Nat.add_zero, Nat.reduceAdd, Nat.reduceMul, Nat.reduceSub, Nat.reducePow]
              exact go
            | some y =>
              have y10 := (hB1 y rfl).1
              have e1 : nP1 (some y) = nI y.1 := rfl
              by_cases hlt : s_sl p n < y.1
              · have go := go (decide_eq_true (by rw [hpsl]; exact hlt))
                rw [e1] at go ⊢
                simp (disch := omega) only [kn_nltp, ↓reduceIte, ↓kq_bi, ↓kq_let, ↓kq_rz0, ↓kq_rz1, ↓kq_rzB, ↓Option.bind_some, kq_dvn, kt_lt, kf_lt, kt_eq, kf_eq, decide_true, decide_false, eq_self, Bool.false_eq_true, Bool.true_eq_false, not_true_eq_false, not_false_eq_true, jU_eq, jU_ne, jU_U, jV_eq, jV_ne, jV_V, kn_lit, kn_add, kn_mul, kn_sdm, kn_sub, kn_div, kn_nsdm, kn_lt, kn_eq, kn_pred, kn_m1, kn_m1', kn_a31, kn_shl, kn_shr, kn_bit, nB_0, nB_1, nB_t, nB_f, Nat.zero_add, Nat.add_zero, Nat.reduceAdd, Nat.reduceMul, Nat.reduceSub, Nat.reducePow]
                exact go
              · have no := ihno K z1 (by rw [show s_bok (some y) (s_ps n p) = false from decide_eq_false (by rw [hpsl]; exact hlt), Bool.and_false])
                rw [e1] at no ⊢
                simp (disch := omega) only [kn_nltp, ↓reduceIte, ↓kq_bi, ↓kq_let, ↓kq_rz0, ↓kq_rz1, ↓kq_rzB, ↓Option.bind_some, kq_dvn, kt_lt, kf_lt, kt_eq, kf_eq, decide_true, decide_false, eq_self, Bool.false_eq_true, Bool.true_eq_false, not_true_eq_false, not_false_eq_true, jU_eq, jU_ne, jU_U, jV_eq, jV_ne, jV_V, kn_lit, kn_add, kn_mul, kn_sdm, kn_sub, kn_div, kn_nsdm, kn_lt, kn_eq, kn_pred, kn_m1, kn_m1', kn_a31, kn_shl, kn_shr, kn_bit, nB_0, nB_1, nB_t, nB_f, Nat.zero_add, Nat.add_zero, Nat.reduceAdd, Nat.reduceMul, Nat.reduceSub, Nat.reducePow]
                exact no
        rw [Nat.pow_zero, Nat.div_one] at start
        exact start
      · have fin := hP K hV
        unfold s_keeps at fin
        rw [← s_kr_kps] at fin
        show jW (F_Mod_keeps_c125 (F_Mod_keeps_l125 F) 205 (nI g) (nI w) (nI n) (nI bits) (nB v) (nI (3 ^ n)) (nP1 (s_kr τ ω r g w bits n none 0 (3 ^ n))) (nP2 (s_kr τ ω r g w bits n none 0 (3 ^ n))) (nI (3 ^ n)) (jz_I h K)) P
        generalize s_kr τ ω r g w bits n none 0 (3 ^ n) = B at fin ⊢
        unfold F_Mod_keeps_c125
        cases v
        · rw [if_neg (show ¬ false = true by decide)] at fin
          simp (disch := omega) only [F_Mod_keeps_b271, ↓reduceIte, ↓kq_bi, ↓kq_let, ↓kq_rz0, ↓kq_rz1, ↓kq_rzB, ↓Option.bind_some, kq_dvn, kt_lt, kf_lt, kt_eq, kf_eq, decide_true, decide_false, eq_self, Bool.false_eq_true, Bool.true_eq_false, not_true_eq_false, not_false_eq_true, jU_eq, jU_ne, jU_U, jV_eq, jV_ne, jV_V, kn_lit, kn_add, kn_mul, kn_sdm, kn_sub, kn_div, kn_nsdm, kn_lt, kn_eq, kn_pred, kn_m1, kn_m1', kn_a31, kn_shl, kn_shr, kn_bit, nB_0, nB_1, nB_t, nB_f, Nat.zero_add, Nat.add_zero, Nat.reduceAdd, Nat.reduceMul, Nat.reduceSub, Nat.reducePow]
          exact jW_s fin
        · rw [if_pos (show true = true from rfl)] at fin
          simp (disch := omega) only [F_Mod_keeps_b271, ↓reduceIte, ↓kq_bi, ↓kq_let, ↓kq_rz0, ↓kq_rz1, ↓kq_rzB, ↓Option.bind_some, kq_dvn, kt_lt, kf_lt, kt_eq, kf_eq, decide_true, decide_false, eq_self, Bool.false_eq_true, Bool.true_eq_false, not_true_eq_false, not_false_eq_true, jU_eq, jU_ne, jU_U, jV_eq, jV_ne, jV_V, kn_lit, kn_add, kn_mul, kn_sdm, kn_sub, kn_div, kn_nsdm, kn_lt, kn_eq, kn_pred, kn_m1, kn_m1', kn_a31, kn_shl, kn_shr, kn_bit, nB_0, nB_1, nB_t, nB_f, Nat.zero_add, Nat.add_zero, Nat.reduceAdd, Nat.reduceMul, Nat.reduceSub, Nat.reducePow]
          exact jW_s fin
  unfold F_Mod_keeps
  cases v
  · simp (disch := omega) only [m_isGate hL hQ0.1.1 ho hg, m_isWood hL hQ0.1.1 ho hw, m_bad0 hL N0.2.2.2, m_in1, m_more, m_less, Nat.one_mul, show nB false = nI 0 from rfl, F_Mod_keeps_b27, ↓dK_205 hL, ↓dG_205 hL, ↓dP_205 hL, ↓dZ_205 hL (x := nI 0) (Or.inl rfl), ↓dZ_205 hL (x := nI 1) (Or.inr rfl), ↓dZ_205 hL (Or.inl rfl), ↓dZ_205 hL (Or.inr rfl), ↓dZ_205 hL (nB_01 _), ↓reduceIte, ↓kq_bi, ↓kq_let, ↓kq_rz0, ↓kq_rz1, ↓kq_rzB, ↓Option.bind_some, kq_dvn, kt_lt, kf_lt, kt_eq, kf_eq, decide_true, decide_false, eq_self, Bool.false_eq_true, Bool.true_eq_false, not_true_eq_false, not_false_eq_true, jU_eq, jU_ne, jU_U, jV_eq, jV_ne, jV_V, kn_lit, kn_add, kn_mul, kn_sdm, kn_sub, kn_div, kn_nsdm, kn_lt, kn_eq, kn_pred, kn_m1, kn_m1', kn_a31, kn_shl, kn_shr, kn_bit, nB_0, nB_1, nB_t, nB_f, Nat.zero_add, Nat.add_zero, Nat.reduceAdd, Nat.reduceMul, Nat.reduceSub, Nat.reducePow]
    exact key
  · simp (disch := omega) only [m_isGate hL hQ0.1.1 ho hg, m_isWood hL hQ0.1.1 ho hw, m_bad0 hL N0.2.2.2, m_in1, m_more, m_less, Nat.one_mul, show nB true = nI 1 from rfl, F_Mod_keeps_b27, ↓dK_205 hL, ↓dG_205 hL, ↓dP_205 hL, ↓dZ_205 hL (x := nI 0) (Or.inl rfl), ↓dZ_205 hL (x := nI 1) (Or.inr rfl), ↓dZ_205 hL (Or.inl rfl), ↓dZ_205 hL (Or.inr rfl), ↓dZ_205 hL (nB_01 _), ↓reduceIte, ↓kq_bi, ↓kq_let, ↓kq_rz0, ↓kq_rz1, ↓kq_rzB, ↓Option.bind_some, kq_dvn, kt_lt, kf_lt, kt_eq, kf_eq, decide_true, decide_false, eq_self, Bool.false_eq_true, Bool.true_eq_false, not_true_eq_false, not_false_eq_true, jU_eq, jU_ne, jU_U, jV_eq, jV_ne, jV_V, kn_lit, kn_add, kn_mul, kn_sdm, kn_sub, kn_div, kn_nsdm, kn_lt, kn_eq, kn_pred, kn_m1, kn_m1', kn_a31, kn_shl, kn_shr, kn_bit, nB_0, nB_1, nB_t, nB_f, Nat.zero_add, Nat.add_zero, Nat.reduceAdd, Nat.reduceMul, Nat.reduceSub, Nat.reducePow]
    exact key
end

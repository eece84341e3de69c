/-! PLAIN LEAN, 35: texts; the class reads -/
/-- a byte as the class holds it -/
def nS (v : Nat) : Int32 := if v < 128 then nI v else -nI (256 - v)
theorem nS_and0 : ∀ v, v < 256 → nS v &&& nI 255 = nI v := by decide +kernel
theorem nS_320 : ∀ v, v < 256 → (nS v = nI 32 ↔ v = 32) := by decide +kernel
theorem nS_480 : ∀ v, v < 256 → (nS v < nI 48 ↔ (v < 48 ∨ 128 ≤ v)) := by decide +kernel
theorem nS_570 : ∀ v, v < 256 → (nI 57 < nS v ↔ (57 < v ∧ v < 128)) := by decide +kernel
theorem nS_970 : ∀ v, v < 256 → (nS v < nI 97 ↔ (v < 97 ∨ 128 ≤ v)) := by decide +kernel
theorem nS_1220 : ∀ v, v < 256 → (nI 122 < nS v ↔ (122 < v ∧ v < 128)) := by decide +kernel
theorem nS_and {v : Nat} (h : v < 256) : nS v &&& nI 255 = nI v := nS_and0 v h
theorem nS_32 {v : Nat} (h : v < 256) : (nS v = nI 32) = (v = 32) := propext (nS_320 v h)
theorem nS_48 {v : Nat} (h : v < 256) : (nS v < nI 48) = (v < 48 ∨ 128 ≤ v) := propext (nS_480 v h)
theorem nS_57 {v : Nat} (h : v < 256) : (nI 57 < nS v) = (57 < v ∧ v < 128) := propext (nS_570 v h)
theorem nS_97 {v : Nat} (h : v < 256) : (nS v < nI 97) = (v < 97 ∨ 128 ≤ v) := propext (nS_970 v h)
theorem nS_122 {v : Nat} (h : v < 256) : (nI 122 < nS v) = (122 < v ∧ v < 128) := propext (nS_1220 v h)
theorem nS_lo {v : Nat} (h : v < 128) : nS v = nI v := if_pos h
/-- skip what is such -/
def s_sk (c : Nat → Bool) (tp : Nat → Nat) : Nat → Nat → Nat
  | 0, p => p
  | k + 1, p => if c (tp p) = true then s_sk c tp k (p + 1) else p
def s_skp (c : Nat → Bool) (tp : Nat → Nat) (n p : Nat) : Nat := s_sk c tp (n - p) p
theorem s_sk_ge {c : Nat → Bool} {tp : Nat → Nat} : ∀ k p, p ≤ s_sk c tp k p ∧ s_sk c tp k p ≤ p + k
  | 0, p => ⟨Nat.le_refl p, Nat.le_refl p⟩
  | k + 1, p => by
    have := s_sk_ge (c := c) (tp := tp) k (p + 1)
    show p ≤ (if c (tp p) = true then s_sk c tp k (p + 1) else p) ∧ (if c (tp p) = true then s_sk c tp k (p + 1) else p) ≤ p + (k + 1)
    split <;> omega
theorem s_sk_in {c : Nat → Bool} {tp : Nat → Nat} : ∀ k p j, p ≤ j → j < s_sk c tp k p → c (tp j) = true
  | 0, p, j, h1, h2 => by have h2 : j < p := h2
                          omega
  | k + 1, p, j, h1, h2 => by
    have h2 : j < (if c (tp p) = true then s_sk c tp k (p + 1) else p) := h2
    by_cases hc : c (tp p) = true
    · rw [if_pos hc] at h2
      by_cases hj : j = p
      · rw [hj]; exact hc
      · exact s_sk_in k (p + 1) j (by omega) h2
    · rw [if_neg hc] at h2; omega
theorem s_sk_end {c : Nat → Bool} {tp : Nat → Nat} : ∀ k p, s_sk c tp k p < p + k → c (tp (s_sk c tp k p)) = false
  | 0, p, h => by have h : p < p + 0 := h
                  omega
  | k + 1, p, h => by
    have h : (if c (tp p) = true then s_sk c tp k (p + 1) else p) < p + (k + 1) := h
    show c (tp (if c (tp p) = true then s_sk c tp k (p + 1) else p)) = false
    by_cases hc : c (tp p) = true
    · rw [if_pos hc] at h ⊢
      exact s_sk_end k (p + 1) (by omega)
    · rw [if_neg hc]
      simpa using hc
section
variable {c : Nat → Bool} {tp : Nat → Nat} {n p : Nat}
theorem s_skp_ge (hp : p ≤ n) : p ≤ s_skp c tp n p ∧ s_skp c tp n p ≤ n := by
  have := s_sk_ge (c := c) (tp := tp) (n - p) p
  unfold s_skp
  omega
theorem s_skp_in {j : Nat} (h1 : p ≤ j) (h2 : j < s_skp c tp n p) : c (tp j) = true := s_sk_in (n - p) p j h1 h2
theorem s_skp_end (hp : p ≤ n) (h : s_skp c tp n p < n) : c (tp (s_skp c tp n p)) = false := s_sk_end (n - p) p (by have : s_sk c tp (n - p) p < n := h; omega)
theorem s_skp_s (h : p < n) : s_skp c tp n p = if c (tp p) = true then s_skp c tp n (p + 1) else p := by
  unfold s_skp
  rw [show n - p = (n - (p + 1)) + 1 by omega]
  rfl
theorem s_skp_n : s_skp c tp n n = n := by unfold s_skp; rw [Nat.sub_self]; rfl
end
def c_bl (v : Nat) : Bool := decide (v = 32)
def c_dg (v : Nat) : Bool := decide (48 ≤ v ∧ v ≤ 57)
def c_sm (v : Nat) : Bool := decide (97 ≤ v ∧ v ≤ 122)
/-- where a reader is: place, fault (0 none), its place -/
abbrev JTs : Type := Nat × Nat × Nat
def nF (y : JTs) : Int32 := if y.2.1 = 0 then -nI 1 else nI y.2.2
def s_nx (tp : Nat → Nat) (n : Nat) (y : JTs) : JTs := if y.2.1 = 0 then (s_skp c_bl tp n y.1, y.2) else y
def s_nc (tp : Nat → Nat) (n : Nat) (y : JTs) : Option Nat := if y.2.1 = 0 ∧ s_skp c_bl tp n y.1 < n then some (tp (s_skp c_bl tp n y.1)) else none
def s_fa (k w : Nat) (y : JTs) : JTs := if y.2.1 = 0 then (y.1, k, w) else y
def s_tk (tp : Nat → Nat) (n : Nat) (ch : Nat) (y : JTs) : Bool := decide (s_nc tp n y = some ch)
def s_tks (tp : Nat → Nat) (n : Nat) (ch : Nat) (y : JTs) : JTs := if s_tk tp n ch y = true then ((s_nx tp n y).1 + 1, (s_nx tp n y).2) else s_nx tp n y
def s_nd (tp : Nat → Nat) (n : Nat) (ch : Nat) (y : JTs) : JTs := if s_tk tp n ch y = true then ((s_nx tp n y).1 + 1, (s_nx tp n y).2) else s_fa 1 (s_nx tp n y).1 (s_nx tp n y)
def jTy (n : Nat) (y : JTs) : Prop := y.1 ≤ n ∧ y.2.1 ≤ 3 ∧ y.2.2 ≤ n ∧ n ≤ 600
def jTX (J : Nat → Nat → Int32) (tp : Nat → Nat) (n : Nat) (y : JTs) : Prop := (J 65 2 = nI y.2.1 ∧ J 65 3 = nF y ∧ J 65 4 = nI n ∧ J 65 5 = nI y.1) ∧ jTy n y ∧ (∀ k, k < n → J 66 k = nS (tp k)) ∧ ∀ k, tp k < 256
/-- the reader alone has changed, but not how much the tape holds -/
def jT1 (J K : Nat → Nat → Int32) : Prop := K 65 1 = J 65 1 ∧ ∀ a, ¬ a = 65 → K a = J a
section
variable {t u l m b c : Nat} {h : LH} {I J K : Nat → Nat → Int32} {τ : JTn} {tp : Nat → Nat} {n : Nat} {y : JTs} {x : Int32}
theorem jT1_trans {L : Nat → Nat → Int32} (h1 : jT1 J K) (h2 : jT1 K L) : jT1 J L := ⟨h2.1.trans h1.1, fun a ha => (h2.2 a ha).trans (h1.2 a ha)⟩
theorem jTX_y (hT : jTX J tp n y) : jTy n y := hT.2.1
theorem s_nx_y (hy : jTy n y) : jTy n (s_nx tp n y) := by
  unfold s_nx
  split
  · exact ⟨(s_skp_ge hy.1).2, hy.2⟩
  · exact hy
theorem s_fa_y (hy : jTy n y) {k w : Nat} (hk : k ≤ 3) (hw : w ≤ n) : jTy n (s_fa k w y) := by
  unfold s_fa
  split
  · exact ⟨hy.1, hk, hw, hy.2.2.2⟩
  · exact hy
theorem c_next (hL : jLay t u l m b c h) (hT : jTX J tp n y) : ∃ K, F_Text_next 65 (jz_I h J) = some (nO (s_nc tp n y), jz_I h K) ∧ jTX K tp n (s_nx tp n y) ∧ K 65 6 = J 65 6 ∧ jT1 J K := by
  obtain ⟨⟨h2, h3, h4, h5⟩, ⟨y1, y2, y3, y4⟩, htp, h256⟩ := hT
  refine jE_i (fun P hP => ?_)
  unfold F_Text_next
  by_cases h0 : y.2.1 = 0
  · have ep : s_nx tp n y = (s_skp c_bl tp n y.1, y.2) := if_pos h0
    obtain ⟨g1, g2⟩ := s_skp_ge (c := c_bl) (tp := tp) y1
    rw [ep] at hP
    rw [h0] at h2
    simp (disch := omega) only [h2, ↓dR_64_0 hL, ↓dK_65 hL, ↓dG_65 hL, ↓dP_65 hL, ↓reduceIte, ↓kq_bi, ↓kq_let, ↓kq_rz0, ↓kq_rz1, ↓kq_rzB, ↓Option.bind_some, kq_dvn, kt_lt, kf_lt, kt_eq, kf_eq, decide_true, decide_false, eq_self, Bool.false_eq_true, Bool.true_eq_false, not_true_eq_false, not_false_eq_true, jU_eq, jU_ne, jU_U, jV_eq, jV_ne, jV_V, kn_lit, kn_add, kn_mul, kn_sdm, kn_sub, kn_div, kn_nsdm, kn_lt, kn_eq, kn_pred, kn_m1, kn_m1', kn_a31, kn_shl, kn_shr, kn_bit, nB_0, nB_1, nB_t, nB_f, Nat.zero_add, Nat.add_zero, Nat.reduceAdd, Nat.reduceMul, Nat.reduceSub, Nat.reducePow]
    refine (show jz_I h J = jz_I h (jU J 65 (jV (J 65) 5 (nI (y.1 + 0)))) from by rw [Nat.add_zero, ← h5, jV_id, jU_id]) ▸ jW_for0 (f := fun fuel k (_ : Unit) => F_Text_next_l9 fuel 65 (jz_I h (jU J 65 (jV (J 65) 5 (nI (y.1 + k)))))) (s_skp c_bl tp n y.1 - y.1) (fun _ _ => True) () trivial (by omega) (fun F k _ hk _ ih => ?_) (fun F _ _ => ?_)
    · have hc := s_skp_in (c := c_bl) (tp := tp) (n := n) (p := y.1) (j := y.1 + k) (by omega) (by omega)
      have hc : tp (y.1 + k) = 32 := of_decide_eq_true hc
      have e6 := htp (y.1 + k) (by omega)
      rw [hc] at e6
      have e6 : J 66 (y.1 + k) = nI 32 := e6
      have ih' := ih () trivial
      show jW (F_Text_next_c9 (F_Text_next_l9 F) 65 (jz_I h (jU J 65 (jV (J 65) 5 (nI (y.1 + k)))))) P
      unfold F_Text_next_c9
      simp (disch := omega) only [h4, e6, Nat.add_assoc, ↓dR_64_0 hL, ↓dK_65 hL, ↓dG_65 hL, ↓dP_65 hL, ↓dR_65_0 hL, dI_66 hL, dS_66 hL, ↓reduceIte, ↓kq_bi, ↓kq_let, ↓kq_rz0, ↓kq_rz1, ↓kq_rzB, ↓Option.bind_some, kq_dvn, kt_lt, kf_lt, kt_eq, kf_eq, decide_true, decide_false, eq_self, Bool.false_eq_true, Bool.true_eq_false, not_true_eq_false, not_false_eq_true, jU_eq, jU_ne, jU_U, jV_eq, jV_ne, jV_V, kn_lit, kn_add, kn_mul, kn_sdm, kn_sub, kn_div, kn_nsdm, kn_lt, kn_eq, kn_pred, kn_m1, kn_m1', kn_a31, kn_shl, kn_shr, kn_bit, nB_0, nB_1, nB_t, nB_f, Nat.zero_add, Nat.add_zero, Nat.reduceAdd, Nat.reduceMul, Nat.reduceSub, Nat.reducePow]
      exact ih'
    · have eN : y.1 + (s_skp c_bl tp n y.1 - y.1) = s_skp c_bl tp n y.1 := by omega
      show jW (F_Text_next_c9 (F_Text_next_l9 F) 65 (jz_I h (jU J 65 (jV (J 65) 5 (nI (y.1 + (s_skp c_bl tp n y.1 - y.1))))))) P
      rw [eN]
      have en := fun z => s_skp_end (c := c_bl) (tp := tp) y1 z
      have enc : s_nc tp n y = if s_skp c_bl tp n y.1 < n then some (tp (s_skp c_bl tp n y.1)) else none := by
        unfold s_nc
        by_cases z : s_skp c_bl tp n y.1 < n
        · rw [if_pos ⟨h0, z⟩, if_pos z]
        · rw [if_neg (fun q => z q.2), if_neg z]
      rw [enc] at hP
      have fin := hP (jU J 65 (jV (J 65) 5 (nI (s_skp c_bl tp n y.1)))) ⟨⟨⟨by rw [jU_eq, jV_ne (by omega), h2, h0], by rw [jU_eq, jV_ne (by omega)]; exact h3, by rw [jU_eq, jV_ne (by omega)]; exact h4, by rw [jU_eq, jV_eq]⟩, ⟨g2, y2, y3, y4⟩, fun k hk => by rw [jU_ne (by omega)]; exact htp k hk, h256⟩, by rw [jU_eq, jV_ne (by omega)], by rw [jU_eq, jV_ne (by omega)], fun a ha => jU_ne ha⟩
      generalize s_skp c_bl tp n y.1 = q at g1 g2 en fin
      unfold F_Text_next_c9
      by_cases hq : q < n
      · have hc : ¬ tp q = 32 := of_decide_eq_false (en hq)
        have e6 := htp q hq
        have h256 := h256 q
        have n32 : (nS (tp q) = nI 32) = False := by rw [nS_32 h256]; exact eq_false hc
        rw [if_pos hq] at fin
        simp (disch := omega) only [h4, e6, n32, F_Text_next_b47, F_Text_next_b75, nS_and h256, ↓dR_64_0 hL, ↓dK_65 hL, ↓dG_65 hL, ↓dP_65 hL, ↓dR_65_0 hL, dI_66 hL, dS_66 hL, ↓reduceIte, ↓kq_bi, ↓kq_let, ↓kq_rz0, ↓kq_rz1, ↓kq_rzB, ↓Option.bind_some, kq_dvn, kt_lt, kf_lt, kt_eq, kf_eq, decide_true, decide_false, eq_self, Bool.false_eq_true, Bool.true_eq_false, not_true_eq_false, not_false_eq_true, jU_eq, jU_ne, jU_U, jV_eq, jV_ne, jV_V, kn_lit, kn_add, kn_mul, kn_sdm, kn_sub, kn_div, kn_nsdm, kn_lt, kn_eq, kn_pred, kn_m1, kn_m1', kn_a31, kn_shl, kn_shr, kn_bit, nB_0, nB_1, nB_t, nB_f, Nat.zero_add, Nat.add_zero, Nat.reduceAdd, Nat.reduceMul, Nat.reduceSub, Nat.reducePow]
        exact jW_s fin
      · rw [if_neg hq] at fin
        simp (disch := omega) only [h4, F_Text_next_b47, F_Text_next_b75, ↓dR_64_0 hL, ↓dK_65 hL, ↓dG_65 hL, ↓dP_65 hL, ↓dR_65_0 hL, dI_66 hL, dS_66 hL, ↓reduceIte, ↓kq_bi, ↓kq_let, ↓kq_rz0, ↓kq_rz1, ↓kq_rzB, ↓Option.bind_some, kq_dvn, kt_lt, kf_lt, kt_eq, kf_eq, decide_true, decide_false, eq_self, Bool.false_eq_true, Bool.true_eq_false, not_true_eq_false, not_false_eq_true, jU_eq, jU_ne, jU_U, jV_eq, jV_ne, jV_V, kn_lit, kn_add, kn_mul, kn_sdm, kn_sub, kn_div, kn_nsdm, kn_lt, kn_eq, kn_pred, kn_m1, kn_m1', kn_a31, kn_shl, kn_shr, kn_bit, nB_0, nB_1, nB_t, nB_f, Nat.zero_add, Nat.add_zero, Nat.reduceAdd, Nat.reduceMul, Nat.reduceSub, Nat.reducePow]
        exact jW_s fin
  · have ep : s_nx tp n y = y := if_neg h0
    have enc : s_nc tp n y = none := if_neg (fun z => h0 z.1)
    rw [ep, enc] at hP
    simp (disch := omega) only [h2, ↓dR_64_0 hL, ↓dK_65 hL, ↓dG_65 hL, ↓dP_65 hL, ↓reduceIte, ↓kq_bi, ↓kq_let, ↓kq_rz0, ↓kq_rz1, ↓kq_rzB, ↓Option.bind_some, kq_dvn, kt_lt, kf_lt, kt_eq, kf_eq, decide_true, decide_false, eq_self, Bool.false_eq_true, Bool.true_eq_false, not_true_eq_false, not_false_eq_true, jU_eq, jU_ne, jU_U, jV_eq, jV_ne, jV_V, kn_lit, kn_add, kn_mul, kn_sdm, kn_sub, kn_div, kn_nsdm, kn_lt, kn_eq, kn_pred, kn_m1, kn_m1', kn_a31, kn_shl, kn_shr, kn_bit, nB_0, nB_1, nB_t, nB_f, Nat.zero_add, Nat.add_zero, Nat.reduceAdd, Nat.reduceMul, Nat.reduceSub, Nat.reducePow]
    exact jW_s (hP J ⟨⟨⟨h2, h3, h4, h5⟩, ⟨y1, y2, y3, y4⟩, htp, h256⟩, rfl, rfl, fun _ _ => rfl⟩)
theorem c_failAt (hL : jLay t u l m b c h) (hT : jTX J tp n y) {k w : Nat} (hk : 1 ≤ k) (hk3 : k ≤ 3) (hw : w ≤ n) : ∃ K, F_Text_failAt 65 (nI k) (nI w) (jz_I h J) = some (jz_I h K) ∧ jTX K tp n (s_fa k w y) ∧ K 65 6 = J 65 6 ∧ jT1 J K := by
  have hy := s_fa_y (k := k) (w := w) hT.2.1 hk3 hw
  obtain ⟨⟨h2, h3, h4, h5⟩, ⟨y1, y2, y3, y4⟩, htp, h256⟩ := hT
  refine jE_n (fun P hP => ?_)
  unfold F_Text_failAt
  by_cases h0 : y.2.1 = 0
  · have e : s_fa k w y = (y.1, k, w) := if_pos h0
    rw [e] at hP hy
    rw [h0] at h2
    have enF : nF (y.1, k, w) = nI w := if_neg (by show ¬ k = 0; omega)
    simp (disch := omega) only [h2, F_Text_failAt_b17, ↓dR_64_0 hL, ↓dK_65 hL, ↓dG_65 hL, ↓dP_65 hL, ↓reduceIte, ↓kq_bi, ↓kq_let, ↓kq_rz0, ↓kq_rz1, ↓kq_rzB, ↓Option.bind_some, kq_dvn, kt_lt, kf_lt, kt_eq, kf_eq, decide_true, decide_false, eq_self, Bool.false_eq_true, Bool.true_eq_false, not_true_eq_false, not_false_eq_true, jU_eq, jU_ne, jU_U, jV_eq, jV_ne, jV_V, kn_lit, kn_add, kn_mul, kn_sdm, kn_sub, kn_div, kn_nsdm, kn_lt, kn_eq, kn_pred, kn_m1, kn_m1', kn_a31, kn_shl, kn_shr, kn_bit, nB_0, nB_1, nB_t, nB_f, Nat.zero_add, Nat.add_zero, Nat.reduceAdd, Nat.reduceMul, Nat.reduceSub, Nat.reducePow]
    refine jW_s (hP _ ⟨⟨⟨?_, ?_, ?_, ?_⟩, hy, fun k hk => by rw [jU_ne (by omega)]; exact htp k hk, h256⟩, ?_, ?_, fun a ha => jU_ne ha⟩)
    · simp (disch := omega) only [jU_eq, jV_ne, jV_eq]
    · rw [enF]; simp (disch := omega) only [jU_eq, jV_ne, jV_eq]
    · simp (disch := omega) only [jU_eq, jV_ne, jV_eq]; exact h4
    · simp (disch := omega) only [jU_eq, jV_ne, jV_eq]; exact h5
    · simp (disch := omega) only [jU_eq, jV_ne, jV_eq]
    · simp (disch := omega) only [jU_eq, jV_ne, jV_eq]
  · have e : s_fa k w y = y := if_neg h0
    rw [e] at hP
    simp (disch := omega) only [h2, F_Text_failAt_b17, ↓dR_64_0 hL, ↓dK_65 hL, ↓dG_65 hL, ↓dP_65 hL, ↓reduceIte, ↓kq_bi, ↓kq_let, ↓kq_rz0, ↓kq_rz1, ↓kq_rzB, ↓Option.bind_some, kq_dvn, kt_lt, kf_lt, kt_eq, kf_eq, decide_true, decide_false, eq_self, Bool.false_eq_true, Bool.true_eq_false, not_true_eq_false, not_false_eq_true, jU_eq, jU_ne, jU_U, jV_eq, jV_ne, jV_V, kn_lit, kn_add, kn_mul, kn_sdm, kn_sub, kn_div, kn_nsdm, kn_lt, kn_eq, kn_pred, kn_m1, kn_m1', kn_a31, kn_shl, kn_shr, kn_bit, nB_0, nB_1, nB_t, nB_f, Nat.zero_add, Nat.add_zero, Nat.reduceAdd, Nat.reduceMul, Nat.reduceSub, Nat.reducePow]
    exact jW_s (hP J ⟨⟨⟨h2, h3, h4, h5⟩, ⟨y1, y2, y3, y4⟩, htp, h256⟩, rfl, rfl, fun _ _ => rfl⟩)
theorem c_fail (hL : jLay t u l m b c h) (hT : jTX J tp n y) {k w : Nat} (hk : 1 ≤ k) (hk3 : k ≤ 3) (hw : w ≤ n) (h6 : J 65 6 = nI w) : ∃ K, F_Text_fail 65 (nI k) (jz_I h J) = some (jz_I h K) ∧ jTX K tp n (s_fa k w y) ∧ K 65 6 = J 65 6 ∧ jT1 J K := by
  refine jE_n (fun P hP => ?_)
  unfold F_Text_fail
  simp (disch := omega) only [h6, ↓dR_64_0 hL, ↓dK_65 hL, ↓dG_65 hL, ↓dP_65 hL, ↓reduceIte, ↓kq_bi, ↓kq_let, ↓kq_rz0, ↓kq_rz1, ↓kq_rzB, ↓Option.bind_some, kq_dvn, kt_lt, kf_lt, kt_eq, kf_eq, decide_true, decide_false, eq_self, Bool.false_eq_true, Bool.true_eq_false, not_true_eq_false, not_false_eq_true, jU_eq, jU_ne, jU_U, jV_eq, jV_ne, jV_V, kn_lit, kn_add, kn_mul, kn_sdm, kn_sub, kn_div, kn_nsdm, kn_lt, kn_eq, kn_pred, kn_m1, kn_m1', kn_a31, kn_shl, kn_shr, kn_bit, nB_0, nB_1, nB_t, nB_f, Nat.zero_add, Nat.add_zero, Nat.reduceAdd, Nat.reduceMul, Nat.reduceSub, Nat.reducePow]
  exact jW_bn (c_failAt hL hT hk hk3 hw) (fun K hK => jW_s (hP K hK))
theorem c_failNext (hL : jLay t u l m b c h) (hT : jTX J tp n y) {k : Nat} (hk : 1 ≤ k) (hk3 : k ≤ 3) : ∃ K, F_Text_failNext 65 (nI k) (jz_I h J) = some (jz_I h K) ∧ jTX K tp n (s_fa k (s_nx tp n y).1 (s_nx tp n y)) ∧ K 65 6 = J 65 6 ∧ jT1 J K := by
  refine jE_n (fun P hP => ?_)
  unfold F_Text_failNext
  simp (disch := omega) only [↓dR_64_0 hL, ↓dK_65 hL, ↓dG_65 hL, ↓dP_65 hL, ↓reduceIte, ↓kq_bi, ↓kq_let, ↓kq_rz0, ↓kq_rz1, ↓kq_rzB, ↓Option.bind_some, kq_dvn, kt_lt, kf_lt, kt_eq, kf_eq, decide_true, decide_false, eq_self, Bool.false_eq_true, Bool.true_eq_false, not_true_eq_false, not_false_eq_true, jU_eq, jU_ne, jU_U, jV_eq, jV_ne, jV_V, kn_lit, kn_add, kn_mul, kn_sdm, kn_sub, kn_div, kn_nsdm, kn_lt, kn_eq, kn_pred, kn_m1, kn_m1', kn_a31, kn_shl, kn_shr, kn_bit, nB_0, nB_1, nB_t, nB_f, Nat.zero_add, Nat.add_zero, Nat.reduceAdd, Nat.reduceMul, Nat.reduceSub, Nat.reducePow]
  refine jW_bi (c_next hL hT) (fun K hK => ?_)
  have h5 := hK.1.1.2.2.2
  simp (disch := omega) only [h5, ↓dR_64_0 hL, ↓dK_65 hL, ↓dG_65 hL, ↓dP_65 hL, ↓reduceIte, ↓kq_bi, ↓kq_let, ↓kq_rz0, ↓kq_rz1, ↓kq_rzB, ↓Option.bind_some, kq_dvn, kt_lt, kf_lt, kt_eq, kf_eq, decide_true, decide_false, eq_self, Bool.false_eq_true, Bool.true_eq_false, not_true_eq_false, not_false_eq_true, jU_eq, jU_ne, jU_U, jV_eq, jV_ne, jV_V, kn_lit, kn_add, kn_mul, kn_sdm, kn_sub, kn_div, kn_nsdm, kn_lt, kn_eq, kn_pred, kn_m1, kn_m1', kn_a31, kn_shl, kn_shr, kn_bit, nB_0, nB_1, nB_t, nB_f, Nat.zero_add, Nat.add_zero, Nat.reduceAdd, Nat.reduceMul, Nat.reduceSub, Nat.reducePow]
  exact jW_bn (c_failAt hL hK.1 hk hk3 hK.1.2.1.1) (fun L hL' => jW_s (hP L ⟨hL'.1, hL'.2.1.trans hK.2.1, jT1_trans hK.2.2 hL'.2.2⟩))
theorem s_nc_ex {v : Nat} (hc : s_nc tp n y = some v) : y.2.1 = 0 ∧ s_nx tp n y = (s_skp c_bl tp n y.1, y.2) ∧ s_skp c_bl tp n y.1 < n ∧ tp (s_skp c_bl tp n y.1) = v := by
  unfold s_nc at hc
  split at hc
  · rename_i z
    cases hc
    exact ⟨z.1, if_pos z.1, z.2, rfl⟩
  · cases hc
theorem s_nc_lt (h256 : ∀ k, tp k < 256) {v : Nat} (hc : s_nc tp n y = some v) : v < 256 := by
  rw [← (s_nc_ex hc).2.2.2]; exact h256 _
theorem nO_ch (h256 : ∀ k, tp k < 256) {ch : Nat} (hch : ch < 256) : (nO (s_nc tp n y) = nI ch) = (s_tk tp n ch y = true) := by
  unfold s_tk
  rw [decide_eq_true_eq]
  cases hc : s_nc tp n y with
  | none => exact propext ⟨fun z => by rw [nO_none, kn_m1' (by omega)] at z; exact z.elim, fun z => by cases z⟩
  | some v =>
    have hv := s_nc_lt h256 hc
    rw [nO_some, kn_eq (by omega) (by omega)]
    exact propext ⟨fun z => by rw [z], fun z => by cases z; rfl⟩
theorem jTX_step (hT : jTX K tp n (s_nx tp n y)) (hlt : (s_nx tp n y).1 < n) : jTX (jU K 65 (jV (K 65) 5 (nI ((s_nx tp n y).1 + 1)))) tp n ((s_nx tp n y).1 + 1, (s_nx tp n y).2) := by
  obtain ⟨⟨h2, h3, h4, h5⟩, ⟨y1, y2, y3, y4⟩, htp, h256⟩ := hT
  exact ⟨⟨by rw [jU_eq, jV_ne (by omega)]; exact h2, by rw [jU_eq, jV_ne (by omega)]; exact h3, by rw [jU_eq, jV_ne (by omega)]; exact h4, by rw [jU_eq, jV_eq]⟩, ⟨by show _ + 1 ≤ n; omega, y2, y3, y4⟩, fun k hk => by rw [jU_ne (by omega)]; exact htp k hk, h256⟩
theorem c_take (hL : jLay t u l m b c h) (hT : jTX J tp n y) {ch : Nat} (hch : ch < 256) : ∃ K, F_Text_take 65 (nI ch) (jz_I h J) = some (nB (s_tk tp n ch y), jz_I h K) ∧ jTX K tp n (s_tks tp n ch y) ∧ jT1 J K := by
  have h256 := hT.2.2.2
  refine jE_i (fun P hP => ?_)
  unfold F_Text_take
  simp (disch := omega) only [↓dR_64_0 hL, ↓dK_65 hL, ↓dG_65 hL, ↓dP_65 hL, ↓reduceIte, ↓kq_bi, ↓kq_let, ↓kq_rz0, ↓kq_rz1, ↓kq_rzB, ↓Option.bind_some, kq_dvn, kt_lt, kf_lt, kt_eq, kf_eq, decide_true, decide_false, eq_self, Bool.false_eq_true, Bool.true_eq_false, not_true_eq_false, not_false_eq_true, jU_eq, jU_ne, jU_U, jV_eq, jV_ne, jV_V, kn_lit, kn_add, kn_mul, kn_sdm, kn_sub, kn_div, kn_nsdm, kn_lt, kn_eq, kn_pred, kn_m1, kn_m1', kn_a31, kn_shl, kn_shr, kn_bit, nB_0, nB_1, nB_t, nB_f, Nat.zero_add, Nat.add_zero, Nat.reduceAdd, Nat.reduceMul, Nat.reduceSub, Nat.reducePow]
  refine jW_bi (c_next hL hT) (fun K hK => ?_)
  have h5 := hK.1.1.2.2.2
  have ech := nO_ch (n := n) (y := y) h256 hch
  unfold s_tks at hP
  cases hc : s_tk tp n ch y
  · rw [hc, if_neg (show ¬ false = true by decide)] at hP
    rw [hc] at ech
    simp (disch := omega) only [ech, ↓dR_64_0 hL, ↓dK_65 hL, ↓dG_65 hL, ↓dP_65 hL, ↓reduceIte, ↓kq_bi, ↓kq_let, ↓kq_rz0, ↓kq_rz1, ↓kq_rzB, ↓Option.bind_some, kq_dvn, kt_lt, kf_lt, kt_eq, kf_eq, decide_true, decide_false, eq_self, Bool.false_eq_true, Bool.true_eq_false, not_true_eq_false, not_false_eq_true, jU_eq, jU_ne, jU_U, jV_eq, jV_ne, jV_V, kn_lit, kn_add, kn_mul, kn_sdm, kn_sub, kn_div, kn_nsdm, kn_lt, kn_eq, kn_pred, kn_m1, kn_m1', kn_a31, kn_shl, kn_shr, kn_bit, nB_0, nB_1, nB_t, nB_f, Nat.zero_add, Nat.add_zero, Nat.reduceAdd, Nat.reduceMul, Nat.reduceSub, Nat.reducePow]
    exact jW_s (hP K ⟨hK.1, hK.2.2⟩)
  · rw [hc, if_pos (show true = true from rfl)] at hP
    obtain ⟨e1, e2, e3, -⟩ := s_nc_ex (of_decide_eq_true hc)
    have hlt : (s_nx tp n y).1 < n := by rw [e2]; exact e3
    rw [hc] at ech
    simp (disch := omega) only [ech, h5, ↓dR_64_0 hL, ↓dK_65 hL, ↓dG_65 hL, ↓dP_65 hL, ↓reduceIte, ↓kq_bi, ↓kq_let, ↓kq_rz0, ↓kq_rz1, ↓kq_rzB, ↓Option.bind_some, kq_dvn, kt_lt, kf_lt, kt_eq, kf_eq, decide_true, decide_false, eq_self, Bool.false_eq_true, Bool.true_eq_false, not_true_eq_false, not_false_eq_true, jU_eq, jU_ne, jU_U, jV_eq, jV_ne, jV_V, kn_lit, kn_add, kn_mul, kn_sdm, kn_sub, kn_div, kn_nsdm, kn_lt, kn_eq, kn_pred, kn_m1, kn_m1', kn_a31, kn_shl, kn_shr, kn_bit, nB_0, nB_1, nB_t, nB_f, Nat.zero_add, Nat.add_zero, Nat.reduceAdd, Nat.reduceMul, Nat.reduceSub, Nat.reducePow]
    exact jW_s (hP _ ⟨jTX_step hK.1 hlt, jT1_trans hK.2.2 ⟨by rw [jU_eq, jV_ne (by omega)], fun a ha => jU_ne ha⟩⟩)
theorem c_need (hL : jLay t u l m b c h) (hT : jTX J tp n y) {ch : Nat} (hch : ch < 256) : ∃ K, F_Text_need 65 (nI ch) (jz_I h J) = some (jz_I h K) ∧ jTX K tp n (s_nd tp n ch y) ∧ jT1 J K := by
  have h256 := hT.2.2.2
  refine jE_n (fun P hP => ?_)
  unfold F_Text_need
  simp (disch := omega) only [↓dR_64_0 hL, ↓dK_65 hL, ↓dG_65 hL, ↓dP_65 hL, ↓reduceIte, ↓kq_bi, ↓kq_let, ↓kq_rz0, ↓kq_rz1, ↓kq_rzB, ↓Option.bind_some, kq_dvn, kt_lt, kf_lt, kt_eq, kf_eq, decide_true, decide_false, eq_self, Bool.false_eq_true, Bool.true_eq_false, not_true_eq_false, not_false_eq_true, jU_eq, jU_ne, jU_U, jV_eq, jV_ne, jV_V, kn_lit, kn_add, kn_mul, kn_sdm, kn_sub, kn_div, kn_nsdm, kn_lt, kn_eq, kn_pred, kn_m1, kn_m1', kn_a31, kn_shl, kn_shr, kn_bit, nB_0, nB_1, nB_t, nB_f, Nat.zero_add, Nat.add_zero, Nat.reduceAdd, Nat.reduceMul, Nat.reduceSub, Nat.reducePow]
  refine jW_bi (c_next hL hT) (fun K hK => ?_)
  have h5 := hK.1.1.2.2.2
  have ech := nO_ch (n := n) (y := y) h256 hch
  unfold s_nd at hP
  cases hc : s_tk tp n ch y
  · rw [hc, if_neg (show ¬ false = true by decide)] at hP
    rw [hc] at ech
    simp (disch := omega) only [ech, h5, ↓dR_64_0 hL, ↓dK_65 hL, ↓dG_65 hL, ↓dP_65 hL, ↓reduceIte, ↓kq_bi, ↓kq_let, ↓kq_rz0, ↓kq_rz1, ↓kq_rzB, ↓Option.bind_some, kq_dvn, kt_lt, kf_lt, kt_eq, kf_eq, decide_true, decide_false, eq_self, Bool.false_eq_true, Bool.true_eq_false, not_true_eq_false, not_false_eq_true, jU_eq, jU_ne, jU_U, jV_eq, jV_ne, jV_V, kn_lit, kn_add, kn_mul, kn_sdm, kn_sub, kn_div, kn_nsdm, kn_lt, kn_eq, kn_pred, kn_m1, kn_m1', kn_a31, kn_shl, kn_shr, kn_bit, nB_0, nB_1, nB_t, nB_f, Nat.zero_add, Nat.add_zero, Nat.reduceAdd, Nat.reduceMul, Nat.reduceSub, Nat.reducePow]
    refine jW_bn (c_failAt hL hK.1 (show 1 ≤ 1 by omega) (by omega) hK.1.2.1.1) (fun L hL' => ?_)
    simp (disch := omega) only [F_Text_need_b30, ↓reduceIte, ↓kq_bi, ↓kq_let, ↓kq_rz0, ↓kq_rz1, ↓kq_rzB, ↓Option.bind_some, kq_dvn, kt_lt, kf_lt, kt_eq, kf_eq, decide_true, decide_false, eq_self, Bool.false_eq_true, Bool.true_eq_false, not_true_eq_false, not_false_eq_true, jU_eq, jU_ne, jU_U, jV_eq, jV_ne, jV_V, kn_lit, kn_add, kn_mul, kn_sdm, kn_sub, kn_div, kn_nsdm, kn_lt, kn_eq, kn_pred, kn_m1, kn_m1', kn_a31, kn_shl, kn_shr, kn_bit, nB_0, nB_1, nB_t, nB_f, Nat.zero_add, Nat.add_zero, Nat.reduceAdd, Nat.reduceMul, Nat.reduceSub, Nat.reducePow]
    exact jW_s (hP L ⟨hL'.1, jT1_trans hK.2.2 hL'.2.2⟩)
  · rw [hc, if_pos (show true = true from rfl)] at hP
    obtain ⟨e1, e2, e3, -⟩ := s_nc_ex (of_decide_eq_true hc)
    have hlt : (s_nx tp n y).1 < n := by rw [e2]; exact e3
    rw [hc] at ech
    simp (disch := omega) only [ech, h5, F_Text_need_b30, ↓dR_64_0 hL, ↓dK_65 hL, ↓dG_65 hL, ↓dP_65 hL, ↓reduceIte, ↓kq_bi, ↓kq_let, ↓kq_rz0, ↓kq_rz1, ↓kq_rzB, ↓Option.bind_some, kq_dvn, kt_lt, kf_lt, kt_eq, kf_eq, decide_true, decide_false, eq_self, Bool.false_eq_true, Bool.true_eq_false, not_true_eq_false, not_false_eq_true, jU_eq, jU_ne, jU_U, jV_eq, jV_ne, jV_V, kn_lit, kn_add, kn_mul, kn_sdm, kn_sub, kn_div, kn_nsdm, kn_lt, kn_eq, kn_pred, kn_m1, kn_m1', kn_a31, kn_shl, kn_shr, kn_bit, nB_0, nB_1, nB_t, nB_f, Nat.zero_add, Nat.add_zero, Nat.reduceAdd, Nat.reduceMul, Nat.reduceSub, Nat.reducePow]
    exact jW_s (hP _ ⟨jTX_step hK.1 hlt, jT1_trans hK.2.2 ⟨by rw [jU_eq, jV_ne (by omega)], fun a ha => jU_ne ha⟩⟩)
end

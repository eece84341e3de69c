/-! PLAIN LEAN, 27: guard of the class -/
/-- what the thief has, and 2 -/
def nQ (v : Nat) : Int32 := nI v - nI 2
theorem nQ_lt0 : ∀ a, a < 6 → ∀ b, b < 6 → (nQ a < nQ b ↔ a < b) := by decide
theorem nQ_eq0 : ∀ a, a < 6 → ∀ b, b < 6 → (nQ a = nQ b ↔ a = b) := by decide
theorem nQ_lt {a b : Nat} (ha : a < 6) (hb : b < 6) : (nQ a < nQ b) = (a < b) := propext (nQ_lt0 a ha b hb)
theorem nQ_eq {a b : Nat} (ha : a < 6) (hb : b < 6) : (nQ a = nQ b) = (a = b) := propext (nQ_eq0 a ha b hb)
theorem nQ_0 : -nI 2 = nQ 0 := by decide
theorem nQ_2 : nI 0 = nQ 2 := by decide
theorem nQ_5 : nI 3 = nQ 5 := by decide
def s_py (G : Nat) (op : Nat → Bool) (c k : Nat) : Nat := if c % G = k then 0 else if op c = true then 5 else 2
def s_mst (G : Nat) (op : Nat → Bool) (k : Nat) : Nat → Nat
  | 0 => 0
  | n + 1 => if s_mst G op k n < s_py G op n k then s_py G op n k else s_mst G op k n
def s_lst (G : Nat) (op : Nat → Bool) (c : Nat) : Nat → Nat
  | 0 => 5
  | n + 1 => if s_py G op c n < s_lst G op c n then s_py G op c n else s_lst G op c n
def s_rs (G C : Nat) (op : Nat → Bool) (c k : Nat) : Bool := decide (s_py G op c k = s_lst G op c G) && decide (s_py G op c k = s_mst G op k C)
abbrev JGd : Type := Nat × Option Nat × Nat
def s_gdu (G C : Nat) (op : Nat → Bool) (c k : Nat) (s : JGd) : JGd := if s_rs G C op c k = true then (s.1 + 1, if s.1 = 0 then (some (100 * (c / G) + 10 * (c % G) + k), s_py G op c k) else s.2) else s
def s_gdi (G C : Nat) (op : Nat → Bool) (c : Nat) (s : JGd) : Nat → JGd
  | 0 => s
  | k + 1 => s_gdu G C op c k (s_gdi G C op c s k)
def s_gdo (G C : Nat) (op : Nat → Bool) : Nat → JGd
  | 0 => (0, none, 2)
  | c + 1 => s_gdi G C op c (s_gdo G C op c) G
def s_opn (τ : JTn) (ω : JLw) (r : JRw) (c : Nat) : Bool := !(s_sh τ ω false (s_hrs τ ω r (c / τ 0 0)) (c % τ 0 0))
def s_grd (τ : JTn) (ω : JLw) (r : JRw) (n : Nat) : JGd := s_gdo (τ 0 0) (τ 0 0 * n) (s_opn τ ω r) (τ 0 0 * n)
def s_guard (τ : JTn) (ω : JLw) (r : JRw) (n w : Nat) : Int32 := if w = 0 then nI (s_grd τ ω r n).1 else if w = 1 then nO (s_grd τ ω r n).2.1 else nQ (s_grd τ ω r n).2.2
def jSg (l : Nat) (I J : Nat → Nat → Int32) : Prop := ∀ a, ¬ (90 ≤ a ∧ a < 95) → ¬ a = l + 2 → ¬ (102 ≤ a ∧ a ≤ 104) → J a = I a
section
variable {t u l m b c : Nat} {h : LH} {I J K : Nat → Nat → Int32} {τ : JTn} {r q : JRw} {σ ρ i : Nat} {Q : Type} {x : Int32} {d : Bool} {ω : JLw} {f : Nat → Int32} {G C : Nat} {op : Nat → Bool}
theorem s_py_lt {c k : Nat} : s_py G op c k < 6 := by
  unfold s_py
  split
  · omega
  · split <;> omega
theorem s_mst_lt {k : Nat} : ∀ n, s_mst G op k n < 6
  | 0 => by show 0 < 6; omega
  | n + 1 => by
    have := s_mst_lt (k := k) n
    have := s_py_lt (G := G) (op := op) (c := n) (k := k)
    show (if _ then _ else _) < 6
    split <;> omega
theorem s_lst_lt {c : Nat} : ∀ n, s_lst G op c n < 6
  | 0 => by show 5 < 6; omega
  | n + 1 => by
    have := s_lst_lt (c := c) n
    have := s_py_lt (G := G) (op := op) (c := c) (k := n)
    show (if _ then _ else _) < 6
    split <;> omega
theorem s_gdi_le {c : Nat} {s : JGd} : ∀ n, (s_gdi G C op c s n).1 ≤ s.1 + n
  | 0 => Nat.le_refl _
  | n + 1 => by
    have := s_gdi_le (c := c) (s := s) n
    show (s_gdu G C op c n (s_gdi G C op c s n)).1 ≤ s.1 + (n + 1)
    unfold s_gdu
    split
    · show (s_gdi G C op c s n).1 + 1 ≤ _; omega
    · omega
theorem s_gdo_le : ∀ n, (s_gdo G C op n).1 ≤ n * G
  | 0 => by show 0 ≤ _; omega
  | n + 1 => by
    have h1 := s_gdo_le n
    have h2 := s_gdi_le (G := G) (C := C) (op := op) (c := n) (s := s_gdo G C op n) G
    show (s_gdi G C op n (s_gdo G C op n) G).1 ≤ (n + 1) * G
    rw [Nat.succ_mul]
    omega
theorem jSg_trans (h1 : jSg l I J) (h2 : jSg l J K) : jSg l I K := fun a x y z => (h2 a x y z).trans (h1 a x y z)
theorem jSg_Sc (h1 : jSg l I J) (h2 : jSc l 90 J K) : jSg l I K := fun a x y z => (h2 a (by omega) y).trans (h1 a x y z)
theorem jQC_Sg (hL : jLay t u l m b c h) (hS : jSg l I J) (hQ : jQC I t l τ ω r) : jQC J t l τ ω r := by
  have ht := jLay_t hL
  have hl := jLay_l hL
  refine ⟨⟨jCT_congr (fun i hi => hS _ (by omega) (by omega) (by omega)) hQ.1.1, hQ.1.2.1, ⟨?_, fun k hk => ?_⟩, hQ.1.2.2.2⟩, jCS_congr (fun a h1 h2 => hS a (by omega) (by omega) (by omega)) hQ.2.1, hQ.2.2⟩
  · rw [hS l (by omega) (by omega) (by omega)]; exact hQ.1.2.2.1.1
  · rw [hS (l + 1) (by omega) (by omega) (by omega)]; exact hQ.1.2.2.1.2 k hk
theorem c_thiefHas (hL : jLay t u l m b c h) (hG : 0 < G) (hG9 : G ≤ 9) (h3 : I 102 3 = nI G) {c k : Nat} (hc : c < 216) (hk : k < 9) (ho : I 103 c = nB (op c)) : F_Watch_thiefHas 102 (nI c) (nI k) (jz_I h I) = some (nQ (s_py G op c k), jz_I h I) := by
  have hm := Nat.mod_lt c hG
  unfold F_Watch_thiefHas s_py
  by_cases h1 : c % G = k
  · rw [if_pos h1]
    have e1 : nI (c % G) = nI k := by rw [h1]
    simp (disch := omega) only [h3, e1, nQ_0, ↓dR_64_5 hL, ↓dK_102 hL, ↓dG_102 hL, ↓dP_102 hL, ↓reduceIte, ↓kq_bi, ↓kq_let, ↓kq_rz0, ↓kq_rz1, ↓kq_rzB, ↓Option.bind_some, kq_dvn, kt_lt, kf_lt, kt_eq, kf_eq, decide_true, decide_false, eq_self, Bool.false_eq_true, Bool.true_eq_false, not_true_eq_false, not_false_eq_true, jU_eq, jU_ne, jU_U, jV_eq, jV_ne, jV_V, kn_lit, kn_add, kn_mul, kn_sdm, kn_sub, kn_div, kn_nsdm, kn_lt, kn_eq, kn_pred, kn_m1, kn_m1', kn_a31, kn_shl, kn_shr, kn_bit, nB_0, nB_1, nB_t, nB_f, Nat.zero_add, Nat.add_zero, Nat.reduceAdd, Nat.reduceMul, Nat.reduceSub, Nat.reducePow]
  · rw [if_neg h1]
    cases hb : op c
    · rw [hb] at ho
      simp (disch := omega) only [h3, ho, F_Watch_thiefHas_b20, F_Watch_thiefHas_b34, ↓dR_64_5 hL, ↓dK_102 hL, ↓dG_102 hL, ↓dP_102 hL, ↓dR_102_1 hL, dI_103 hL, dS_103 hL, ↓reduceIte, ↓kq_bi, ↓kq_let, ↓kq_rz0, ↓kq_rz1, ↓kq_rzB, ↓Option.bind_some, kq_dvn, kt_lt, kf_lt, kt_eq, kf_eq, decide_true, decide_false, eq_self, Bool.false_eq_true, Bool.true_eq_false, not_true_eq_false, not_false_eq_true, jU_eq, jU_ne, jU_U, jV_eq, jV_ne, jV_V, kn_lit, kn_add, kn_mul, kn_sdm, kn_sub, kn_div, kn_nsdm, kn_lt, kn_eq, kn_pred, kn_m1, kn_m1', kn_a31, kn_shl, kn_shr, kn_bit, nB_0, nB_1, nB_t, nB_f, Nat.zero_add, Nat.add_zero, Nat.reduceAdd, Nat.reduceMul, Nat.reduceSub, Nat.reducePow]
      rw [nQ_2]
    · rw [hb] at ho
      simp (disch := omega) only [h3, ho, F_Watch_thiefHas_b20, F_Watch_thiefHas_b34, ↓dR_64_5 hL, ↓dK_102 hL, ↓dG_102 hL, ↓dP_102 hL, ↓dR_102_1 hL, dI_103 hL, dS_103 hL, ↓reduceIte, ↓kq_bi, ↓kq_let, ↓kq_rz0, ↓kq_rz1, ↓kq_rzB, ↓Option.bind_some, kq_dvn, kt_lt, kf_lt, kt_eq, kf_eq, decide_true, decide_false, eq_self, Bool.false_eq_true, Bool.true_eq_false, not_true_eq_false, not_false_eq_true, jU_eq, jU_ne, jU_U, jV_eq, jV_ne, jV_V, kn_lit, kn_add, kn_mul, kn_sdm, kn_sub, kn_div, kn_nsdm, kn_lt, kn_eq, kn_pred, kn_m1, kn_m1', kn_a31, kn_shl, kn_shr, kn_bit, nB_0, nB_1, nB_t, nB_f, Nat.zero_add, Nat.add_zero, Nat.reduceAdd, Nat.reduceMul, Nat.reduceSub, Nat.reducePow]
      rw [nQ_5]
theorem c_most (hL : jLay t u l m b c h) (hG : 0 < G) (hG9 : G ≤ 9) (h3 : I 102 3 = nI G) (hC : C ≤ 216) (h4 : I 102 4 = nI C) (ho : ∀ c, c < C → I 103 c = nB (op c)) {k : Nat} (hk : k < 9) : F_Watch_mostOfThief 102 (nI k) (jz_I h I) = some (nQ (s_mst G op k C), jz_I h I) := by
  unfold F_Watch_mostOfThief
  refine jz_forI (fun fuel c s => F_Watch_mostOfThief_l5 fuel 102 (nI k) (nQ s) (nI c) (jz_I h I)) C (fun c => s_mst G op k c) _ (s0 := 0) rfl (fun n c hc => ?_) (fun n => ?_) jF (by show _ < 1000; omega)
  · have p1 := s_py_lt (G := G) (op := op) (c := c) (k := k)
    have p2 := s_mst_lt (G := G) (op := op) (k := k) c
    show F_Watch_mostOfThief_c5 (F_Watch_mostOfThief_l5 n) 102 (nI k) (nQ (s_mst G op k c)) (nI c) (jz_I h I) = F_Watch_mostOfThief_l5 n 102 (nI k) (nQ (if s_mst G op k c < s_py G op c k then s_py G op c k else s_mst G op k c)) (nI (c + 1)) (jz_I h I)
    unfold F_Watch_mostOfThief_c5
    by_cases hcc : s_mst G op k c < s_py G op c k
    · rw [if_pos hcc]
      simp (disch := omega) only [h4, c_thiefHas hL hG hG9 h3 (show c < 216 by omega) hk (ho c hc), nQ_lt, ↓dR_64_5 hL, ↓dK_102 hL, ↓dG_102 hL, ↓dP_102 hL, ↓reduceIte, ↓kq_bi, ↓kq_let, ↓kq_rz0, ↓kq_rz1, ↓kq_rzB, ↓Option.bind_some, kq_dvn, kt_lt, kf_lt, kt_eq, kf_eq, decide_true, decide_false, eq_self, Bool.false_eq_true, Bool.true_eq_false, not_true_eq_false, not_false_eq_true, jU_eq, jU_ne, jU_U, jV_eq, jV_ne, jV_V, kn_lit, kn_add, kn_mul, kn_sdm, kn_sub, kn_div, kn_nsdm, kn_lt, kn_eq, kn_pred, kn_m1, kn_m1', kn_a31, kn_shl, kn_shr, kn_bit, nB_0, nB_1, nB_t, nB_f, Nat.zero_add, Nat.add_zero, Nat.reduceAdd, Nat.reduceMul, Nat.reduceSub, Nat.reducePow]
    · rw [if_neg hcc]
      simp (disch := omega) only [h4, c_thiefHas hL hG hG9 h3 (show c < 216 by omega) hk (ho c hc), nQ_lt, ↓dR_64_5 hL, ↓dK_102 hL, ↓dG_102 hL, ↓dP_102 hL, ↓reduceIte, ↓kq_bi, ↓kq_let, ↓kq_rz0, ↓kq_rz1, ↓kq_rzB, ↓Option.bind_some, kq_dvn, kt_lt, kf_lt, kt_eq, kf_eq, decide_true, decide_false, eq_self, Bool.false_eq_true, Bool.true_eq_false, not_true_eq_false, not_false_eq_true, jU_eq, jU_ne, jU_U, jV_eq, jV_ne, jV_V, kn_lit, kn_add, kn_mul, kn_sdm, kn_sub, kn_div, kn_nsdm, kn_lt, kn_eq, kn_pred, kn_m1, kn_m1', kn_a31, kn_shl, kn_shr, kn_bit, nB_0, nB_1, nB_t, nB_f, Nat.zero_add, Nat.add_zero, Nat.reduceAdd, Nat.reduceMul, Nat.reduceSub, Nat.reducePow]
  · show F_Watch_mostOfThief_c5 (F_Watch_mostOfThief_l5 n) 102 (nI k) (nQ (s_mst G op k C)) (nI C) (jz_I h I) = _
    unfold F_Watch_mostOfThief_c5
    simp (disch := omega) only [h4, ↓dR_64_5 hL, ↓dK_102 hL, ↓dG_102 hL, ↓dP_102 hL, ↓reduceIte, ↓kq_bi, ↓kq_let, ↓kq_rz0, ↓kq_rz1, ↓kq_rzB, ↓Option.bind_some, kq_dvn, kt_lt, kf_lt, kt_eq, kf_eq, decide_true, decide_false, eq_self, Bool.false_eq_true, Bool.true_eq_false, not_true_eq_false, not_false_eq_true, jU_eq, jU_ne, jU_U, jV_eq, jV_ne, jV_V, kn_lit, kn_add, kn_mul, kn_sdm, kn_sub, kn_div, kn_nsdm, kn_lt, kn_eq, kn_pred, kn_m1, kn_m1', kn_a31, kn_shl, kn_shr, kn_bit, nB_0, nB_1, nB_t, nB_f, Nat.zero_add, Nat.add_zero, Nat.reduceAdd, Nat.reduceMul, Nat.reduceSub, Nat.reducePow]
theorem c_least (hL : jLay t u l m b c h) (hG : 0 < G) (hG9 : G ≤ 9) (h3 : I 102 3 = nI G) {c : Nat} (hc : c < 216) (ho : I 103 c = nB (op c)) : F_Watch_leastOfThief 102 (nI c) (jz_I h I) = some (nQ (s_lst G op c G), jz_I h I) := by
  unfold F_Watch_leastOfThief
  refine jz_forI (fun fuel k s => F_Watch_leastOfThief_l4 fuel 102 (nI c) (nQ s) (nI k) (jz_I h I)) G (fun k => s_lst G op c k) _ (s0 := 5) rfl (fun n k hk => ?_) (fun n => ?_) jF (by show _ < 1000; omega)
  · have p1 := s_py_lt (G := G) (op := op) (c := c) (k := k)
    have p2 := s_lst_lt (G := G) (op := op) (c := c) k
    show F_Watch_leastOfThief_c4 (F_Watch_leastOfThief_l4 n) 102 (nI c) (nQ (s_lst G op c k)) (nI k) (jz_I h I) = F_Watch_leastOfThief_l4 n 102 (nI c) (nQ (if s_py G op c k < s_lst G op c k then s_py G op c k else s_lst G op c k)) (nI (k + 1)) (jz_I h I)
    unfold F_Watch_leastOfThief_c4
    by_cases hcc : s_py G op c k < s_lst G op c k
    · rw [if_pos hcc]
      simp (disch := omega) only [h3, c_thiefHas hL hG hG9 h3 hc (show k < 9 by omega) ho, nQ_lt, ↓dR_64_5 hL, ↓dK_102 hL, ↓dG_102 hL, ↓dP_102 hL, ↓reduceIte, ↓kq_bi, ↓kq_let, ↓kq_rz0, ↓kq_rz1, ↓kq_rzB, ↓Option.bind_some, kq_dvn, kt_lt, kf_lt, kt_eq, kf_eq, decide_true, decide_false, eq_self, Bool.false_eq_true, Bool.true_eq_false, not_true_eq_false, not_false_eq_true, jU_eq, jU_ne, jU_U, jV_eq, jV_ne, jV_V, kn_lit, kn_add, kn_mul, kn_sdm, kn_sub, kn_div, kn_nsdm, kn_lt, kn_eq, kn_pred, kn_m1, kn_m1', kn_a31, kn_shl, kn_shr, kn_bit, nB_0, nB_1, nB_t, nB_f, Nat.zero_add, Nat.add_zero, Nat.reduceAdd, Nat.reduceMul, Nat.reduceSub, Nat.reducePow]
    · rw [if_neg hcc]
      simp (disch := omega) only [h3, c_thiefHas hL hG hG9 h3 hc (show k < 9 by omega) ho, nQ_lt, ↓dR_64_5 hL, ↓dK_102 hL, ↓dG_102 hL, ↓dP_102 hL, ↓reduceIte, ↓kq_bi, ↓kq_let, ↓kq_rz0, ↓kq_rz1, ↓kq_rzB, ↓Option.bind_some, kq_dvn, kt_lt, kf_lt, kt_eq, kf_eq, decide_true, decide_false, eq_self, Bool.false_eq_true, Bool.true_eq_false, not_true_eq_false, not_false_eq_true, jU_eq, jU_ne, jU_U, jV_eq, jV_ne, jV_V, kn_lit, kn_add, kn_mul, kn_sdm, kn_sub, kn_div, kn_nsdm, kn_lt, kn_eq, kn_pred, kn_m1, kn_m1', kn_a31, kn_shl, kn_shr, kn_bit, nB_0, nB_1, nB_t, nB_f, Nat.zero_add, Nat.add_zero, Nat.reduceAdd, Nat.reduceMul, Nat.reduceSub, Nat.reducePow]
  · show F_Watch_leastOfThief_c4 (F_Watch_leastOfThief_l4 n) 102 (nI c) (nQ (s_lst G op c G)) (nI G) (jz_I h I) = _
    unfold F_Watch_leastOfThief_c4
    simp (disch := omega) only [h3, ↓dR_64_5 hL, ↓dK_102 hL, ↓dG_102 hL, ↓dP_102 hL, ↓reduceIte, ↓kq_bi, ↓kq_let, ↓kq_rz0, ↓kq_rz1, ↓kq_rzB, ↓Option.bind_some, kq_dvn, kt_lt, kf_lt, kt_eq, kf_eq, decide_true, decide_false, eq_self, Bool.false_eq_true, Bool.true_eq_false, not_true_eq_false, not_false_eq_true, jU_eq, jU_ne, jU_U, jV_eq, jV_ne, jV_V, kn_lit, kn_add, kn_mul, kn_sdm, kn_sub, kn_div, kn_nsdm, kn_lt, kn_eq, kn_pred, kn_m1, kn_m1', kn_a31, kn_shl, kn_shr, kn_bit, nB_0, nB_1, nB_t, nB_f, Nat.zero_add, Nat.add_zero, Nat.reduceAdd, Nat.reduceMul, Nat.reduceSub, Nat.reducePow]
/-- the watch holds how far the game was searched -/
def jWt (I : Nat → Nat → Int32) (s : JGd) : Prop := I 102 5 = nI s.1 ∧ I 102 6 = nO s.2.1 ∧ I 102 7 = nQ s.2.2
theorem c_findRests (hL : jLay t u l m b c h) (hG : 0 < G) (hG9 : G ≤ 9) (h3 : I 102 3 = nI G) (hC : C ≤ 216) {c : Nat} (hc : c < C) (ho : I 103 c = nB (op c)) (h104 : ∀ k, k < G → I 104 k = nQ (s_mst G op k C)) {s : JGd} (hW : jWt I s) (hs : s.1 ≤ 2000) : ∃ J, F_Watch_findRests 102 (nI c) (nQ (s_lst G op c G)) (jz_I h I) = some (jz_I h J) ∧ jWt J (s_gdi G C op c s G) ∧ (∀ k, k < 5 → J 102 k = I 102 k) ∧ ∀ a, ¬ a = 102 → J a = I a := by
  refine jE_n (fun P hP => ?_)
  unfold F_Watch_findRests
  refine jW_for0 (f := fun fuel k (J : Nat → Nat → Int32) => F_Watch_findRests_l2 fuel 102 (nI c) (nQ (s_lst G op c G)) (nI k) (jz_I h J)) G (fun k J => jWt J (s_gdi G C op c s k) ∧ (∀ k, k < 5 → J 102 k = I 102 k) ∧ ∀ a, ¬ a = 102 → J a = I a) I ⟨hW, fun _ _ => rfl, fun _ _ => rfl⟩ (by omega) (fun n k J hk hV ih => ?_) (fun n J hV => ?_)
  · obtain ⟨⟨w5, w6, w7⟩, v2, v3⟩ := hV
    have p1 := s_py_lt (G := G) (op := op) (c := c) (k := k)
    have p2 := s_lst_lt (G := G) (op := op) (c := c) G
    have p3 := s_mst_lt (G := G) (op := op) (k := k) C
    have hle := s_gdi_le (G := G) (C := C) (op := op) (c := c) (s := s) k
    have j3 : J 102 3 = nI G := by rw [v2 3 (by omega)]; exact h3
    have jo : J 103 c = nB (op c) := by rw [v3 103 (by omega)]; exact ho
    have j4 : J 104 k = nQ (s_mst G op k C) := by rw [v3 104 (by omega)]; exact h104 k hk
    have hcG : c / G ≤ c := Nat.div_le_self c G
    have es : s_gdi G C op c s (k + 1) = s_gdu G C op c k (s_gdi G C op c s k) := rfl
    have hm := Nat.mod_lt c hG
    show jW (F_Watch_findRests_c2 (F_Watch_findRests_l2 n) 102 (nI c) (nQ (s_lst G op c G)) (nI k) (jz_I h J)) P
    unfold F_Watch_findRests_c2
    rw [es] at ih
    generalize s_gdi G C op c s k = y at w5 w6 w7 hle ih
    by_cases h1 : s_py G op c k = s_lst G op c G
    · by_cases h2 : s_py G op c k = s_mst G op k C
      · have er : s_rs G C op c k = true := by unfold s_rs; rw [decide_eq_true h1, decide_eq_true h2]; rfl
        unfold s_gdu at ih
        rw [if_pos er] at ih
        by_cases h0 : y.1 = 0
        · rw [if_pos h0] at ih
          simp (disch := omega) only [j3, j4, w5, h0, c_thiefHas hL hG hG9 j3 (show c < 216 by omega) (show k < 9 by omega) jo, nQ_eq, F_Watch_findRests_b73, F_Watch_findRests_b83, ↓dR_64_5 hL, ↓dK_102 hL, ↓dG_102 hL, ↓dP_102 hL, ↓dR_102_2 hL, dI_104 hL, dS_104 hL, ↓reduceIte, ↓kq_bi, ↓kq_let, ↓kq_rz0, ↓kq_rz1, ↓kq_rzB, ↓Option.bind_some, kq_dvn, kt_lt, kf_lt, kt_eq, kf_eq, decide_true, decide_false, eq_self, Bool.false_eq_true, Bool.true_eq_false, not_true_eq_false, not_false_eq_true, jU_eq, jU_ne, jU_U, jV_eq, jV_ne, jV_V, kn_lit, kn_add, kn_mul, kn_sdm, kn_sub, kn_div, kn_nsdm, kn_lt, kn_eq, kn_pred, kn_m1, kn_m1', kn_a31, kn_shl, kn_shr, kn_bit, nB_0, nB_1, nB_t, nB_f, Nat.zero_add, Nat.add_zero, Nat.reduceAdd, Nat.reduceMul, Nat.reduceSub, Nat.reducePow]
          refine ih _ ⟨⟨?_, ?_, ?_⟩, fun j hj => ?_, fun a ha => ?_⟩
          · simp (disch := omega) only [jU_eq, jV_eq, jV_ne, h0]
          · simp (disch := omega) only [jU_eq, jV_eq, jV_ne, nO_some]
          · simp (disch := omega) only [jU_eq, jV_eq, jV_ne]
          · simp (disch := omega) only [jU_eq, jV_ne]; exact v2 j hj
          · rw [jU_ne ha]; exact v3 a ha
        · rw [if_neg h0] at ih
          simp (disch := omega) only [j3, j4, w5, c_thiefHas hL hG hG9 j3 (show c < 216 by omega) (show k < 9 by omega) jo, nQ_eq, F_Watch_findRests_b73, F_Watch_findRests_b83, ↓dR_64_5 hL, ↓dK_102 hL, ↓dG_102 hL, ↓dP_102 hL, ↓dR_102_2 hL, dI_104 hL, dS_104 hL, ↓reduceIte, ↓kq_bi, ↓kq_let, ↓kq_rz0, ↓kq_rz1, ↓kq_rzB, ↓Option.bind_some, kq_dvn, kt_lt, kf_lt, kt_eq, kf_eq, decide_true, decide_false, eq_self, Bool.false_eq_true, Bool.true_eq_false, not_true_eq_false, not_false_eq_true, jU_eq, jU_ne, jU_U, jV_eq, jV_ne, jV_V, kn_lit, kn_add, kn_mul, kn_sdm, kn_sub, kn_div, kn_nsdm, kn_lt, kn_eq, kn_pred, kn_m1, kn_m1', kn_a31, kn_shl, kn_shr, kn_bit, nB_0, nB_1, nB_t, nB_f, Nat.zero_add, Nat.add_zero, Nat.reduceAdd, Nat.reduceMul, Nat.reduceSub, Nat.reducePow]
          refine ih _ ⟨⟨?_, ?_, ?_⟩, fun j hj => ?_, fun a ha => ?_⟩
          · simp (disch := omega) only [jU_eq, jV_eq, jV_ne]
          · simp (disch := omega) only [jU_eq, jV_ne]; exact w6
          · simp (disch := omega) only [jU_eq, jV_ne]; exact w7
          · simp (disch := omega) only [jU_eq, jV_ne]; exact v2 j hj
          · rw [jU_ne ha]; exact v3 a ha
      · have er : s_rs G C op c k = false := by unfold s_rs; rw [decide_eq_false h2, Bool.and_false]
        unfold s_gdu at ih
        rw [if_neg (by rw [er]; decide)] at ih
        simp (disch := omega) only [j3, j4, c_thiefHas hL hG hG9 j3 (show c < 216 by omega) (show k < 9 by omega) jo, nQ_eq, F_Watch_findRests_b73, F_Watch_findRests_b83, ↓dR_64_5 hL, ↓dK_102 hL, ↓dG_102 hL, ↓dP_102 hL, ↓dR_102_2 hL, dI_104 hL, dS_104 hL, ↓reduceIte, ↓kq_bi, ↓kq_let, ↓kq_rz0, ↓kq_rz1, ↓kq_rzB, ↓Option.bind_some, kq_dvn, kt_lt, kf_lt, kt_eq, kf_eq, decide_true, decide_false, eq_self, Bool.false_eq_true, Bool.true_eq_false, not_true_eq_false, not_false_eq_true, jU_eq, jU_ne, jU_U, jV_eq, jV_ne, jV_V, kn_lit, kn_add, kn_mul, kn_sdm, kn_sub, kn_div, kn_nsdm, kn_lt, kn_eq, kn_pred, kn_m1, kn_m1', kn_a31, kn_shl, kn_shr, kn_bit, nB_0, nB_1, nB_t, nB_f, Nat.zero_add, Nat.add_zero, Nat.reduceAdd, Nat.reduceMul, Nat.reduceSub, Nat.reducePow]
        exact ih J ⟨⟨w5, w6, w7⟩, v2, v3⟩
    · have er : s_rs G C op c k = false := by unfold s_rs; rw [decide_eq_false h1, Bool.false_and]
      unfold s_gdu at ih
      rw [if_neg (by rw [er]; decide)] at ih
      simp (disch := omega) only [j3, c_thiefHas hL hG hG9 j3 (show c < 216 by omega) (show k < 9 by omega) jo, nQ_eq, F_Watch_findRests_b73, F_Watch_findRests_b83, ↓dR_64_5 hL, ↓dK_102 hL, ↓dG_102 hL, ↓dP_102 hL, ↓dR_102_2 hL, dI_104 hL, dS_104 hL, ↓reduceIte, ↓kq_bi, ↓kq_let, ↓kq_rz0, ↓kq_rz1, ↓kq_rzB, ↓Option.bind_some, kq_dvn, kt_lt, kf_lt, kt_eq, kf_eq, decide_true, decide_false, eq_self, Bool.false_eq_true, Bool.true_eq_false, not_true_eq_false, not_false_eq_true, jU_eq, jU_ne, jU_U, jV_eq, jV_ne, jV_V, kn_lit, kn_add, kn_mul, kn_sdm, kn_sub, kn_div, kn_nsdm, kn_lt, kn_eq, kn_pred, kn_m1, kn_m1', kn_a31, kn_shl, kn_shr, kn_bit, nB_0, nB_1, nB_t, nB_f, Nat.zero_add, Nat.add_zero, Nat.reduceAdd, Nat.reduceMul, Nat.reduceSub, Nat.reducePow]
      exact ih J ⟨⟨w5, w6, w7⟩, v2, v3⟩
  · have j3 : J 102 3 = nI G := by rw [hV.2.1 3 (by omega)]; exact h3
    show jW (F_Watch_findRests_c2 (F_Watch_findRests_l2 n) 102 (nI c) (nQ (s_lst G op c G)) (nI G) (jz_I h J)) P
    unfold F_Watch_findRests_c2
    simp (disch := omega) only [j3, ↓dR_64_5 hL, ↓dK_102 hL, ↓dG_102 hL, ↓dP_102 hL, ↓reduceIte, ↓kq_bi, ↓kq_let, ↓kq_rz0, ↓kq_rz1, ↓kq_rzB, ↓Option.bind_some, kq_dvn, kt_lt, kf_lt, kt_eq, kf_eq, decide_true, decide_false, eq_self, Bool.false_eq_true, Bool.true_eq_false, not_true_eq_false, not_false_eq_true, jU_eq, jU_ne, jU_U, jV_eq, jV_ne, jV_V, kn_lit, kn_add, kn_mul, kn_sdm, kn_sub, kn_div, kn_nsdm, kn_lt, kn_eq, kn_pred, kn_m1, kn_m1', kn_a31, kn_shl, kn_shr, kn_bit, nB_0, nB_1, nB_t, nB_f, Nat.zero_add, Nat.add_zero, Nat.reduceAdd, Nat.reduceMul, Nat.reduceSub, Nat.reducePow]
    exact jW_s (hP J hV)
theorem s_gG {g k n : Nat} (hg : g < G) (hk : k < n) : k * G + g < G * n ∧ (k * G + g) % G = g ∧ (k * G + g) / G = k := by
  have h1 : (k + 1) * G ≤ n * G := Nat.mul_le_mul_right G hk
  rw [Nat.succ_mul] at h1
  refine ⟨by rw [Nat.mul_comm G n]; omega, ?_, ?_⟩
  · rw [Nat.add_comm, Nat.add_mul_mod_self_right, Nat.mod_eq_of_lt hg]
  · rw [Nat.add_comm, Nat.add_mul_div_right _ _ (by omega), Nat.div_eq_of_lt hg, Nat.zero_add]
theorem vp_b0 : vp_nar .boolean (nI 0) = nI 0 := by decide
theorem vp_b1 : vp_nar .boolean (nI 1) = nI 1 := by decide
theorem c_seeOpen (hL : jLay t u l m b c h) (hQ : jQC I t l τ ω r) (hS : jSg l I J) (hJ : jCS J 90 τ false r) {n : Nat} (hn : n ≤ 24) (h3 : J 102 3 = nI (τ 0 0)) (h4 : J 102 4 = nI (τ 0 0 * n)) : ∃ K, F_Watch_seeOpenGates 102 (jz_I h J) = some (jz_I h K) ∧ jSg l I K ∧ K 102 = J 102 ∧ ∀ c, c < τ 0 0 * n → K 103 c = nB (s_opn τ ω r c) := by
  have ho := hQ.1.2.1
  have o0 : τ 0 0 ≤ 9 := ho.1
  have hl := jLay_l hL
  have h216 : τ 0 0 * n ≤ 216 := Nat.le_trans (Nat.mul_le_mul o0 hn) (by decide)
  refine jE_n (fun P hP => ?_)
  unfold F_Watch_seeOpenGates
  by_cases hG : τ 0 0 = 0
  · have h0 : τ 0 0 * n = 0 := by rw [hG, Nat.zero_mul]
    obtain ⟨F, hF⟩ : ∃ F, jF = F + 1 := ⟨999, rfl⟩
    rw [hF]
    rw [h0] at h4 hP
    simp (disch := omega) only [F_Watch_seeOpenGates_l2, F_Watch_seeOpenGates_c2, h4, F_Watch_seeOpenGates_b74, ↓dR_64_5 hL, ↓dK_102 hL, ↓dG_102 hL, ↓dP_102 hL, ↓reduceIte, ↓kq_bi, ↓kq_let, ↓kq_rz0, ↓kq_rz1, ↓kq_rzB, ↓Option.bind_some, kq_dvn, kt_lt, kf_lt, kt_eq, kf_eq, decide_true, decide_false, eq_self, Bool.false_eq_true, Bool.true_eq_false, not_true_eq_false, not_false_eq_true, jU_eq, jU_ne, jU_U, jV_eq, jV_ne, jV_V, kn_lit, kn_add, kn_mul, kn_sdm, kn_sub, kn_div, kn_nsdm, kn_lt, kn_eq, kn_pred, kn_m1, kn_m1', kn_a31, kn_shl, kn_shr, kn_bit, nB_0, nB_1, nB_t, nB_f, Nat.zero_add, Nat.add_zero, Nat.reduceAdd, Nat.reduceMul, Nat.reduceSub, Nat.reducePow]
    exact jW_s (hP J ⟨hS, rfl, fun c hc => absurd hc (Nat.not_lt_zero c)⟩)
  · have hG0 : 0 < τ 0 0 := by omega
    have e0 : nI 0 = nI (0 * τ 0 0) := by rw [Nat.zero_mul]
    rw [show (0 : Int32) = nI 0 from rfl, e0]
    refine jW_for0 (f := fun fuel k (K : Nat → Nat → Int32) => F_Watch_seeOpenGates_l2 fuel 102 (nI (k * τ 0 0)) (jz_I h K)) n (fun k K => (jSg l I K ∧ K 102 = J 102 ∧ jCS K 90 τ false (s_hrs τ ω r k)) ∧ ∀ c, c < k * τ 0 0 → K 103 c = nB (s_opn τ ω r c)) J ⟨⟨hS, rfl, hJ⟩, fun c hc => absurd hc (by rw [Nat.zero_mul]; exact Nat.not_lt_zero c)⟩ (by omega) (fun F k K hk hV ih => ?_) (fun F K hV => ?_)
    · obtain ⟨⟨v1, v2, v3⟩, v4⟩ := hV
      obtain ⟨hq, -⟩ := s_hrs_ok (ω := ω) ho hQ.2.2.1 hQ.2.2.2 k (by omega)
      have g0 := (s_gG (G := τ 0 0) hG0 hk).1
      rw [Nat.add_zero] at g0
      show jW (F_Watch_seeOpenGates_c2 (F_Watch_seeOpenGates_l2 F) 102 (nI (k * τ 0 0)) (jz_I h K)) P
      unfold F_Watch_seeOpenGates_c2
      simp (disch := omega) only [v2, h3, h4, ↓dR_64_5 hL, ↓dK_102 hL, ↓dG_102 hL, ↓dP_102 hL, ↓reduceIte, ↓kq_bi, ↓kq_let, ↓kq_rz0, ↓kq_rz1, ↓kq_rzB, ↓Option.bind_some, kq_dvn, kt_lt, kf_lt, kt_eq, kf_eq, decide_true, decide_false, eq_self, Bool.false_eq_true, Bool.true_eq_false, not_true_eq_false, not_false_eq_true, jU_eq, jU_ne, jU_U, jV_eq, jV_ne, jV_V, kn_lit, kn_add, kn_mul, kn_sdm, kn_sub, kn_div, kn_nsdm, kn_lt, kn_eq, kn_pred, kn_m1, kn_m1', kn_a31, kn_shl, kn_shr, kn_bit, nB_0, nB_1, nB_t, nB_f, Nat.zero_add, Nat.add_zero, Nat.reduceAdd, Nat.reduceMul, Nat.reduceSub, Nat.reducePow]
      refine jW_for0 (f := fun fuel g (K : Nat → Nat → Int32) => F_Watch_seeOpenGates_l19 (F_Watch_seeOpenGates_l2 F) fuel 102 (nI (k * τ 0 0)) (nI g) (jz_I h K)) (τ 0 0) (fun g K => (jSg l I K ∧ K 102 = J 102 ∧ jCS K 90 τ false (s_hrs τ ω r k)) ∧ ∀ c, c < k * τ 0 0 + g → K 103 c = nB (s_opn τ ω r c)) K ⟨⟨v1, v2, v3⟩, v4⟩ (by omega) (fun F2 g K hg hV ih2 => ?_) (fun F2 K hV => ?_)
      · obtain ⟨⟨v1, v2, v3⟩, v4⟩ := hV
        obtain ⟨a1, a2, a3⟩ := s_gG (G := τ 0 0) hg hk
        show jW (F_Watch_seeOpenGates_c19 (F_Watch_seeOpenGates_l2 F) (F_Watch_seeOpenGates_l19 (F_Watch_seeOpenGates_l2 F) F2) 102 (nI (k * τ 0 0)) (nI g) (jz_I h K)) P
        unfold F_Watch_seeOpenGates_c19
        simp (disch := omega) only [↓dR_102_0 hL, v2, h3, ↓dR_64_5 hL, ↓dK_102 hL, ↓dG_102 hL, ↓dP_102 hL, ↓dR_102_1 hL, dI_103 hL, dS_103 hL, ↓dR_64_3 hL, ↓dR_95_0 hL, ↓dR_102_0 hL, ↓dR_105_0 hL, ↓dK_90 hL, ↓dG_90 hL, ↓dP_90 hL, ↓dZ_90 hL (x := nI 0) (Or.inl rfl), ↓dZ_90 hL (x := nI 1) (Or.inr rfl), ↓dZ_90 hL (Or.inl rfl), ↓dZ_90 hL (Or.inr rfl), ↓dZ_90 hL (nB_01 _), ↓reduceIte, ↓kq_bi, ↓kq_let, ↓kq_rz0, ↓kq_rz1, ↓kq_rzB, ↓Option.bind_some, kq_dvn, kt_lt, kf_lt, kt_eq, kf_eq, decide_true, decide_false, eq_self, Bool.false_eq_true, Bool.true_eq_false, not_true_eq_false, not_false_eq_true, jU_eq, jU_ne, jU_U, jV_eq, jV_ne, jV_V, kn_lit, kn_add, kn_mul, kn_sdm, kn_sub, kn_div, kn_nsdm, kn_lt, kn_eq, kn_pred, kn_m1, kn_m1', kn_a31, kn_shl, kn_shr, kn_bit, nB_0, nB_1, nB_t, nB_f, Nat.zero_add, Nat.add_zero, Nat.reduceAdd, Nat.reduceMul, Nat.reduceSub, Nat.reducePow]
        refine jW_bi (c_shutT hL (jQC_Sg hL v1 hQ) jSc_refl v3 hq hg) (fun K2 hK2 => ?_)
        have eo : s_opn τ ω r (k * τ 0 0 + g) = !(s_sh τ ω false (s_hrs τ ω r k) g) := by unfold s_opn; rw [a2, a3]
        have fin : ∀ x, vp_nar .boolean x = nB (s_opn τ ω r (k * τ 0 0 + g)) → jW (F_Watch_seeOpenGates_l19 (F_Watch_seeOpenGates_l2 F) F2 102 (nI (k * τ 0 0)) (nI (g + 1)) (jz_I h (jU K2 103 (jV (K2 103) (k * τ 0 0 + g) (vp_nar .boolean x))))) P := fun x hx => by
          refine ih2 _ ⟨⟨jSg_trans (jSg_Sc v1 hK2.1) (fun a _ _ z => jU_ne (by omega)), ?_, jCS_congr (fun a b1 b2 => jU_ne (by omega)) hK2.2⟩, fun c hc => ?_⟩
          · rw [jU_ne (by omega), hK2.1 102 (by omega) (by omega)]; exact v2
          · rw [jU_eq]
            by_cases hcc : c = k * τ 0 0 + g
            · rw [hcc, jV_eq]; exact hx
            · rw [jV_ne hcc, hK2.1 103 (by omega) (by omega)]; exact v4 c (by omega)
        cases hb : s_sh τ ω false (s_hrs τ ω r k) g
        · rw [hb] at eo
          simp (disch := omega) only [F_Watch_seeOpenGates_b50, ↓dR_102_1 hL, dI_103 hL, dS_103 hL, ↓reduceIte, ↓kq_bi, ↓kq_let, ↓kq_rz0, ↓kq_rz1, ↓kq_rzB, ↓Option.bind_some, kq_dvn, kt_lt, kf_lt, kt_eq, kf_eq, decide_true, decide_false, eq_self, Bool.false_eq_true, Bool.true_eq_false, not_true_eq_false, not_false_eq_true, jU_eq, jU_ne, jU_U, jV_eq, jV_ne, jV_V, kn_lit, kn_add, kn_mul, kn_sdm, kn_sub, kn_div, kn_nsdm, kn_lt, kn_eq, kn_pred, kn_m1, kn_m1', kn_a31, kn_shl, kn_shr, kn_bit, nB_0, nB_1, nB_t, nB_f, Nat.zero_add, Nat.add_zero, Nat.reduceAdd, Nat.reduceMul, Nat.reduceSub, Nat.reducePow]
          exact fin _ (by rw [eo]; exact vp_b1)
        · rw [hb] at eo
          simp (disch := omega) only [F_Watch_seeOpenGates_b50, ↓dR_102_1 hL, dI_103 hL, dS_103 hL, ↓reduceIte, ↓kq_bi, ↓kq_let, ↓kq_rz0, ↓kq_rz1, ↓kq_rzB, ↓Option.bind_some, kq_dvn, kt_lt, kf_lt, kt_eq, kf_eq, decide_true, decide_false, eq_self, Bool.false_eq_true, Bool.true_eq_false, not_true_eq_false, not_false_eq_true, jU_eq, jU_ne, jU_U, jV_eq, jV_ne, jV_V, kn_lit, kn_add, kn_mul, kn_sdm, kn_sub, kn_div, kn_nsdm, kn_lt, kn_eq, kn_pred, kn_m1, kn_m1', kn_a31, kn_shl, kn_shr, kn_bit, nB_0, nB_1, nB_t, nB_f, Nat.zero_add, Nat.add_zero, Nat.reduceAdd, Nat.reduceMul, Nat.reduceSub, Nat.reducePow]
          exact fin _ (by rw [eo]; exact vp_b0)
      · obtain ⟨⟨v1, v2, v3⟩, v4⟩ := hV
        show jW (F_Watch_seeOpenGates_c19 (F_Watch_seeOpenGates_l2 F) (F_Watch_seeOpenGates_l19 (F_Watch_seeOpenGates_l2 F) F2) 102 (nI (k * τ 0 0)) (nI (τ 0 0)) (jz_I h K)) P
        unfold F_Watch_seeOpenGates_c19
        simp (disch := omega) only [↓dR_102_0 hL, v2, h3, ↓dR_64_5 hL, ↓dK_102 hL, ↓dG_102 hL, ↓dP_102 hL, ↓dR_64_3 hL, ↓dR_95_0 hL, ↓dR_102_0 hL, ↓dR_105_0 hL, ↓dK_90 hL, ↓dG_90 hL, ↓dP_90 hL, ↓dZ_90 hL (x := nI 0) (Or.inl rfl), ↓dZ_90 hL (x := nI 1) (Or.inr rfl), ↓dZ_90 hL (Or.inl rfl), ↓dZ_90 hL (Or.inr rfl), ↓dZ_90 hL (nB_01 _), ↓reduceIte, ↓kq_bi, ↓kq_let, ↓kq_rz0, ↓kq_rz1, ↓kq_rzB, ↓Option.bind_some, kq_dvn, kt_lt, kf_lt, kt_eq, kf_eq, decide_true, decide_false, eq_self, Bool.false_eq_true, Bool.true_eq_false, not_true_eq_false, not_false_eq_true, jU_eq, jU_ne, jU_U, jV_eq, jV_ne, jV_V, kn_lit, kn_add, kn_mul, kn_sdm, kn_sub, kn_div, kn_nsdm, kn_lt, kn_eq, kn_pred, kn_m1, kn_m1', kn_a31, kn_shl, kn_shr, kn_bit, nB_0, nB_1, nB_t, nB_f, Nat.zero_add, Nat.add_zero, Nat.reduceAdd, Nat.reduceMul, Nat.reduceSub, Nat.reducePow]
        refine jW_bn (c_hourT hL (jQC_Sg hL v1 hQ) jSc_refl v3 hq) (fun K2 hK2 => ?_)
        have e2 : K2 102 = J 102 := by rw [hK2.1 102 (by omega) (by omega)]; exact v2
        simp (disch := omega) only [e2, h3, ↓dR_64_5 hL, ↓dK_102 hL, ↓dG_102 hL, ↓dP_102 hL, ↓reduceIte, ↓kq_bi, ↓kq_let, ↓kq_rz0, ↓kq_rz1, ↓kq_rzB, ↓Option.bind_some, kq_dvn, kt_lt, kf_lt, kt_eq, kf_eq, decide_true, decide_false, eq_self, Bool.false_eq_true, Bool.true_eq_false, not_true_eq_false, not_false_eq_true, jU_eq, jU_ne, jU_U, jV_eq, jV_ne, jV_V, kn_lit, kn_add, kn_mul, kn_sdm, kn_sub, kn_div, kn_nsdm, kn_lt, kn_eq, kn_pred, kn_m1, kn_m1', kn_a31, kn_shl, kn_shr, kn_bit, nB_0, nB_1, nB_t, nB_f, Nat.zero_add, Nat.add_zero, Nat.reduceAdd, Nat.reduceMul, Nat.reduceSub, Nat.reducePow]
        rw [← Nat.succ_mul]
        refine ih K2 ⟨⟨jSg_Sc v1 hK2.1, e2, hK2.2⟩, fun c hc => ?_⟩
        rw [hK2.1 103 (by omega) (by omega)]
        exact v4 c (by rw [← Nat.succ_mul]; exact hc)
    · obtain ⟨⟨v1, v2, v3⟩, v4⟩ := hV
      show jW (F_Watch_seeOpenGates_c2 (F_Watch_seeOpenGates_l2 F) 102 (nI (n * τ 0 0)) (jz_I h K)) P
      unfold F_Watch_seeOpenGates_c2
      have e9 : τ 0 0 * n = n * τ 0 0 := Nat.mul_comm _ _
      rw [e9] at h4 h216 hP
      simp (disch := omega) only [v2, h4, F_Watch_seeOpenGates_b74, ↓dR_64_5 hL, ↓dK_102 hL, ↓dG_102 hL, ↓dP_102 hL, ↓reduceIte, ↓kq_bi, ↓kq_let, ↓kq_rz0, ↓kq_rz1, ↓kq_rzB, ↓Option.bind_some, kq_dvn, kt_lt, kf_lt, kt_eq, kf_eq, decide_true, decide_false, eq_self, Bool.false_eq_true, Bool.true_eq_false, not_true_eq_false, not_false_eq_true, jU_eq, jU_ne, jU_U, jV_eq, jV_ne, jV_V, kn_lit, kn_add, kn_mul, kn_sdm, kn_sub, kn_div, kn_nsdm, kn_lt, kn_eq, kn_pred, kn_m1, kn_m1', kn_a31, kn_shl, kn_shr, kn_bit, nB_0, nB_1, nB_t, nB_f, Nat.zero_add, Nat.add_zero, Nat.reduceAdd, Nat.reduceMul, Nat.reduceSub, Nat.reducePow]
      exact jW_s (hP K ⟨v1, v2, v4⟩)
end

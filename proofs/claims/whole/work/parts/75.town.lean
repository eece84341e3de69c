/-! PLAIN LEAN, 41: towns; the class reads a clause -/
/-- kinds of clauses: 0 gate, 1 wood, 2 comer, 3 signal, 4 wind, 5 rain; the kind that a column is of -/
def s_kd (c : Nat) : Nat := if c = 1 then 0 else if c ≤ 5 then 1 else if c = 6 then 4 else if c ≤ 8 then 5 else if c ≤ 11 then 2 else 3
/-- where the class counts a kind -/
def s_cf (i : Nat) : Nat := if i = 2 then 4 else if i = 3 then 5 else if i = 4 then 2 else if i = 5 then 3 else i
def s_add (δ : JTn) (j : Nat) (v : Nat → Nat) : JTn := fun c k => if c = 0 then (if k = j then δ 0 j + 1 else δ 0 k) else if s_kd c = j ∧ k = δ 0 j then v c else δ c k
def jCD (J : Nat → Nat → Int32) (u : Nat) (δ : JTn) : Prop := (∀ i, i < 6 → J u (s_cf i) = nI (δ 0 i)) ∧ ∀ c k, 1 ≤ c → c ≤ 12 → k < δ 0 (s_kd c) → J (u + c) k = nI (δ c k)
theorem s_cf_inj : ∀ i, i < 6 → ∀ j, j < 6 → s_cf i = s_cf j → i = j := by decide
theorem s_kd_0 : ∀ c, c < 13 → 1 ≤ c → s_kd c = 0 → c = 1 := by decide
theorem s_kd_1 : ∀ c, c < 13 → 1 ≤ c → s_kd c = 1 → 2 ≤ c ∧ c ≤ 5 := by decide
theorem s_kd_2 : ∀ c, c < 13 → 1 ≤ c → s_kd c = 2 → 9 ≤ c ∧ c ≤ 11 := by decide
theorem s_kd_3 : ∀ c, c < 13 → 1 ≤ c → s_kd c = 3 → c = 12 := by decide
theorem s_kd_4 : ∀ c, c < 13 → 1 ≤ c → s_kd c = 4 → c = 6 := by decide
theorem s_kd_5 : ∀ c, c < 13 → 1 ≤ c → s_kd c = 5 → 7 ≤ c ∧ c ≤ 8 := by decide
theorem s_kd_lt : ∀ c, c < 13 → s_kd c < 6 := by decide
/-- the numbers of a clause, and where the reader is behind them -/
def s_rdk (tp : Nat → Nat) (n : Nat) (δ : JTn) (j : Nat) (y : JTs) : (Nat → Nat) × JTs :=
  if j = 0 then (fun _ => s_nuv tp n y, s_num tp n 0 4 y)
  else if j = 1 then (fun c => if c = 2 then s_nuv tp n y else if c = 3 then s_nuv tp n (s_num tp n 1 21 y) else if c = 4 then s_nuv tp n (s_num tp n 1 10 (s_num tp n 1 21 y)) else s_nuv tp n (s_num tp n 0 32 (s_num tp n 1 10 (s_num tp n 1 21 y))), s_num tp n 0 41 (s_num tp n 0 32 (s_num tp n 1 10 (s_num tp n 1 21 y))))
  else if j = 2 then (fun c => if c = 9 then s_nuv tp n y else if c = 10 then s_nuv tp n (s_num tp n 0 (δ 0 0) y) else s_nuv tp n (s_num tp n 0 100 (s_num tp n 0 (δ 0 0) y)), s_num tp n 0 10 (s_num tp n 0 100 (s_num tp n 0 (δ 0 0) y)))
  else if j = 3 then (fun _ => s_nuv tp n y, s_num tp n 0 512 y)
  else if j = 4 then (fun _ => s_nuv tp n y, s_num tp n 0 9 y)
  else (fun c => if c = 7 then s_nuv tp n y else s_nuv tp n (s_num tp n 0 100 y), s_num tp n (s_nuv tp n y) 100 (s_num tp n 0 100 y))
/-- a draft at u and the reader have changed alone -/
def jTu (u : Nat) (J K : Nat → Nat → Int32) : Prop := K 65 1 = J 65 1 ∧ ∀ a, ¬ a = 65 → ¬ (u ≤ a ∧ a < u + 13) → K a = J a
section
variable {t u l m b c : Nat} {h : LH} {I J K : Nat → Nat → Int32} {δ : JTn} {tp : Nat → Nat} {n j : Nat} {y : JTs} {x : Int32} {v : Nat → Nat}
theorem jTu_trans {L : Nat → Nat → Int32} (h1 : jTu u J K) (h2 : jTu u K L) : jTu u J L := ⟨h2.1.trans h1.1, fun a ha hb => (h2.2 a ha hb).trans (h1.2 a ha hb)⟩
theorem jTu_T1 (h1 : jT1 J K) : jTu u J K := ⟨h1.1, fun a ha _ => h1.2 a ha⟩
theorem jTu_U (hu : 65 < u) {a : Nat} (h1 : u ≤ a) (h2 : a < u + 13) {f : Nat → Int32} : jTu u J (jU J a f) := ⟨by rw [jU_ne (by omega)], fun d hd hb => jU_ne (by omega)⟩
theorem jTX_U (hT : jTX J tp n y) (hu : 66 < u) {f : Nat → Int32} : jTX (jU J u f) tp n y := by
  obtain ⟨⟨h2, h3, h4, h5⟩, hy, htp, h256⟩ := hT
  exact ⟨⟨by rw [jU_ne (by omega)]; exact h2, by rw [jU_ne (by omega)]; exact h3, by rw [jU_ne (by omega)]; exact h4, by rw [jU_ne (by omega)]; exact h5⟩, hy, fun k hk => by rw [jU_ne (by omega)]; exact htp k hk, h256⟩
theorem jCD_T1 (hC : jCD J u δ) (hu : 65 < u) (h1 : jT1 J K) : jCD K u δ := ⟨fun i hi => by rw [h1.2 u (by omega)]; exact hC.1 i hi, fun c k a1 a2 a3 => by rw [h1.2 (u + c) (by omega)]; exact hC.2 c k a1 a2 a3⟩
theorem jCD_add (hC : jCD J u δ) (hj : j < 6) (e0 : K u (s_cf j) = nI (δ 0 j + 1)) (e1 : ∀ i, i < 6 → ¬ s_cf i = s_cf j → K u (s_cf i) = J u (s_cf i)) (e2 : ∀ c, 1 ≤ c → c < 13 → s_kd c = j → K (u + c) (δ 0 j) = nI (v c) ∧ ∀ k, k < δ 0 j → K (u + c) k = J (u + c) k) (e3 : ∀ c, 1 ≤ c → c < 13 → ¬ s_kd c = j → K (u + c) = J (u + c)) : jCD K u (s_add δ j v) := by
  refine ⟨fun i hi => ?_, fun c k a1 a2 a3 => ?_⟩
  · have ea : s_add δ j v 0 i = if i = j then δ 0 j + 1 else δ 0 i := if_pos rfl
    rw [ea]
    by_cases z : i = j
    · rw [if_pos z, z]; exact e0
    · rw [if_neg z, e1 i hi (fun a => z (s_cf_inj i hi j hj a))]; exact hC.1 i hi
  · have ea : s_add δ j v c k = if s_kd c = j ∧ k = δ 0 j then v c else δ c k := if_neg (by omega)
    have ek : s_add δ j v 0 (s_kd c) = if s_kd c = j then δ 0 j + 1 else δ 0 (s_kd c) := if_pos rfl
    rw [ek] at a3
    rw [ea]
    by_cases z : s_kd c = j
    · obtain ⟨b1, b2⟩ := e2 c a1 (by omega) z
      rw [if_pos z] at a3
      by_cases z2 : k = δ 0 j
      · rw [if_pos ⟨z, z2⟩, z2]; exact b1
      · rw [if_neg (fun a => z2 a.2), b2 k (by omega)]
        exact hC.2 c k a1 a2 (by rw [z]; omega)
    · rw [if_neg z] at a3
      rw [if_neg (fun a => z a.1), e3 c a1 (by omega) z]
      exact hC.2 c k a1 a2 a3
theorem hH_lit {a : Nat} (ha : a < 2147483648) : ∀ v, v ≤ 100000 → (nI a < nI v) = (a + 1 ≤ v) := fun v hv => kn_lt ha (by omega)
theorem hH_pred {g : Nat} (hg : g < 2147483648) : ∀ v, v ≤ 100000 → (nI g - nI 1 < nI v) = (g ≤ v) := fun v hv => by
  by_cases z : g = 0
  · rw [z, kn_pred0, kn_m1lt (by omega)]
    exact (eq_true (Nat.zero_le v)).symm
  · rw [kn_sub (by omega), kn_lt (by omega) (by omega)]
    exact propext ⟨fun a => by omega, fun a => by omega⟩
theorem c_readGate (hL : jLay t u l m b c h) (ht : u = 69 ∨ u = 183) (hT : jTX J tp n y) (hC : jCD J u δ) (hm : δ 0 0 < 9) : ∃ K, F_Town_readGate u 65 (nI 0) (jz_I h J) = some (jz_I h K) ∧ jTX K tp n (s_rdk tp n δ 0 y).2 ∧ jCD K u (s_add δ 0 (s_rdk tp n δ 0 y).1) ∧ jTu u J K := by
  have hu : 66 < u := by omega
  have c0 : J u 0 = nI (δ 0 0) := hC.1 0 (by omega)
  refine jE_n (fun P hP => ?_)
  unfold F_Town_readGate
  simp (disch := omega) only [c0, ↓dR_64_0 hL, ↓dK_65 hL, ↓dG_65 hL, ↓dP_65 hL, ↓dK_T hL ht, ↓dG_T hL ht, ↓dP_T hL ht, ↓dR_T_6 hL ht, dI_T1 hL ht, dS_T1 hL ht, ↓reduceIte, ↓kq_bi, ↓kq_let, ↓kq_rz0, ↓kq_rz1, ↓kq_rzB, ↓Option.bind_some, kq_dvn, kt_lt, kf_lt, kt_eq, kf_eq, decide_true, decide_false, eq_self, Bool.false_eq_true, Bool.true_eq_false, not_true_eq_false, not_false_eq_true, jU_eq, jU_ne, jU_U, jV_eq, jV_ne, jV_V, kn_lit, kn_add, kn_mul, kn_sdm, kn_sub, kn_div, kn_nsdm, kn_lt, kn_eq, kn_pred, kn_m1, kn_m1', kn_a31, kn_shl, kn_shr, kn_bit, nB_0, nB_1, nB_t, nB_f, Nat.zero_add, Nat.add_zero, Nat.reduceAdd, Nat.reduceMul, Nat.reduceSub, Nat.reducePow]
  refine jW_bi (c_number hL hT (lo := 0) (hi := 4) (by omega) (hH_lit (a := 3) (by omega))) (fun K hK => ?_)
  obtain ⟨k1, -, kM⟩ := hK
  have kC := jCD_T1 hC (by omega) kM
  have c0 : K u 0 = nI (δ 0 0) := kC.1 0 (by omega)
  simp (disch := omega) only [c0, ↓dR_64_0 hL, ↓dK_65 hL, ↓dG_65 hL, ↓dP_65 hL, ↓dK_T hL ht, ↓dG_T hL ht, ↓dP_T hL ht, ↓dR_T_6 hL ht, dI_T1 hL ht, dS_T1 hL ht, ↓reduceIte, ↓kq_bi, ↓kq_let, ↓kq_rz0, ↓kq_rz1, ↓kq_rzB, ↓Option.bind_some, kq_dvn, kt_lt, kf_lt, kt_eq, kf_eq, decide_true, decide_false, eq_self, Bool.false_eq_true, Bool.true_eq_false, not_true_eq_false, not_false_eq_true, jU_eq, jU_ne, jU_U, jV_eq, jV_ne, jV_V, kn_lit, kn_add, kn_mul, kn_sdm, kn_sub, kn_div, kn_nsdm, kn_lt, kn_eq, kn_pred, kn_m1, kn_m1', kn_a31, kn_shl, kn_shr, kn_bit, nB_0, nB_1, nB_t, nB_f, Nat.zero_add, Nat.add_zero, Nat.reduceAdd, Nat.reduceMul, Nat.reduceSub, Nat.reducePow]
  refine jW_s (hP _ ⟨jTX_U (jTX_U k1 (by omega)) (by omega), jCD_add kC (by omega) ?_ (fun i hi hne => ?_) (fun c a1 a2 a3 => ?_) (fun c a1 a2 a3 => ?_), jTu_trans (jTu_T1 kM) (jTu_trans (jTu_U (by omega) (by omega) (by omega)) (jTu_U (by omega) (by omega) (by omega)))⟩)
  · rw [jU_eq]; exact jV_eq
  · have hne : ¬ s_cf i = 0 := hne
    rw [jU_eq, jV_ne hne]
  · cases s_kd_0 c a2 a1 a3
    rw [jU_ne (by omega), jU_eq]
    exact ⟨jV_eq, fun k hk => jV_ne (by omega)⟩
  · have : ¬ c = 1 := fun a => a3 (by rw [a]; rfl)
    rw [jU_ne (by omega), jU_ne (by omega)]
end

/-! PLAIN LEAN, 48: towns; a town that was read without fault is one -/
def s_lo (c : Nat) : Nat := if c = 2 ∨ c = 3 then 1 else 0
def s_hi (c g : Nat) : Nat := if c = 1 then 4 else if c = 2 then 21 else if c = 3 then 10 else if c = 4 then 32 else if c = 5 then 41 else if c = 6 then 9 else if c = 7 then 100 else if c = 8 then 100 else if c = 9 then g else if c = 10 then 100 else if c = 11 then 10 else 512
def jTU (δ : JTn) : Prop := jTD δ ∧ ∀ c k, 1 ≤ c → c ≤ 12 → k < δ 0 (s_kd c) → s_lo c ≤ δ c k ∧ δ c k < s_hi c (δ 0 0)
section
variable {δ : JTn} {tp : Nat → Nat} {n j k c : Nat} {y : JTs} {v : Nat → Nat} {d : Bool}
theorem s_hi_mo {g g' : Nat} (hg : g ≤ g') : s_hi c g ≤ s_hi c g' := by
  unfold s_hi
  repeat' split
  all_goals omega
theorem jTU_ok (hU : jTU δ) : jTOK δ := by
  obtain ⟨hD, hR⟩ := hU
  refine ⟨hD 0 (by omega), hD 1 (by omega), hD 2 (by omega), hD 3 (by omega), hD 4 (by omega), hD 5 (by omega), fun g hg => ?_, fun w hw => ?_, fun k hk => ?_, fun k hk => ?_, fun c hc => ?_, fun k hk => ?_⟩
  · have h1 : 0 ≤ δ 1 g ∧ δ 1 g < 4 := hR 1 g (by omega) (by omega) hg
    omega
  · have h1 : 1 ≤ δ 2 w ∧ δ 2 w < 21 := hR 2 w (by omega) (by omega) hw
    have h2 : 1 ≤ δ 3 w ∧ δ 3 w < 10 := hR 3 w (by omega) (by omega) hw
    have h3 : 0 ≤ δ 4 w ∧ δ 4 w < 32 := hR 4 w (by omega) (by omega) hw
    have h4 : 0 ≤ δ 5 w ∧ δ 5 w < 41 := hR 5 w (by omega) (by omega) hw
    omega
  · have h1 : 0 ≤ δ 6 k ∧ δ 6 k < 9 := hR 6 k (by omega) (by omega) hk
    omega
  · have h1 : 0 ≤ δ 7 k ∧ δ 7 k < 100 := hR 7 k (by omega) (by omega) hk
    have h2 : 0 ≤ δ 8 k ∧ δ 8 k < 100 := hR 8 k (by omega) (by omega) hk
    omega
  · have h1 : 0 ≤ δ 9 c ∧ δ 9 c < δ 0 0 := hR 9 c (by omega) (by omega) hc
    have h2 : 0 ≤ δ 10 c ∧ δ 10 c < 100 := hR 10 c (by omega) (by omega) hc
    have h3 : 0 ≤ δ 11 c ∧ δ 11 c < 10 := hR 11 c (by omega) (by omega) hc
    omega
  · have h1 : 0 ≤ δ 12 k ∧ δ 12 k < 512 := hR 12 k (by omega) (by omega) hk
    omega
theorem jTU_add (hU : jTU δ) (hj : δ 0 j < s_cap j) (hv : ∀ c, 1 ≤ c → c < 13 → s_kd c = j → s_lo c ≤ v c ∧ v c < s_hi c (δ 0 0)) : jTU (s_add δ j v) := by
  refine ⟨jTD_add hU.1 hj, fun c k a1 a2 a3 => ?_⟩
  have ea : s_add δ j v c k = if s_kd c = j ∧ k = δ 0 j then v c else δ c k := if_neg (by omega)
  have ek : s_add δ j v 0 (s_kd c) = if s_kd c = j then δ 0 j + 1 else δ 0 (s_kd c) := if_pos rfl
  have eg : s_add δ j v 0 0 = if 0 = j then δ 0 j + 1 else δ 0 0 := if_pos rfl
  have hg : δ 0 0 ≤ s_add δ j v 0 0 := by
    rw [eg]
    split
    · rename_i e; rw [← e]; omega
    · exact Nat.le_refl _
  have hmo := s_hi_mo (c := c) hg
  rw [ek] at a3
  rw [ea]
  by_cases z : s_kd c = j
  · rw [if_pos z] at a3
    by_cases z2 : k = δ 0 j
    · rw [if_pos ⟨z, z2⟩]
      have := hv c a1 (by omega) z
      omega
    · rw [if_neg (fun a => z2 a.2)]
      have := hU.2 c k a1 a2 (by rw [z]; omega)
      omega
  · rw [if_neg z] at a3
    rw [if_neg (fun a => z a.1)]
    have := hU.2 c k a1 a2 a3
    omega
theorem s_rdk_v (hj : j < 6) (h0 : (s_rdk tp n δ j y).2.2.1 = 0) : ∀ c, 1 ≤ c → c < 13 → s_kd c = j → s_lo c ≤ (s_rdk tp n δ j y).1 c ∧ (s_rdk tp n δ j y).1 c < s_hi c (δ 0 0) := by
  intro c a1 a2 a3
  rcases (show j = 0 ∨ j = 1 ∨ j = 2 ∨ j = 3 ∨ j = 4 ∨ j = 5 by omega) with rfl | rfl | rfl | rfl | rfl | rfl
  · have z : (s_num tp n 0 4 y).2.1 = 0 := h0
    have z1 := s_num_ok z
    cases s_kd_0 c a2 a1 a3
    exact z1.2
  · have z : (s_num tp n 0 41 (s_num tp n 0 32 (s_num tp n 1 10 (s_num tp n 1 21 y)))).2.1 = 0 := h0
    have z4 := s_num_ok z
    have z3 := s_num_ok z4.1
    have z2 := s_num_ok z3.1
    have z1 := s_num_ok z2.1
    have hc := s_kd_1 c a2 a1 a3
    rcases (show c = 2 ∨ c = 3 ∨ c = 4 ∨ c = 5 by omega) with rfl | rfl | rfl | rfl
    · exact z1.2
    · exact z2.2
    · exact z3.2
    · exact z4.2
  · have z : (s_num tp n 0 10 (s_num tp n 0 100 (s_num tp n 0 (δ 0 0) y))).2.1 = 0 := h0
    have z3 := s_num_ok z
    have z2 := s_num_ok z3.1
    have z1 := s_num_ok z2.1
    have hc := s_kd_2 c a2 a1 a3
    rcases (show c = 9 ∨ c = 10 ∨ c = 11 by omega) with rfl | rfl | rfl
    · exact z1.2
    · exact z2.2
    · exact z3.2
  · have z : (s_num tp n 0 512 y).2.1 = 0 := h0
    have z1 := s_num_ok z
    cases s_kd_3 c a2 a1 a3
    exact z1.2
  · have z : (s_num tp n 0 9 y).2.1 = 0 := h0
    have z1 := s_num_ok z
    cases s_kd_4 c a2 a1 a3
    exact z1.2
  · have z : (s_num tp n (s_nuv tp n y) 100 (s_num tp n 0 100 y)).2.1 = 0 := h0
    have z2 := s_num_ok z
    have z1 := s_num_ok z2.1
    have hc := s_kd_5 c a2 a1 a3
    rcases (show c = 7 ∨ c = 8 by omega) with rfl | rfl
    · exact z1.2
    · exact ⟨Nat.zero_le _, z2.2.2⟩
theorem s_cl_U (hU : jTU δ) (h0 : (s_cl tp n d δ y).2.2.1 = 0) : jTU (s_cl tp n d δ y).1 := by
  cases e : s_knd tp n y with
  | none => rw [s_cl_n e]; exact hU
  | some j =>
    by_cases z : d = true ∨ s_cap j ≤ δ 0 j
    · rw [s_cl_f e z]; exact hU
    · rw [s_cl_r e z] at h0 ⊢
      exact jTU_add hU (by omega) (s_rdk_v (s_knd_lt e) h0)
theorem s_cl_0 (h0 : (s_cl tp n d δ y).2.2.1 = 0) : y.2.1 = 0 := by
  by_cases z : y.2.1 = 0
  · exact z
  · exfalso
    have e : s_knd tp n y = none := by
      unfold s_knd
      have f : ∀ k, s_isk tp n y k = false := fun k => decide_eq_false (fun a => z a.1)
      rw [f, f, f, f, f, f]; rfl
    rw [s_cl_n e] at h0
    exact s_fa_0 (by omega) h0
theorem s_tw_U : ∀ f k (z : JTn × JTs), (z.2.2.1 = 0 → jTU z.1) → (s_tw tp n f k z).2.2.1 = 0 → jTU (s_tw tp n f k z).1
  | 0, _, z, hz, h0 => hz h0
  | f + 1, k, z, hz, h0 => by
    have enx2 : (s_nx tp n z.2).2 = z.2.2 := by unfold s_nx; split <;> rfl
    have e : s_tw tp n (f + 1) k z = if s_nc tp n z.2 = none then (z.1, s_nx tp n z.2) else s_tw tp n f (k + 1) ((s_cl tp n (decide (60 ≤ k)) z.1 (s_nx tp n z.2)).1, s_nd tp n 59 (s_cl tp n (decide (60 ≤ k)) z.1 (s_nx tp n z.2)).2) := rfl
    rw [e] at h0 ⊢
    by_cases q : s_nc tp n z.2 = none
    · rw [if_pos q] at h0 ⊢
      have h0 : (s_nx tp n z.2).2.1 = 0 := h0
      rw [enx2] at h0
      exact hz h0
    · rw [if_neg q] at h0 ⊢
      refine s_tw_U f (k + 1) _ (fun w => ?_) h0
      have w1 := s_nd_0 w
      have w2 := s_cl_0 w1
      rw [enx2] at w2
      exact s_cl_U (hz w2) w1
/-- what was read is a town -/
theorem s_town_ok (h0 : (s_town tp n).2.2.1 = 0) : jTOK (s_town tp n).1 := jTU_ok (s_tw_U 61 0 _ (fun _ => ⟨fun _ _ => Nat.zero_le _, fun _ k _ _ a => absurd a (Nat.not_lt_zero k)⟩) h0)
theorem jCD_CT {J : Nat → Nat → Int32} {u : Nat} (hC : jCD J u δ) : jCT J u δ := ⟨hC.1 0 (by omega), hC.1 1 (by omega), hC.1 4 (by omega), hC.1 5 (by omega), hC.1 2 (by omega), hC.1 3 (by omega), fun k hk => hC.2 1 k (by omega) (by omega) hk, fun k hk => hC.2 2 k (by omega) (by omega) hk, fun k hk => hC.2 3 k (by omega) (by omega) hk, fun k hk => hC.2 4 k (by omega) (by omega) hk, fun k hk => hC.2 5 k (by omega) (by omega) hk, fun k hk => hC.2 6 k (by omega) (by omega) hk, fun k hk => hC.2 7 k (by omega) (by omega) hk, fun k hk => hC.2 8 k (by omega) (by omega) hk, fun k hk => hC.2 9 k (by omega) (by omega) hk, fun k hk => hC.2 10 k (by omega) (by omega) hk, fun k hk => hC.2 11 k (by omega) (by omega) hk, fun k hk => hC.2 12 k (by omega) (by omega) hk⟩
end

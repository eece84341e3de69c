/-! PLAIN LEAN: all of it -/
section
variable {L n k kk ci A f v : Nat} {J I : Nat → Nat → Int32} {h : LH} {xs : Nat → Int32}
noncomputable def jJ0 (xs : Nat → Int32) : Nat → Nat → Int32 := fun a => if a < 64 then jy_ct xs a else fun _ => 0
theorem jB_0 : jB L 0 [] [] (jJ0 xs) (jy_h L xs) := by
  refine ⟨?_, by omega, fun a ha => ?_, fun a ha => if_neg (by omega), fun q hq => (by cases hq), fun q hq => (by cases hq)⟩
  · show jy_kd L = _
    rw [List.take_zero, List.append_nil]
  · exact (if_pos (show a < 64 by omega)).symm
theorem jt_0_ok : jTOK jt_0 := by
  unfold jTOK jt_0
  refine ⟨by omega, by omega, by omega, by omega, by omega, by omega, ?_, ?_, ?_, ?_, ?_, ?_⟩ <;> intro g hg <;> exact absurd hg (Nat.not_lt_zero g)
theorem jt_0_r {k : Nat} : s_r0 jt_0 k = 0 := by
  unfold s_r0 jt_0
  split <;> rfl
theorem i_lay {ps : List (Nat × Nat × Nat)} (hB : jB L 654 jb_P2 jb_J2 J h) : jLay 69 183 82 196 199 202 h := by
  have hp : ∀ q ∈ jb_P2, h.2.2.1 q.1 q.2.1 = some q.2.2 := fun q hq => (hB.2.2.2.2.1 q hq).2
  have hP : ∀ q ∈ jh_P, q ∈ jb_P2 := by decide +kernel
  have hJ : ∀ q ∈ jh_J, q ∈ jb_J2 := by decide +kernel
  refine ⟨fun a ha => jB_at hB ha, fun q hq => hp q (hP q hq), fun q hq => (hB.2.2.2.2.2 q (hJ q hq)).2, fun i hi => ?_, Or.inl ⟨rfl, rfl⟩, Or.inl ⟨rfl, rfl⟩, Or.inl ⟨rfl, rfl⟩, hp (85, 1, 69) (by decide +kernel), hp (90, 1, 69) (by decide +kernel), hp (64, 10, 183) (by decide +kernel), hp (85, 2, 82) (by decide +kernel), hp (90, 2, 82) (by decide +kernel), hp (64, 11, 196) (by decide +kernel), hp (64, 12, 199) (by decide +kernel), hp (64, 13, 202) (by decide +kernel)⟩
  rcases (show i = 0 ∨ i = 1 ∨ i = 2 by omega) with rfl | rfl | rfl
  · exact hp (124, 0, 125) (by decide +kernel)
  · exact hp (124, 1, 143) (by decide +kernel)
  · exact hp (124, 2, 161) (by decide +kernel)
theorem jw_same : ∀ k, k < 16 → 1 ≤ k → (jy_q k).2.2.1.length = (s_w k).length ∧ ∀ i, i < (s_w k).length → (jy_q k).2.2.1.getD i 0 = nI ((s_w k).getD i 0) := by decide +kernel
theorem i_low {ps : List (Nat × Nat × Nat)} {js : List (Nat × Nat)} (hB : jB L n ps js J h) {a : Nat} (ha : a < 64) : h.1[a]? = some (jy_k L a) := by
  rw [hB.1, List.getElem?_append_left (by rw [jy_kd_len]; exact ha)]
  unfold jy_kd
  rw [List.getElem?_map, List.getElem?_range ha]
  rfl
theorem i_str {ps : List (Nat × Nat × Nat)} {js : List (Nat × Nat)} (hB : jB L n ps js J h) (hI : ∀ a, a < 64 → I a = jy_ct xs a) : jStr h I := by
  intro k k1 k2
  obtain ⟨w1, w2⟩ := jw_same k k2 k1
  have e1 := i_low hB (a := k) (by omega)
  have e2 := i_low hB (a := k + 21) (by omega)
  rw [show jy_k L k = (31, 0) from if_pos (by omega)] at e1
  rw [show jy_k L (k + 21) = (32, (jy_q (k + 21 - 21)).2.2.1.length) from (if_neg (by omega)).trans (if_pos ⟨by omega, by omega⟩), show k + 21 - 21 = k by omega] at e2
  refine ⟨by unfold jl_kd; rw [e1]; rfl, by unfold jl_kd; rw [e2]; rfl, by unfold jl_ln; rw [e2]; exact w1, fun i hi => ?_⟩
  rw [hI (k + 21) (by omega), ← w2 i hi]
  show (if 21 ≤ k + 21 ∧ k + 21 < 38 then (jy_q (k + 21 - 21)).2.2.1.getD i 0 else xs i) = _
  rw [if_pos ⟨by omega, by omega⟩, show k + 21 - 21 = k by omega]
theorem i_inv {J' : Nat → Nat → Int32} (hB : jB L 654 jb_P2 jb_J2 (jU J' 205 (jV (J' 205) 3 (-1))) h) (c1 : jCL J' 82 s_plain) (c2 : jCB J' 199 (0, fun _ _ => 0)) (c3 : J' 65 = jV (jJ0 xs 65) 3 (-1)) (c4 : ∀ a, ¬ a = 65 → ¬ (82 ≤ a ∧ a ≤ 83) → ¬ (196 ≤ a ∧ a ≤ 203) → J' a = jJ0 xs a) : jInv L xs (jl_sl h) 0 (s_anew jt_0 (fun _ => 0) 0 0) h h.2.1 := by
  have hL : jLay 69 183 82 196 199 202 h := i_lay (ps := []) hB
  have hI : ∀ a, a < 718 → ¬ a = 205 → h.2.1 a = J' a := fun a h1 h2 => by rw [hB.2.2.1 a h1, jU_ne h2]
  have hz : ∀ a, 64 ≤ a → a < 718 → ¬ a = 65 → ¬ (82 ≤ a ∧ a ≤ 83) → ¬ (196 ≤ a ∧ a ≤ 203) → ¬ a = 205 → ∀ j, h.2.1 a j = nI 0 := fun a h0 h1 h2 h3 h4 h5 j => by
    rw [hI a h1 h5, c4 a h2 h3 h4, show jJ0 xs a = fun _ => 0 from if_neg (by omega)]
    rfl
  have h205 : h.2.1 205 = jV (fun _ => 0) 3 (-1) := by
    rw [hB.2.2.1 205 (by omega), jU_eq, c4 205 (by omega) (by omega) (by omega), show jJ0 xs 205 = fun _ => 0 from if_neg (by omega)]
  have z205 : ∀ f, ¬ f = 3 → h.2.1 205 f = nI 0 := fun f hf => by rw [h205, jV_ne hf]; rfl
  have h65 : h.2.1 65 = jV (fun _ => 0) 3 (-1) := by rw [hI 65 (by omega) (by omega), c3, show jJ0 xs 65 = fun _ => 0 from if_neg (by omega)]
  have hlow : ∀ a, a < 64 → h.2.1 a = jy_ct xs a := fun a ha => by
    rw [hI a (by omega) (by omega), c4 a (by omega) (by omega) (by omega)]
    exact if_pos ha
  have no : ∀ {k : Nat} {p : Prop}, k < 0 → p := fun hk => absurd hk (Nat.not_lt_zero _)
  refine ⟨s_anew_g jt_0_ok (fun _ => by show 0 < 256; omega) (Nat.le_refl _) (Nat.le_refl _), ?_, ?_, 69, 183, 82, 196, 199, 202, hL, ?_⟩
  · refine ⟨⟨⟨fun k hk => hz 209 (by omega) (by omega) (by omega) (by omega) (by omega) (by omega) k, fun g hg => no hg, fun g hg => no hg, fun g hg => no hg, fun g j hg _ => no hg, fun g j hg _ => no hg, fun g j hg _ => no hg⟩, Or.inl ⟨z205 25 (by omega), rfl⟩, z205 44 (by omega)⟩, fun k hk => ?_, ⟨z205 39 (by omega), fun k j hk _ => no hk⟩, ⟨z205 40 (by omega), fun i hi => no hi⟩, ⟨z205 42 (by omega), fun i hi => no hi⟩, ⟨z205 1 (by omega), ?_, fun k hk => no hk⟩, z205 41 (by omega), hz 207 (by omega) (by omega) (by omega) (by omega) (by omega) (by omega) 0, hz 207 (by omega) (by omega) (by omega) (by omega) (by omega) (by omega) 1⟩
    · rw [jt_0_r]; exact hz 691 (by omega) (by omega) (by omega) (by omega) (by omega) (by omega) k
    · rw [h205, jV_eq]; rfl
  · have e63 := i_low hB (a := 63) (by omega)
    rw [show jy_k L 63 = (30, L) from (if_neg (by omega)).trans (if_neg (by omega))] at e63
    have hlen := jB_len hB
    refine ⟨⟨by unfold jl_kd; rw [e63]; rfl, by unfold jl_ln; rw [e63]; rfl, fun k => ?_⟩, ⟨jB_kd (kk := 1) hB (by omega) (by omega) (by decide +kernel), jB_ln (k := 23) hB (by omega) (by omega) (by decide +kernel)⟩, by omega, by omega, by omega⟩
    rw [hlow 63 (by omega)]
    exact if_neg (by omega)
  · refine ⟨⟨?_, jCL_cg (fun a ha => hI a (by omega) (by omega)) c1⟩, ⟨⟨?_, fun w hw => ?_, fun w hw => ?_, fun g hg => ?_, fun g k hg hk => ?_⟩, hz 85 (by omega) (by omega) (by omega) (by omega) (by omega) (by omega) 3, Or.inl (hz 85 (by omega) (by omega) (by omega) (by omega) (by omega) (by omega) 4)⟩, jCB_cg (fun a ha => hI a (by omega) (by omega)) c2, ⟨hz 106 (by omega) (by omega) (by omega) (by omega) (by omega) (by omega) 1, fun i hi => no hi⟩, ⟨hz 64 (by omega) (by omega) (by omega) (by omega) (by omega) (by omega) 14, fun i hi => no hi⟩, ⟨?_, ?_, fun k hk => no hk⟩, ⟨hz 64 (by omega) (by omega) (by omega) (by omega) (by omega) (by omega) 15, hz 64 (by omega) (by omega) (by omega) (by omega) (by omega) (by omega) 16, hz 64 (by omega) (by omega) (by omega) (by omega) (by omega) (by omega) 17⟩, i_str hB hlow⟩
    · have z := hz 69 (by omega) (by omega) (by omega) (by omega) (by omega) (by omega)
      exact ⟨z 0, z 1, z 2, z 3, z 4, z 5, fun k hk => no hk, fun k hk => no hk, fun k hk => no hk, fun k hk => no hk, fun k hk => no hk, fun k hk => no hk, fun k hk => no hk, fun k hk => no hk, fun k hk => no hk, fun k hk => no hk, fun k hk => no hk, fun k hk => no hk⟩
    · rw [jt_0_r]; exact hz 86 (by omega) (by omega) (by omega) (by omega) (by omega) (by omega) _
    · rw [jt_0_r]; exact hz 86 (by omega) (by omega) (by omega) (by omega) (by omega) (by omega) _
    · rw [jt_0_r]; exact hz 86 (by omega) (by omega) (by omega) (by omega) (by omega) (by omega) _
    · rw [jt_0_r]; exact hz 86 (by omega) (by omega) (by omega) (by omega) (by omega) (by omega) _
    · rw [jt_0_r] at hk; exact no hk
    · rw [h65, jV_ne (by omega)]; rfl
    · rw [h65, jV_eq]; rfl
theorem jX_sum : (jh_X.map (fun q => q.2)).sum ≤ 7000000 := by decide +kernel
theorem i_law (hL : L ≤ 3072) : jW (F_Chk_law2 63 (jy_h L xs)) (fun q => q.1 = 1 ∧ q.2.1.length ≤ 1230 ∧ jl_sl q.2 ≤ jl_sl (jy_h L xs) + 7100000) := by
  have hB := jB_0 (L := L) (xs := xs)
  unfold F_Chk_law2
  refine b_nw (A := 64) hB (by decide +kernel) (by decide) rfl (fun h hB => ?_)
  refine b_kd (kk := 18) hB (by decide +kernel) ⟨by decide, by decide⟩ ?_
  refine jW_bd (i_SG hB (fun h J' c1 c2 c3 c4 hB => ?_))
  refine b_nw (A := 205) hB (by decide +kernel) (by decide) rfl (fun h hB => ?_)
  refine b_kd (kk := 53) hB (by decide +kernel) ⟨by decide, by decide⟩ ?_
  refine jW_bd (i_Mod hB (fun h hB => ?_))
  have hI : ∀ a, a < 717 → ¬ a = 205 → h.2.1 a = J' a := fun a h1 h2 => by rw [hB.2.2.1 a h1, jU_ne h2]
  have hz : ∀ a, 204 ≤ a → a < 717 → ¬ a = 205 → ∀ j, h.2.1 a j = nI 0 := fun a h0 h1 h2 j => by
    rw [hI a h1 h2, c4 a (by omega) (by omega) (by omega), show jJ0 xs a = fun _ => 0 from if_neg (by omega)]
    rfl
  have hp : ∀ q ∈ jb_P2, h.2.2.1 q.1 q.2.1 = some q.2.2 := fun q hq => (hB.2.2.2.2.1 q hq).2
  refine i_anew (h := h) (J := h.2.1) (jB_kd (kk := 53) hB (by omega) (by omega) (by decide +kernel)) (hp (205, 11, 208) (by decide +kernel)) (hp (205, 12, 209) (by decide +kernel)) (hp (205, 19, 216) (by decide +kernel)) (hp (205, 20, 223) (by decide +kernel)) (hp (205, 21, 230) (by decide +kernel)) (hp (205, 22, 241) (by decide +kernel)) (hp (205, 23, 252) (by decide +kernel)) (hp (205, 24, 259) (by decide +kernel)) (hp (205, 35, 691) (by decide +kernel)) (jB_kd (kk := 6) hB (by omega) (by omega) (by decide +kernel)) (jB_ln (k := 20) hB (by omega) (by omega) (by decide +kernel)) (jB_kd (kk := 6) hB (by omega) (by omega) (by decide +kernel)) (jB_ln (k := 20) hB (by omega) (by omega) (by decide +kernel)) (jB_kd (kk := 134) hB (by omega) (by omega) (by decide +kernel)) (jB_ln (k := 20) hB (by omega) (by omega) (by decide +kernel)) (fun f hf => ?_) (fun f _ => hz 208 (by omega) (by omega) (by omega) f) (fun f _ => hz 209 (by omega) (by omega) (by omega) f) (fun f _ => hz 691 (by omega) (by omega) (by omega) f) ?_
  · rw [hB.2.2.1 205 (by omega), jU_eq, c4 205 (by omega) (by omega) (by omega), show jJ0 xs 205 = fun _ => 0 from if_neg (by omega), jV_ne hf]
    rfl
  show jW (jf_na h 23 (1 : Int32) fun v7 h8 => F_Chk_law2_l23 jF 63 64 205 v7 (0 : Int32) h8) _
  refine b_na (k := 1) (A := 717) hB (by decide +kernel) (by decide) rfl (by decide +kernel) (fun h hB => ?_)
  have hX := i_inv hB c1 c2 c3 c4
  obtain ⟨q, e, q1, q2, q3⟩ := x_all hL 512 0 0 _ h h.2.1 (by omega) (by omega) hX jF (by show 512 < 1000; omega)
  refine ⟨q, e, q1, by omega, ?_⟩
  have hs : jl_sl h ≤ jl_sl (jy_h L xs) + 7000000 := by
    have := jX_sum
    unfold jl_sl
    rw [hB.1, List.map_append, List.sum_append, List.take_of_length_le (by rw [jX_len]; decide)]
    show _ ≤ ((jy_kd L).map (fun q => q.2)).sum + 7000000
    omega
  omega
theorem i_goal (hL : L ≤ 3072) : jy_Goal L xs := by
  obtain ⟨q, e, q1, q2, q3⟩ := i_law (xs := xs) hL
  obtain ⟨x, h'⟩ := q
  have q1 : x = 1 := q1
  subst q1
  have q2 : h'.1.length ≤ 1230 := q2
  have q3 : jl_sl h' ≤ jl_sl (jy_h L xs) + 7100000 := q3
  exact ⟨201, h', by omega, F_Chk_law2_ok (d := 202) (Nat.le_refl _) e, by omega, by omega⟩
end

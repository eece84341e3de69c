/-! PLAIN LEAN, 7: rows that change -/
def nV (r : JRw) (k v : Nat) : JRw := fun j => if j = k then v else r j
theorem nV_eq {r : JRw} {k v : Nat} : nV r k v k = v := if_pos rfl
theorem nV_ne {r : JRw} {k v j : Nat} (h : ¬ j = k) : nV r k v j = r j := if_neg h
def s_can (r : JRw) (g w : Nat) : Bool := decide (¬ r (117 + w) = 0 ∧ ¬ r (108 + g) = 6)
def s_lay (τ : JTn) (r : JRw) (g w : Nat) : JRw := nV (nV (nV (nV r (6 * g + r (108 + g)) w) (54 + (6 * g + r (108 + g))) (τ 3 w)) (108 + g) (r (108 + g) + 1)) (117 + w) (r (117 + w) - 1)
def s_layd (τ : JTn) (r : JRw) (g w : Nat) : JRw := if s_can r g w = true then s_lay τ r g w else r
/-- logs kept on a fire; what they are -/
def s_bn (r : JRw) (g : Nat) : Nat → Nat
  | 0 => 0
  | k + 1 => s_bn r g k + (if 1 < r (54 + (6 * g + k)) then 1 else 0)
def s_bx (r : JRw) (g : Nat) (v : Nat → Nat) : Nat → Nat → Nat
  | 0 => fun _ => 0
  | k + 1 => if 1 < r (54 + (6 * g + k)) then nV (s_bx r g v k) (s_bn r g k) (v k) else s_bx r g v k
def s_burn (r : JRw) (g : Nat) : JRw := fun i => if i = 108 + g then s_bn r g (r (108 + g)) else if 6 * g ≤ i ∧ i < 6 * g + 6 then s_bx r g (fun k => r (6 * g + k)) (r (108 + g)) (i - 6 * g) else if 54 + 6 * g ≤ i ∧ i < 54 + 6 * g + 6 then s_bx r g (fun k => r (54 + (6 * g + k)) - 1) (r (108 + g)) (i - (54 + 6 * g)) else r i
def s_burns (r : JRw) : Nat → JRw
  | 0 => r
  | n + 1 => s_burn (s_burns r n) n
def s_cm1 (τ : JTn) (p : Bool) (q : JRw) (c : Nat) : JRw := if p = true then nV q (123 + c) 2 else if 0 < τ 0 1 then nV (nV q (123 + c) 1) 117 (if 99 < q 117 + τ 11 c then 99 else q 117 + τ 11 c) else nV q (123 + c) 1
def s_cm (τ : JTn) (p : Nat → Bool) (r : JRw) : Nat → JRw
  | 0 => r
  | c + 1 => if τ 10 c = r 133 then s_cm1 τ (p (τ 9 c)) (s_cm τ p r c) c else s_cm τ p r c
def s_hour (τ : JTn) (ω : JLw) (d : Bool) (r : JRw) : JRw := nV (s_burns (s_cm τ (s_sh τ ω d r) r (τ 0 2)) (τ 0 0)) 133 (r 133 + 1)
section
variable {τ : JTn} {r q : JRw} {g w : Nat} {p : Nat → Bool} {v : Nat → Nat}
theorem s_bn_le : ∀ k, s_bn r g k ≤ k
  | 0 => Nat.le_refl 0
  | k + 1 => by
    have := s_bn_le k
    show s_bn r g k + (if _ then 1 else 0) ≤ k + 1
    split <;> omega
theorem s_bx_0 : ∀ k j, s_bn r g k ≤ j → s_bx r g v k j = 0
  | 0, _, _ => rfl
  | k + 1, j, hj => by
    have hj : s_bn r g k + (if 1 < r (54 + (6 * g + k)) then 1 else 0) ≤ j := hj
    show (if 1 < r (54 + (6 * g + k)) then nV (s_bx r g v k) (s_bn r g k) (v k) else s_bx r g v k) j = 0
    by_cases hc : 1 < r (54 + (6 * g + k))
    · rw [if_pos hc] at hj ⊢
      rw [nV_ne (by omega)]
      exact s_bx_0 k j (by omega)
    · rw [if_neg hc] at hj ⊢
      exact s_bx_0 k j (by omega)
theorem s_bx_ex : ∀ k j, j < s_bn r g k → ∃ i, i < k ∧ 1 < r (54 + (6 * g + i)) ∧ ∀ v : Nat → Nat, s_bx r g v k j = v i
  | 0, j, h => absurd h (Nat.not_lt_zero j)
  | k + 1, j, h => by
    have h : j < s_bn r g k + (if 1 < r (54 + (6 * g + k)) then 1 else 0) := h
    have e : ∀ v : Nat → Nat, s_bx r g v (k + 1) j = (if 1 < r (54 + (6 * g + k)) then nV (s_bx r g v k) (s_bn r g k) (v k) else s_bx r g v k) j := fun v => rfl
    by_cases hc : 1 < r (54 + (6 * g + k))
    · rw [if_pos hc] at h
      by_cases hj : j = s_bn r g k
      · exact ⟨k, by omega, hc, fun v => by rw [e, if_pos hc, hj, nV_eq]⟩
      · obtain ⟨i, h1, h2, h3⟩ := s_bx_ex k j (by omega)
        exact ⟨i, by omega, h2, fun v => by rw [e, if_pos hc, nV_ne hj, h3]⟩
    · rw [if_neg hc] at h
      obtain ⟨i, h1, h2, h3⟩ := s_bx_ex k j (by omega)
      exact ⟨i, by omega, h2, fun v => by rw [e, if_neg hc, h3]⟩
theorem s_lay_ok (ho : jTOK τ) (hr : jROK τ r) (hg : g < 9) (hw : w < τ 0 1) (hc : s_can r g w = true) : jROK τ (s_lay τ r g w) := by
  obtain ⟨c1, c2⟩ := of_decide_eq_true hc
  obtain ⟨h1, h2, h3, h4, h5⟩ := hr
  have o1 : τ 0 1 ≤ 6 := ho.2.1
  have b1 := h1 g hg
  have b3 := h3 w (by omega)
  have b9 := ho.2.2.2.2.2.2.2.1 w hw
  unfold s_lay
  refine ⟨fun x hx => ?_, fun x k hx hk => ?_, fun x hx => ?_, fun x hx => ?_, fun k hk => ?_⟩
  · rw [nV_ne (by omega)]
    by_cases hxg : x = g
    · rw [hxg, nV_eq]; omega
    · rw [nV_ne (by omega), nV_ne (by omega), nV_ne (by omega)]; exact h1 x hx
  · have b1x := h1 x hx
    by_cases hxg : x = g
    · subst hxg
      simp (disch := omega) only [nV_ne, nV_eq] at hk
      by_cases hk2 : k = r (108 + x)
      · subst hk2
        simp (disch := omega) only [nV_ne, nV_eq]; omega
      · simp (disch := omega) only [nV_ne]; exact h2 x k hx (by omega)
    · simp (disch := omega) only [nV_ne] at hk
      simp (disch := omega) only [nV_ne]
      exact h2 x k hx hk
  · by_cases hxw : x = w
    · rw [hxw, nV_eq]; omega
    · rw [nV_ne (by omega), nV_ne (by omega), nV_ne (by omega), nV_ne (by omega)]; exact h3 x hx
  · rw [nV_ne (by omega), nV_ne (by omega), nV_ne (by omega), nV_ne (by omega)]; exact h4 x hx
  · have := h5 k hk
    unfold nV
    split
    · omega
    · split
      · omega
      · split
        · omega
        · split <;> omega
theorem s_layd_ok (ho : jTOK τ) (hr : jROK τ r) (hg : g < 9) (hw : w < τ 0 1) : jROK τ (s_layd τ r g w) := by
  unfold s_layd
  split
  · exact s_lay_ok ho hr hg hw ‹_›
  · exact hr
theorem s_douse_ok (hr : jROK τ r) (hg : g < 9) : jROK τ (nV r (108 + g) 0) := by
  obtain ⟨h1, h2, h3, h4, h5⟩ := hr
  refine ⟨fun x hx => ?_, fun x k hx hk => ?_, fun x hx => ?_, fun x hx => ?_, fun k hk => ?_⟩
  · by_cases hxg : x = g
    · rw [hxg, nV_eq]; omega
    · rw [nV_ne (by omega)]; exact h1 x hx
  · by_cases hxg : x = g
    · rw [hxg, nV_eq] at hk; omega
    · rw [nV_ne (by omega)] at hk
      have := h1 x hx
      rw [nV_ne (by omega), nV_ne (by omega)]; exact h2 x k hx hk
  · rw [nV_ne (by omega)]; exact h3 x hx
  · rw [nV_ne (by omega)]; exact h4 x hx
  · unfold nV
    split
    · omega
    · exact h5 k hk
theorem s_burn_out {i : Nat} (h1 : ¬ i = 108 + g) (h2 : ¬ (6 * g ≤ i ∧ i < 6 * g + 6)) (h3 : ¬ (54 + 6 * g ≤ i ∧ i < 54 + 6 * g + 6)) : s_burn r g i = r i := by unfold s_burn; rw [if_neg h1, if_neg h2, if_neg h3]
theorem s_burn_n : s_burn r g (108 + g) = s_bn r g (r (108 + g)) := by unfold s_burn; rw [if_pos rfl]
theorem s_burn_w {j : Nat} (hg : g < 9) (hj : j < 6) : s_burn r g (6 * g + j) = s_bx r g (fun k => r (6 * g + k)) (r (108 + g)) j := by unfold s_burn; rw [if_neg (by omega), if_pos (by omega), Nat.add_sub_cancel_left]
theorem s_burn_l {j : Nat} (hg : g < 9) (hj : j < 6) : s_burn r g (54 + (6 * g + j)) = s_bx r g (fun k => r (54 + (6 * g + k)) - 1) (r (108 + g)) j := by
  unfold s_burn
  rw [if_neg (by omega), if_neg (by omega), if_pos (by omega)]
  congr 1
  omega
theorem s_burn_ok (hr : jROK τ r) (hg : g < 9) : jROK τ (s_burn r g) := by
  obtain ⟨h1, h2, h3, h4, h5⟩ := hr
  have b1 := h1 g hg
  have bn := s_bn_le (r := r) (g := g) (r (108 + g))
  refine ⟨fun x hx => ?_, fun x k hx hk => ?_, fun x hx => ?_, fun x hx => ?_, fun k hk => ?_⟩
  · by_cases hxg : x = g
    · subst hxg; rw [s_burn_n]; omega
    · rw [s_burn_out (by omega) (by omega) (by omega)]; exact h1 x hx
  · by_cases hxg : x = g
    · subst hxg
      rw [s_burn_n] at hk
      obtain ⟨i, i1, i2, i3⟩ := s_bx_ex _ _ hk
      rw [s_burn_w hx (by omega), s_burn_l hx (by omega), i3, i3]
      have := h2 x i hx i1
      omega
    · rw [s_burn_out (by omega) (by omega) (by omega)] at hk
      have := h1 x hx
      rw [s_burn_out (by omega) (by omega) (by omega), s_burn_out (by omega) (by omega) (by omega)]
      exact h2 x k hx hk
  · rw [s_burn_out (by omega) (by omega) (by omega)]; exact h3 x hx
  · rw [s_burn_out (by omega) (by omega) (by omega)]; exact h4 x hx
  · have key : ∀ (v : Nat → Nat) (j : Nat), (∀ i, i < r (108 + g) → v i < 100000) → s_bx r g v (r (108 + g)) j < 100000 := fun v j hv => by
      by_cases hj : j < s_bn r g (r (108 + g))
      · obtain ⟨i, i1, i2, i3⟩ := s_bx_ex _ _ hj
        rw [i3]
        exact hv i i1
      · rw [s_bx_0 _ _ (by omega)]; omega
    unfold s_burn
    split
    · omega
    · split
      · exact key _ _ (fun i hi => h5 _ (by omega))
      · split
        · exact key _ _ (fun i hi => by have := h5 (54 + (6 * g + i)) (by omega); omega)
        · exact h5 k hk
theorem s_burns_ok (hr : jROK τ r) : ∀ n, n ≤ 9 → jROK τ (s_burns r n)
  | 0, _ => hr
  | n + 1, h => s_burn_ok (s_burns_ok hr n (by omega)) (by omega)
theorem s_burns_hi : ∀ n i, n ≤ 9 → 117 ≤ i → s_burns r n i = r i
  | 0, _, _, _ => rfl
  | n + 1, i, h, hi => by
    show s_burn (s_burns r n) n i = r i
    rw [s_burn_out (by omega) (by omega) (by omega)]
    exact s_burns_hi n i (by omega) hi
theorem s_cm1_out {p : Bool} {c i : Nat} (h1 : ¬ i = 117) (h2 : ¬ i = 123 + c) : s_cm1 τ p q c i = q i := by
  unfold s_cm1
  split
  · exact nV_ne h2
  · split
    · rw [nV_ne h1, nV_ne h2]
    · exact nV_ne h2
theorem s_cm1_117 {p : Bool} {c : Nat} : s_cm1 τ p q c 117 = if p = true then q 117 else if 0 < τ 0 1 then (if 99 < q 117 + τ 11 c then 99 else q 117 + τ 11 c) else q 117 := by
  unfold s_cm1
  by_cases hp : p = true
  · rw [if_pos hp, if_pos hp, nV_ne (by omega)]
  · rw [if_neg hp, if_neg hp]
    by_cases hw : 0 < τ 0 1
    · rw [if_pos hw, if_pos hw, nV_eq]
    · rw [if_neg hw, if_neg hw, nV_ne (by omega)]
theorem s_cm1_123 {p : Bool} {c : Nat} : s_cm1 τ p q c (123 + c) = if p = true then 2 else 1 := by
  unfold s_cm1
  by_cases hp : p = true
  · rw [if_pos hp, if_pos hp, nV_eq]
  · rw [if_neg hp, if_neg hp]
    by_cases hw : 0 < τ 0 1
    · rw [if_pos hw, nV_ne (by omega), nV_eq]
    · rw [if_neg hw, nV_eq]
theorem s_cm1_ok {p : Bool} {c : Nat} (hc : c < 10) (hr : jROK τ q) : jROK τ (s_cm1 τ p q c) := by
  obtain ⟨h1, h2, h3, h4, h5⟩ := hr
  have b0 : q 117 ≤ 99 := h3 0 (by omega)
  have b1 : s_cm1 τ p q c 117 ≤ 99 := by
    rw [s_cm1_117]
    split
    · exact b0
    · split
      · split <;> omega
      · exact b0
  have b2 : s_cm1 τ p q c (123 + c) ≤ 2 := by
    rw [s_cm1_123]
    split <;> omega
  refine ⟨fun x hx => ?_, fun x k hx hk => ?_, fun x hx => ?_, fun x hx => ?_, fun k hk => ?_⟩
  · rw [s_cm1_out (by omega) (by omega)]; exact h1 x hx
  · rw [s_cm1_out (by omega) (by omega)] at hk
    have := h1 x hx
    rw [s_cm1_out (by omega) (by omega), s_cm1_out (by omega) (by omega)]; exact h2 x k hx hk
  · by_cases hx0 : x = 0
    · subst hx0; exact b1
    · rw [s_cm1_out (by omega) (by omega)]; exact h3 x hx
  · by_cases hxc : x = c
    · subst hxc; exact b2
    · rw [s_cm1_out (by omega) (by omega)]; exact h4 x hx
  · by_cases hk1 : k = 117
    · rw [hk1]; omega
    · by_cases hk2 : k = 123 + c
      · rw [hk2]; omega
      · rw [s_cm1_out hk1 hk2]; exact h5 k hk
theorem s_cm_out : ∀ n i, ¬ i = 117 → (i < 123 ∨ 123 + n ≤ i) → s_cm τ p r n i = r i
  | 0, _, _, _ => rfl
  | c + 1, i, h1, h2 => by
    show (if τ 10 c = r 133 then s_cm1 τ (p (τ 9 c)) (s_cm τ p r c) c else s_cm τ p r c) i = r i
    split
    · rw [s_cm1_out h1 (by omega)]; exact s_cm_out c i h1 (by omega)
    · exact s_cm_out c i h1 (by omega)
theorem s_cm_ok (hr : jROK τ r) : ∀ n, n ≤ 10 → jROK τ (s_cm τ p r n)
  | 0, _ => hr
  | c + 1, h => by
    show jROK τ (if τ 10 c = r 133 then s_cm1 τ (p (τ 9 c)) (s_cm τ p r c) c else s_cm τ p r c)
    split
    · exact s_cm1_ok (by omega) (s_cm_ok hr c (by omega))
    · exact s_cm_ok hr c (by omega)
theorem s_hour_133 {ω : JLw} {d : Bool} : s_hour τ ω d r 133 = r 133 + 1 := nV_eq
theorem s_hour_ok {ω : JLw} {d : Bool} (ho : jTOK τ) (hr : jROK τ r) (hh : r 133 < 99999) : jROK τ (s_hour τ ω d r) := by
  have o0 : τ 0 0 ≤ 9 := ho.1
  have o2 : τ 0 2 ≤ 10 := ho.2.2.1
  obtain ⟨h1, h2, h3, h4, h5⟩ := s_burns_ok (s_cm_ok (p := s_sh τ ω d r) hr (τ 0 2) o2) (τ 0 0) o0
  refine ⟨fun x hx => ?_, fun x k hx hk => ?_, fun x hx => ?_, fun x hx => ?_, fun k hk => ?_⟩
  · show nV _ _ _ _ ≤ 6; rw [nV_ne (by omega)]; exact h1 x hx
  · have hk : k < nV _ _ _ _ := hk
    rw [nV_ne (by omega)] at hk
    have := h1 x hx
    show nV _ _ _ _ < _ ∧ 1 ≤ nV _ _ _ _ ∧ nV _ _ _ _ ≤ 9
    rw [nV_ne (by omega), nV_ne (by omega)]; exact h2 x k hx hk
  · show nV _ _ _ _ ≤ 99; rw [nV_ne (by omega)]; exact h3 x hx
  · show nV _ _ _ _ ≤ 2; rw [nV_ne (by omega)]; exact h4 x hx
  · show nV _ _ _ _ < 100000
    by_cases hk2 : k = 133
    · rw [hk2, nV_eq]; omega
    · rw [nV_ne hk2]; exact h5 k hk
end

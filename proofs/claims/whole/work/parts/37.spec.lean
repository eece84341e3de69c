/-! PLAIN LEAN, 3: what is said of a town, a row, a law -/
theorem kn_sdm (a b : Nat) : nI a - nI (a / b * b) = nI (a % b) := by
  rw [kn_sub (Nat.div_mul_le_self a b)]
  congr 1
  have := Nat.div_add_mod' a b
  omega
theorem kn_nsdm (a b : Nat) : a - a / b * b = a % b := by
  have := Nat.div_add_mod' a b
  omega
/-- sums, ors, anys -/
def s_sum (f : Nat → Nat) : Nat → Nat
  | 0 => 0
  | n + 1 => s_sum f n + f n
def s_or (f : Nat → Nat) : Nat → Nat
  | 0 => 0
  | n + 1 => s_or f n ||| f n
def s_any (p : Nat → Bool) : Nat → Bool
  | 0 => false
  | n + 1 => s_any p n || p n
theorem s_sum_le {f : Nat → Nat} {c : Nat} : ∀ (n : Nat), (∀ k, k < n → f k ≤ c) → s_sum f n ≤ n * c
  | 0, _ => by show 0 ≤ 0 * c; omega
  | n + 1, h => by
    have h1 := s_sum_le n (fun k hk => h k (by omega))
    have h2 := h n (by omega)
    show s_sum f n + f n ≤ (n + 1) * c
    rw [Nat.add_mul]
    omega
theorem s_or_lt {f : Nat → Nat} {w : Nat} : ∀ (n : Nat), (∀ k, k < n → f k < 2 ^ w) → s_or f n < 2 ^ w
  | 0, _ => Nat.two_pow_pos w
  | n + 1, h => Nat.or_lt_two_pow (s_or_lt n (fun k hk => h k (by omega))) (h n (by omega))
theorem s_sum_congr {f g : Nat → Nat} : ∀ (n : Nat), (∀ k, k < n → f k = g k) → s_sum f n = s_sum g n
  | 0, _ => rfl
  | n + 1, h => by
    show s_sum f n + f n = s_sum g n + g n
    rw [s_sum_congr n (fun k hk => h k (by omega)), h n (by omega)]
theorem s_or_congr {f g : Nat → Nat} : ∀ (n : Nat), (∀ k, k < n → f k = g k) → s_or f n = s_or g n
  | 0, _ => rfl
  | n + 1, h => by
    show s_or f n ||| f n = s_or g n ||| g n
    rw [s_or_congr n (fun k hk => h k (by omega)), h n (by omega)]
theorem s_any_congr {f g : Nat → Bool} : ∀ (n : Nat), (∀ k, k < n → f k = g k) → s_any f n = s_any g n
  | 0, _ => rfl
  | n + 1, h => by
    show (s_any f n || f n) = (s_any g n || g n)
    rw [s_any_congr n (fun k hk => h k (by omega)), h n (by omega)]
theorem s_any_true {p : Nat → Bool} : ∀ {n : Nat}, s_any p n = true ↔ ∃ k, k < n ∧ p k = true
  | 0 => by
    show false = true ↔ _
    exact ⟨fun h => (by cases h), fun ⟨k, h, _⟩ => absurd h (Nat.not_lt_zero k)⟩
  | n + 1 => by
    show (s_any p n || p n) = true ↔ _
    rw [Bool.or_eq_true, s_any_true]
    constructor
    · rintro (⟨k, h1, h2⟩ | h)
      · exact ⟨k, by omega, h2⟩
      · exact ⟨n, by omega, h⟩
    · rintro ⟨k, h1, h2⟩
      rcases Nat.lt_or_eq_of_le (Nat.lt_succ_iff.mp h1) with h | h
      · exact Or.inl ⟨k, h, h2⟩
      · subst h; exact Or.inr h2
/-- a town: 0 how many (gates, woods, comers, signals, winds, rains), 1 leans, 2..5 woods' T H S N, 6 winds, 7 8 rains, 9 10 11 comers' G H N, 12 signals -/
abbrev JTn : Type := Nat → Nat → Nat
def jTOK (τ : JTn) : Prop := τ 0 0 ≤ 9 ∧ τ 0 1 ≤ 6 ∧ τ 0 2 ≤ 10 ∧ τ 0 3 ≤ 8 ∧ τ 0 4 ≤ 24 ∧ τ 0 5 ≤ 6 ∧ (∀ g, g < τ 0 0 → τ 1 g ≤ 3) ∧ (∀ w, w < τ 0 1 → 1 ≤ τ 2 w ∧ τ 2 w ≤ 20 ∧ 1 ≤ τ 3 w ∧ τ 3 w ≤ 9 ∧ τ 4 w ≤ 31 ∧ τ 5 w ≤ 40) ∧ (∀ k, k < τ 0 4 → τ 6 k ≤ 8) ∧ (∀ k, k < τ 0 5 → τ 7 k ≤ 99 ∧ τ 8 k ≤ 99) ∧ (∀ c, c < τ 0 2 → τ 9 c < τ 0 0 ∧ τ 10 c ≤ 99 ∧ τ 11 c ≤ 9) ∧ (∀ k, k < τ 0 3 → τ 12 k ≤ 511)
/-- the reference holds a town -/
def jMT (I : Nat → Nat → Int32) (τ : JTn) : Prop := (∀ k, k < 6 → I 209 k = nI (τ 0 k)) ∧ (∀ g, g < τ 0 0 → I 211 g = nI (τ 1 g)) ∧ (∀ k, k < τ 0 4 → I 213 k = nI (τ 6 k)) ∧ (∀ k, k < τ 0 3 → I 215 k = nI (τ 12 k)) ∧ (∀ w j, w < τ 0 1 → j < 4 → I (224 + w) j = nI (τ (2 + j) w)) ∧ (∀ c j, c < τ 0 2 → j < 3 → I (242 + c) j = nI (τ (9 + j) c)) ∧ (∀ k j, k < τ 0 5 → j < 2 → I (260 + k) j = nI (τ (7 + j) k))
theorem jMT_congr {I J : Nat → Nat → Int32} {τ : JTn} (h : ∀ a, 209 ≤ a → a < 266 → J a = I a) (ho : jTOK τ) (hT : jMT I τ) : jMT J τ := by
  obtain ⟨h1, h2, h3, h4, h5, h6, h7⟩ := hT
  obtain ⟨o0, o1, o2, o3, o4, o5, -⟩ := ho
  exact ⟨fun k hk => by rw [h 209 (by omega) (by omega)]; exact h1 k hk, fun k hk => by rw [h 211 (by omega) (by omega)]; exact h2 k hk, fun k hk => by rw [h 213 (by omega) (by omega)]; exact h3 k hk, fun k hk => by rw [h 215 (by omega) (by omega)]; exact h4 k hk, fun w j hw hj => by rw [h (224 + w) (by omega) (by omega)]; exact h5 w j hw hj, fun w j hw hj => by rw [h (242 + w) (by omega) (by omega)]; exact h6 w j hw hj, fun w j hw hj => by rw [h (260 + w) (by omega) (by omega)]; exact h7 w j hw hj⟩
/-- the class's town object at t holds a town -/
def jCT (I : Nat → Nat → Int32) (t : Nat) (τ : JTn) : Prop := I t 0 = nI (τ 0 0) ∧ I t 1 = nI (τ 0 1) ∧ I t 2 = nI (τ 0 4) ∧ I t 3 = nI (τ 0 5) ∧ I t 4 = nI (τ 0 2) ∧ I t 5 = nI (τ 0 3) ∧ (∀ k, k < τ 0 0 → I (t + 1) k = nI (τ 1 k)) ∧ (∀ k, k < τ 0 1 → I (t + 2) k = nI (τ 2 k)) ∧ (∀ k, k < τ 0 1 → I (t + 3) k = nI (τ 3 k)) ∧ (∀ k, k < τ 0 1 → I (t + 4) k = nI (τ 4 k)) ∧ (∀ k, k < τ 0 1 → I (t + 5) k = nI (τ 5 k)) ∧ (∀ k, k < τ 0 4 → I (t + 6) k = nI (τ 6 k)) ∧ (∀ k, k < τ 0 5 → I (t + 7) k = nI (τ 7 k)) ∧ (∀ k, k < τ 0 5 → I (t + 8) k = nI (τ 8 k)) ∧ (∀ k, k < τ 0 2 → I (t + 9) k = nI (τ 9 k)) ∧ (∀ k, k < τ 0 2 → I (t + 10) k = nI (τ 10 k)) ∧ (∀ k, k < τ 0 2 → I (t + 11) k = nI (τ 11 k)) ∧ (∀ k, k < τ 0 3 → I (t + 12) k = nI (τ 12 k))
theorem jCT_congr {I J : Nat → Nat → Int32} {t : Nat} {τ : JTn} (h : ∀ i, i < 13 → J (t + i) = I (t + i)) (hT : jCT I t τ) : jCT J t τ := by
  have h0 : J t = I t := h 0 (by omega)
  unfold jCT at hT ⊢
  rw [h0, h 1 (by omega), h 2 (by omega), h 3 (by omega), h 4 (by omega), h 5 (by omega), h 6 (by omega), h 7 (by omega), h 8 (by omega), h 9 (by omega), h 10 (by omega), h 11 (by omega), h 12 (by omega)]
  exact hT
/-- a row: 0 woods, 54 hours left, 108 how many, 117 stored, 123 came, 133 the hour -/
abbrev JRw : Type := Nat → Nat
def jROK (τ : JTn) (r : JRw) : Prop := (∀ g, g < 9 → r (108 + g) ≤ 6) ∧ (∀ g k, g < 9 → k < r (108 + g) → r (6 * g + k) < τ 0 1 ∧ 1 ≤ r (54 + (6 * g + k)) ∧ r (54 + (6 * g + k)) ≤ 9) ∧ (∀ w, w < 6 → r (117 + w) ≤ 99) ∧ (∀ c, c < 10 → r (123 + c) ≤ 2) ∧ (∀ k, k < 134 → r k < 100000)
def jMR (I : Nat → Nat → Int32) (ρ : Nat) (r : JRw) : Prop := ∀ k, k < 134 → I ρ k = nI (r k)
/-- the class's row at ρ: alike where a log burns -/
def jCR (I : Nat → Nat → Int32) (ρ : Nat) (r : JRw) : Prop := I ρ 0 = nI (r 133) ∧ (∀ w, w < 6 → I ρ (1 + w) = nI (r (117 + w))) ∧ (∀ c, c < 10 → I ρ (7 + c) = nI (r (123 + c))) ∧ (∀ g, g < 9 → I ρ (17 + g) = nI (r (108 + g))) ∧ (∀ g k, g < 9 → k < r (108 + g) → I ρ (26 + (6 * g + k)) = nI (r (6 * g + k)) ∧ I ρ (80 + (6 * g + k)) = nI (r (54 + (6 * g + k))))
/-- a law: how many steps; of each what (0 a number, 1 known, 2.. joined) and v -/
abbrev JLw : Type := Nat × (Nat → Nat → Nat)
/-- how high the stack is ahead of step k -/
def s_dep (f : Nat → Nat → Nat) : Nat → Nat
  | 0 => 0
  | k + 1 => if f k 0 < 2 then s_dep f k + 1 else s_dep f k - 1
def jLOK (ω : JLw) : Prop := 1 ≤ ω.1 ∧ ω.1 ≤ 150 ∧ (∀ k, k < ω.1 → ω.2 k 0 ≤ 7 ∧ (ω.2 k 0 = 0 → ω.2 k 1 ≤ 999) ∧ (ω.2 k 0 = 1 → ω.2 k 1 < 7) ∧ (2 ≤ ω.2 k 0 → 2 ≤ s_dep ω.2 k))
def s_by (w : Nat) (u v : Int32) : Int32 := if w = 2 then u + v else if w = 3 then u - v else if w = 4 then u * v else if w = 5 then (if v = 0 then 0 else u / v) else if w = 6 then (if u < v then u else v) else (if v < u then u else v)
def s_ev (f : Nat → Nat → Nat) (kn : Nat → Int32) : Nat → Nat → Int32
  | 0 => fun _ => 0
  | k + 1 => if f k 0 < 2 then jV (s_ev f kn k) (s_dep f k) (if f k 0 = 0 then nI (f k 1) else kn (f k 1)) else jV (s_ev f kn k) (s_dep f k - 2) (s_by (f k 0) (s_ev f kn k (s_dep f k - 2)) (s_ev f kn k (s_dep f k - 1)))
def s_plain : JLw := (3, fun k j => if k = 0 then (if j = 0 then 1 else 0) else if k = 1 then (if j = 0 then 0 else 9) else (if j = 0 then 3 else 0))
def jML (I : Nat → Nat → Int32) (ω : JLw) : Prop := (I 205 25 = nI 0 ∧ ω = s_plain) ∨ (I 205 25 = nI ω.1 ∧ 1 ≤ ω.1 ∧ ∀ k j, k < ω.1 → j < 2 → I (267 + k) j = nI (ω.2 k j))
/-- the class's number for a step of a law -/
def s_code (w v : Nat) : Int32 := if w = 0 then nI v else if w = 1 then -nI 1 - nI v else -nI 9 - nI w
def jCL (I : Nat → Nat → Int32) (l : Nat) (ω : JLw) : Prop := I l 2 = nI ω.1 ∧ ∀ k, k < ω.1 → I (l + 1) k = s_code (ω.2 k 0) (ω.2 k 1)
/-- what stands where -/
def s_wind (τ : JTn) (hr : Nat) : Nat := if τ 0 4 = 0 then 0 else τ 6 (hr % τ 0 4)
def s_rain (τ : JTn) (d : Bool) (hr : Nat) : Bool := s_any (fun k => decide (τ 7 k ≤ hr ∧ hr ≤ τ 8 k)) (τ 0 5) || d
def s_stl (τ : JTn) (r : JRw) (g l : Nat) : Nat := (g + l + s_wind τ (r 133)) % τ 0 0
def s_st (τ : JTn) (r : JRw) (g : Nat) : Nat := s_stl τ r g (τ 1 g)
def s_th (τ : JTn) (d : Bool) (r : JRw) (w : Nat) : Nat := τ 2 w / (if s_rain τ d (r 133) = true then 2 else 1)
def s_smf (τ : JTn) (d : Bool) (r : JRw) (g : Nat) : Nat := s_sum (fun k => s_th τ d r (r (6 * g + k))) (r (108 + g))
def s_sma (τ : JTn) (d : Bool) (r : JRw) (g : Nat) : Nat := s_sum (fun x => if s_st τ r x = g then s_smf τ d r x else 0) (τ 0 0)
def s_scx (τ : JTn) (r : JRw) (g x : Nat) : Nat := s_or (fun k => if s_st τ r x = g then τ 4 (r (6 * x + k)) else 0) (r (108 + x))
def s_sca (τ : JTn) (r : JRw) (g : Nat) : Nat := s_or (s_scx τ r g) (τ 0 0)
def s_kn (τ : JTn) (d : Bool) (r : JRw) (g sm lg : Nat) (j : Nat) : Int32 := if j = 0 then nI sm else if j = 1 then nI lg else if j = 2 then nI (s_wind τ (r 133)) else if j = 3 then nB (s_rain τ d (r 133)) else if j = 4 then nI (r 133 % 24) else if j = 5 then nI g else nI (s_sca τ r g)
def s_shb (τ : JTn) (ω : JLw) (d : Bool) (r : JRw) (g sm lg : Nat) : Bool := decide (0 < s_ev ω.2 (s_kn τ d r g sm lg) ω.1 0)
def s_sh (τ : JTn) (ω : JLw) (d : Bool) (r : JRw) (g : Nat) : Bool := s_shb τ ω d r g (s_sma τ d r g) (r (108 + g))

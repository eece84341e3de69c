/-! PLAIN LEAN, 1: small numbers; the pieces where they go through; loops -/
theorem jn_lit (n : Nat) : (OfNat.ofNat n : Int32) = Int32.ofNat (OfNat.ofNat n) := rfl
theorem jn_add (a b : Nat) : Int32.ofNat a + Int32.ofNat b = Int32.ofNat (a + b) := (Int32.ofNat_add a b).symm
theorem jn_mul (a b : Nat) : Int32.ofNat a * Int32.ofNat b = Int32.ofNat (a * b) := (Int32.ofNat_mul a b).symm
theorem jn_sub {a b : Nat} (h : b ≤ a) : Int32.ofNat a - Int32.ofNat b = Int32.ofNat (a - b) := (Int32.ofNat_sub a b h).symm
theorem jn_div {a b : Nat} (ha : a < 2147483648) (hb : b < 2147483648) : Int32.ofNat a / Int32.ofNat b = Int32.ofNat (a / b) := (Int32.ofNat_div ha hb).symm
theorem jn_rem {a b : Nat} (ha : a < 2147483648) (hb : b < 2147483648) : Int32.ofNat a - Int32.ofNat a / Int32.ofNat b * Int32.ofNat b = Int32.ofNat (a % b) := by
  rw [jn_div ha hb, jn_mul, jn_sub (Nat.div_mul_le_self a b)]
  congr 1
  have := Nat.div_add_mod' a b
  omega
theorem jn_lt {a b : Nat} (ha : a < 2147483648) (hb : b < 2147483648) : (Int32.ofNat a < Int32.ofNat b) = (a < b) := propext (Int32.ofNat_lt_iff_lt ha hb)
theorem jn_le {a b : Nat} (ha : a < 2147483648) (hb : b < 2147483648) : (Int32.ofNat a ≤ Int32.ofNat b) = (a ≤ b) := propext (Int32.ofNat_le_iff_le ha hb)
theorem jn_eq {a b : Nat} (ha : a < 2147483648) (hb : b < 2147483648) : (Int32.ofNat a = Int32.ofNat b) = (a = b) := propext ⟨fun h => by
  have := congrArg Int32.toNatClampNeg h
  rwa [Int32.toNatClampNeg_ofNat_of_lt ha, Int32.toNatClampNeg_ofNat_of_lt hb] at this, fun h => by rw [h]⟩
theorem jn_tn {a : Nat} (ha : a < 2147483648) : (Int32.ofNat a).toNatClampNeg = a := Int32.toNatClampNeg_ofNat_of_lt ha
theorem jn_neg {a : Nat} (ha : a < 2147483648) : (Int32.ofNat a < 0) = False := by
  rw [jn_lit, jn_lt ha (by decide)]
  simp
theorem jn_neg' {a : Nat} (ha : a < 2147483648) : ¬ (Int32.ofNat a < 0) := by rw [jn_neg ha]; exact id
theorem jn_in {i n : Nat} (hi : i < 2147483648) : jl_in (Int32.ofNat i) n = decide (i < n) := by
  unfold jl_in
  rw [jn_tn hi]
  simp only [jn_neg hi, not_false_eq_true, decide_true, Bool.true_and]
/-- -1 is below all -/
theorem jn_m1 {a : Nat} (ha : a < 2147483648) : (Int32.ofNat a = (-1 : Int32)) = False := by
  refine propext ⟨fun h => ?_, False.elim⟩
  have := congrArg Int32.toInt h
  rw [Int32.toInt_ofNat_of_lt ha] at this
  have h2 : (-1 : Int32).toInt = -1 := by decide
  omega
section JQ
variable {Q : Type} {h : LH} {a b ci k rk n i : Nat} {x : Int32}
def jz_I (h : LH) (I : Nat → Nat → Int32) : LH := (h.1, I, h.2.2.1, h.2.2.2)
theorem jz_setI : jl_setI h a k x = jz_I h (fun b j => if b = a ∧ j = k then x else h.2.1 b j) := rfl
theorem jz_II {I J : Nat → Nat → Int32} : jz_I (jz_I h I) J = jz_I h J := rfl
theorem jz_I1 {I : Nat → Nat → Int32} : (jz_I h I).2.1 = I := rfl
theorem jz_Ik {I : Nat → Nat → Int32} : jl_kd (jz_I h I) a = jl_kd h a := rfl
theorem jz_Il {I : Nat → Nat → Int32} : jl_ln (jz_I h I) a = jl_ln h a := rfl
theorem jz_Ip {I : Nat → Nat → Int32} : (jz_I h I).2.2.1 = h.2.2.1 := rfl
theorem jz_Iid : jz_I h h.2.1 = h := rfl
theorem jz_sk : jl_kd (jl_setI h b k x) a = jl_kd h a := rfl
theorem jz_sl : jl_ln (jl_setI h b k x) a = jl_ln h a := rfl
theorem jz_sp : (jl_setI h b k x).2.2.1 = h.2.2.1 := rfl
theorem jz_s1 {c j : Nat} : (jl_setI h b k x).2.1 c j = if c = b ∧ j = k then x else h.2.1 c j := rfl
theorem jq_gi {K : Int32 → Option Q} (hk : jl_kd h a = ci) : jf_gi h a ci k K = K (h.2.1 a k) := if_pos hk
theorem jq_gr {K : Nat → Option Q} (hk : jl_kd h a = ci) (hp : h.2.2.1 a k = some b) : jf_gr h a ci k K = K b := by unfold jf_gr; rw [if_pos hk, hp]; rfl
theorem jq_pi {K : LH → Option Q} (hk : jl_kd h a = ci) (ha : 64 ≤ a) : jf_pi h a ci k x K = K (jl_setI h a k x) := if_pos ⟨hk, ha⟩
theorem jq_pz {K : LH → Option Q} (hk : jl_kd h a = ci) (ha : 64 ≤ a) (hx : x = 0 ∨ x = 1) : jf_pz h a ci k x K = K (jl_setI h a k x) := if_pos ⟨⟨hk, ha⟩, hx⟩
theorem jq_pr {K : LH → Option Q} (hk : jl_kd h a = ci) (ha : 64 ≤ a) : jf_pr h a ci k b K = K (jl_setP h a k (some b)) := if_pos ⟨hk, ha⟩
theorem jq_ia {K : Int32 → Option Q} (hk : jl_kd h a = 20) (hi : i < jl_ln h a) (h9 : i < 2147483648) : jf_ia h a (Int32.ofNat i) K = K (h.2.1 a i) := by
  unfold jf_ia
  rw [jn_in h9, if_pos ⟨Or.inl hk, decide_eq_true hi⟩, jn_tn h9]
theorem jq_ba {K : Int32 → Option Q} (hk : jl_kd h a = 21 ∨ jl_kd h a = 22 ∨ jl_kd h a = 32) (hi : i < jl_ln h a) (h9 : i < 2147483648) : jf_ba h a (Int32.ofNat i) K = K (h.2.1 a i) := by
  unfold jf_ba
  rw [jn_in h9, if_pos ⟨hk, decide_eq_true hi⟩, jn_tn h9]
theorem jq_aa {K : Nat → Option Q} (hk : jl_kd h a = 24 ∨ jl_kd h a = 25) (hi : i < jl_ln h a) (h9 : i < 2147483648) (hp : h.2.2.1 a i = some b) : jf_aa h a (Int32.ofNat i) K = K b := by
  unfold jf_aa
  rw [jn_in h9, if_pos ⟨hk, decide_eq_true hi⟩, jn_tn h9, hp]
  rfl
theorem jq_is {K : LH → Option Q} (hk : jl_kd h a = 20) (ha : 64 ≤ a) (hi : i < jl_ln h a) (h9 : i < 2147483648) : jf_is h a (Int32.ofNat i) x K = K (jl_setI h a i x) := by
  unfold jf_is
  rw [jn_in h9, if_pos ⟨hk, ha, decide_eq_true hi⟩, jn_tn h9]
theorem jq_bsb {K : LH → Option Q} (hk : jl_kd h a = 21) (ha : 64 ≤ a) (hi : i < jl_ln h a) (h9 : i < 2147483648) : jf_bs h a (Int32.ofNat i) x K = K (jl_setI h a i (vp_nar .byte x)) := by
  unfold jf_bs
  rw [jn_in h9, if_pos ⟨hk, ha, decide_eq_true hi⟩, jn_tn h9]
theorem jq_bsz {K : LH → Option Q} (hk : jl_kd h a = 22) (ha : 64 ≤ a) (hi : i < jl_ln h a) (h9 : i < 2147483648) : jf_bs h a (Int32.ofNat i) x K = K (jl_setI h a i (vp_nar .boolean x)) := by
  unfold jf_bs
  rw [jn_in h9, if_neg (fun z => by have := z.1; omega), if_pos ⟨hk, ha, decide_eq_true hi⟩, jn_tn h9]
theorem jq_al {K : Int32 → Option Q} (hk : 20 ≤ jl_kd h a ∧ jl_kd h a ≤ 25) : jf_al h a K = K (Int32.ofNat (jl_ln h a)) := if_pos (Or.inl hk)
theorem jq_kd {X : Option Q} (hk : jl_kd h a = rk) : jf_kd h a rk X = X := if_pos hk
theorem jq_dv {y z : Int32} {K : Int32 → Option Q} (hy : ¬ y = 0) : jf_dv y z K = K z := if_neg hy
theorem jq_dvn {z : Int32} {K : Int32 → Option Q} (h0 : 0 < n) (h9 : n < 2147483648) : jf_dv (Int32.ofNat n) z K = K z := if_neg (by rw [jn_lit, jn_eq h9 (by decide)]; show ¬ n = 0; omega)
theorem jq_bi {x : Int32} {h1 : LH} {K : Int32 → LH → Option Q} : jf_bi (some (x, h1)) K = K x h1 := rfl
theorem jq_let {K : Int32 → Option Q} : jf_let x K = K x := rfl
theorem jq_rz0 {r : Option Q} : jf_rz 0 r = r := rfl
theorem jq_rz1 {r : Option Q} : jf_rz 1 r = r := rfl
theorem jq_rz {r : Option Q} (hx : x = 0 ∨ x = 1) : jf_rz x r = r := if_pos hx
theorem jq_ac {K : LH → Option Q} {sp dp : Nat} (hk : jl_kd h a = 20) (ha : 64 ≤ a) (hk2 : jl_kd h b = 20) (hb : 64 ≤ b) (hne : ¬ a = b) (h1 : sp < 2147483648) (h2 : dp < 2147483648) (h3 : n < 2147483648) (h4 : sp + n ≤ jl_ln h a) (h5 : dp + n ≤ jl_ln h b) : jf_ac h a (Int32.ofNat sp) b (Int32.ofNat dp) (Int32.ofNat n) K = K (jl_copy h a b sp dp n) := by
  unfold jf_ac
  rw [jn_tn h1, jn_tn h2, jn_tn h3, if_pos ⟨hk, ha, hk2, hb, hne, jn_neg' h3, jn_neg' h1, jn_neg' h2, h4, h5⟩]
end JQ
/-- a loop that counts up to N: either the turn decides, or it comes to the next turn -/
theorem jz_while {S R : Type} (f : Nat → Nat → S → R) (N : Nat) (P : Nat → S → Prop) (Post : R → Prop) (hs : ∀ n k s, k ≤ N → P k s → Post (f (n + 1) k s) ∨ (k < N ∧ ∃ s', P (k + 1) s' ∧ f (n + 1) k s = f n (k + 1) s')) : ∀ (fuel k : Nat) (s : S), k ≤ N → N - k < fuel → P k s → Post (f fuel k s)
  | 0, _, _, _, h, _ => absurd h (Nat.not_lt_zero _)
  | fuel + 1, k, s, hk, hf, hP => by
    rcases hs fuel k s hk hP with h | ⟨hl, s', hP', he⟩
    · exact h
    · rw [he]
      exact jz_while f N P Post hs fuel (k + 1) s' hl (by omega) hP'
/-- the same where the states at each turn are known -/
theorem jz_for {S R : Type} (f : Nat → Nat → S → R) (N : Nat) (st : Nat → S) (r : R) (hs : ∀ n k, k < N → f (n + 1) k (st k) = f n (k + 1) (st (k + 1))) (he : ∀ n, f (n + 1) N (st N) = r) (fuel : Nat) (hf : N < fuel) : f fuel 0 (st 0) = r :=
  jz_while f N (fun k s => s = st k) (fun z => z = r) (fun n k s hk hP => by
    subst hP
    rcases Nat.lt_or_eq_of_le hk with h | h
    · exact Or.inr ⟨h, _, rfl, hs n k h⟩
    · subst h
      exact Or.inl (he n)) fuel 0 _ (Nat.zero_le _) (by omega) rfl
theorem jF_lt {n : Nat} (h : n ≤ 999) : n < jF := by show n < 1000; omega
/-- sums, joinings, 'some', 'all', below n -/
def js_sum (f : Nat → Nat) : Nat → Nat
  | 0 => 0
  | n + 1 => js_sum f n + f n
def js_or (f : Nat → Nat) : Nat → Nat
  | 0 => 0
  | n + 1 => js_or f n ||| f n
def js_any (p : Nat → Bool) : Nat → Bool
  | 0 => false
  | n + 1 => js_any p n || p n
def js_bits (p : Nat → Bool) : Nat → Nat
  | 0 => 0
  | n + 1 => js_bits p n ||| (if p n = true then 2 ^ n else 0)
theorem js_sum_le {f : Nat → Nat} {m : Nat} : ∀ {n : Nat}, (∀ k, k < n → f k ≤ m) → js_sum f n ≤ m * n
  | 0, _ => Nat.le_refl _
  | n + 1, h => by
    have h1 := js_sum_le (fun k hk => h k (Nat.lt_succ_of_lt hk))
    have h2 := h n (Nat.lt_succ_self n)
    show js_sum f n + f n ≤ m * (n + 1)
    rw [Nat.mul_succ]
    omega
theorem js_sum_congr {f g : Nat → Nat} : ∀ {n : Nat}, (∀ k, k < n → f k = g k) → js_sum f n = js_sum g n
  | 0, _ => rfl
  | n + 1, h => by
    show js_sum f n + f n = js_sum g n + g n
    rw [js_sum_congr (fun k hk => h k (Nat.lt_succ_of_lt hk)), h n (Nat.lt_succ_self n)]
theorem js_or_congr {f g : Nat → Nat} : ∀ {n : Nat}, (∀ k, k < n → f k = g k) → js_or f n = js_or g n
  | 0, _ => rfl
  | n + 1, h => by
    show js_or f n ||| f n = js_or g n ||| g n
    rw [js_or_congr (fun k hk => h k (Nat.lt_succ_of_lt hk)), h n (Nat.lt_succ_self n)]
theorem js_or_lt {f : Nat → Nat} {b : Nat} : ∀ {n : Nat}, (∀ k, k < n → f k < 2 ^ b) → js_or f n < 2 ^ b
  | 0, _ => Nat.two_pow_pos b
  | n + 1, h => Nat.or_lt_two_pow (js_or_lt (fun k hk => h k (Nat.lt_succ_of_lt hk))) (h n (Nat.lt_succ_self n))
theorem jn_or (a b : Nat) : Int32.ofNat a ||| Int32.ofNat b = Int32.ofNat (a ||| b) := by
  apply Int32.toBitVec_inj.mp
  show BitVec.ofNat 32 a ||| BitVec.ofNat 32 b = BitVec.ofNat 32 (a ||| b)
  apply BitVec.eq_of_toNat_eq
  simp [Nat.or_mod_two_pow]
theorem jn_and (a b : Nat) : Int32.ofNat a &&& Int32.ofNat b = Int32.ofNat (a &&& b) := by
  apply Int32.toBitVec_inj.mp
  show BitVec.ofNat 32 a &&& BitVec.ofNat 32 b = BitVec.ofNat 32 (a &&& b)
  apply BitVec.eq_of_toNat_eq
  simp [Nat.and_mod_two_pow]
theorem jn_xor (a b : Nat) : Int32.ofNat a ^^^ Int32.ofNat b = Int32.ofNat (a ^^^ b) := by
  apply Int32.toBitVec_inj.mp
  show BitVec.ofNat 32 a ^^^ BitVec.ofNat 32 b = BitVec.ofNat 32 (a ^^^ b)
  apply BitVec.eq_of_toNat_eq
  simp [Nat.xor_mod_two_pow]

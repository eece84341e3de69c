/-! PLAIN LEAN, 1: small numbers (nI of the kit); rows of ints; pieces where they go through; loops -/
theorem kn_lit (n : Nat) : (OfNat.ofNat n : Int32) = nI (OfNat.ofNat n) := rfl
theorem kn_add (a b : Nat) : nI a + nI b = nI (a + b) := (Int32.ofNat_add a b).symm
theorem kn_mul (a b : Nat) : nI a * nI b = nI (a * b) := (Int32.ofNat_mul a b).symm
theorem kn_sub {a b : Nat} (h : b ≤ a) : nI a - nI b = nI (a - b) := (Int32.ofNat_sub a b h).symm
theorem kn_div {a b : Nat} (ha : a < 2147483648) (hb : b < 2147483648) : nI a / nI b = nI (a / b) := (Int32.ofNat_div ha hb).symm
theorem kn_rem {a b : Nat} (ha : a < 2147483648) (hb : b < 2147483648) : nI a - nI a / nI b * nI b = nI (a % b) := by
  rw [kn_div ha hb, kn_mul, kn_sub (Nat.div_mul_le_self a b)]
  congr 1
  have := Nat.div_add_mod' a b
  omega
theorem kn_lt {a b : Nat} (ha : a < 2147483648) (hb : b < 2147483648) : (nI a < nI b) = (a < b) := propext (Int32.ofNat_lt_iff_lt ha hb)
theorem kn_le {a b : Nat} (ha : a < 2147483648) (hb : b < 2147483648) : (nI a ≤ nI b) = (a ≤ b) := propext (Int32.ofNat_le_iff_le ha hb)
theorem kn_inj {a b : Nat} (ha : a < 2147483648) (hb : b < 2147483648) (h : nI a = nI b) : a = b := by
  have := congrArg Int32.toNatClampNeg h
  unfold nI at this
  rwa [Int32.toNatClampNeg_ofNat_of_lt ha, Int32.toNatClampNeg_ofNat_of_lt hb] at this
theorem kn_eq {a b : Nat} (ha : a < 2147483648) (hb : b < 2147483648) : (nI a = nI b) = (a = b) := propext ⟨kn_inj ha hb, fun h => by rw [h]⟩
theorem kn_tn {a : Nat} (ha : a < 2147483648) : (nI a).toNatClampNeg = a := Int32.toNatClampNeg_ofNat_of_lt ha
theorem kn_nneg {a : Nat} (ha : a < 2147483648) : ¬ (nI a < 0) := by
  rw [kn_lit, kn_lt ha (by decide)]
  exact Nat.not_lt_zero _
theorem kn_in {i n : Nat} (hi : i < 2147483648) : jl_in (nI i) n = decide (i < n) := by
  unfold jl_in
  rw [kn_tn hi]
  simp only [kn_nneg hi, not_false_eq_true, decide_true, Bool.true_and]
theorem kn_ti {a : Nat} (ha : a < 2147483648) : (nI a).toInt = (a : Int) := Int32.toInt_ofNat_of_lt ha
/-- -1 is below all -/
theorem kn_m1 {a : Nat} (ha : a < 2147483648) : (nI a = -nI 1) = False := by
  refine propext ⟨fun h => ?_, False.elim⟩
  have := congrArg Int32.toInt h
  rw [kn_ti ha] at this
  have h2 : (-nI 1 : Int32).toInt = -1 := by decide
  omega
theorem kn_m1' {a : Nat} (ha : a < 2147483648) : (-nI 1 = nI a) = False := by rw [← kn_m1 ha]; exact propext ⟨Eq.symm, Eq.symm⟩
theorem kn_m1lt {a : Nat} (ha : a < 2147483648) : (-nI 1 < nI a) = True := by
  refine propext ⟨fun _ => trivial, fun _ => ?_⟩
  rw [Int32.lt_iff_toInt_lt, kn_ti ha]
  have h2 : (-nI 1 : Int32).toInt = -1 := by decide
  omega
theorem kn_ltm1 {a : Nat} (ha : a < 2147483648) : (nI a < -nI 1) = False := by
  refine propext ⟨fun h => ?_, False.elim⟩
  rw [Int32.lt_iff_toInt_lt, kn_ti ha] at h
  have h2 : (-nI 1 : Int32).toInt = -1 := by decide
  omega
theorem kn_pred {a : Nat} (h : 1 ≤ a) : nI a + -nI 1 = nI (a - 1) := by
  rw [← Int32.sub_eq_add_neg]; exact kn_sub h
theorem kn_pred0 : nI 0 - nI 1 = -nI 1 := by decide
theorem kn_bv (n : Nat) : (nI n).toBitVec = BitVec.ofNat 32 n := rfl
theorem kn_bvinj {a b : Int32} (h : a.toBitVec = b.toBitVec) : a = b := Int32.toBitVec_inj.mp h
theorem kn_and (a b : Nat) : nI a &&& nI b = nI (a &&& b) := kn_bvinj (by rw [Int32.toBitVec_and, kn_bv, kn_bv, kn_bv, BitVec.ofNat_and])
theorem kn_or (a b : Nat) : nI a ||| nI b = nI (a ||| b) := kn_bvinj (by rw [Int32.toBitVec_or, kn_bv, kn_bv, kn_bv, BitVec.ofNat_or])
theorem kn_xor (a b : Nat) : nI a ^^^ nI b = nI (a ^^^ b) := kn_bvinj (by rw [Int32.toBitVec_xor, kn_bv, kn_bv, kn_bv, BitVec.ofNat_xor])
theorem kn_a31 : ∀ k, k < 32 → nI k &&& nI 31 = nI k := by decide
theorem kn_smod : ∀ k, k < 32 → ((nI k).toBitVec.smod 32).toNat = k := by decide
theorem kn_shl {a k : Nat} (hk : k < 32) (h : a * 2 ^ k < 2 ^ 32) : nI a <<< nI k = nI (a * 2 ^ k) := pk_shlN (nI k) k (kn_smod k hk) h
theorem kn_shr {a k : Nat} (hk : k < 32) (h : a < 2147483648) : nI a >>> nI k = nI (a / 2 ^ k) := pk_shrN h (nI k) k (kn_smod k hk)
theorem kn_bit (a : Nat) : nI a &&& nI 1 = nI (a % 2) := by rw [kn_and, Nat.and_one_is_mod]
/-- a truth as a number -/
def nB (b : Bool) : Int32 := if b = true then 1 else 0
theorem nB_t : nB true = nI 1 := rfl
theorem nB_f : nB false = nI 0 := rfl
theorem nB_0 (b : Bool) : (nB b = nI 0) = (b = false) := by cases b <;> decide
theorem nB_1 (b : Bool) : (nB b = nI 1) = (b = true) := by cases b <;> decide
theorem nB_01 (b : Bool) : nB b = 0 ∨ nB b = 1 := by cases b <;> decide
theorem nB_ite {c : Prop} [Decidable c] : (if c then nI 1 else nI 0) = nB (decide c) := by
  by_cases h : c
  · rw [if_pos h, decide_eq_true h]; rfl
  · rw [if_neg h, decide_eq_false h]; rfl
/-- rows -/
def jU (I : Nat → Nat → Int32) (a : Nat) (f : Nat → Int32) : Nat → Nat → Int32 := fun b => if b = a then f else I b
def jV (f : Nat → Int32) (k : Nat) (x : Int32) : Nat → Int32 := fun j => if j = k then x else f j
section JU
variable {I : Nat → Nat → Int32} {f g : Nat → Int32} {a b k j : Nat} {x y : Int32} {h : LH}
theorem jU_eq : jU I a f a = f := if_pos rfl
theorem jU_ne (hb : ¬ b = a) : jU I a f b = I b := if_neg hb
theorem jU_U : jU (jU I a f) a g = jU I a g := by
  funext b
  unfold jU
  by_cases hb : b = a
  · rw [if_pos hb, if_pos hb]
  · rw [if_neg hb, if_neg hb, if_neg hb]
theorem jU_id : jU I a (I a) = I := by
  funext b
  unfold jU
  by_cases hb : b = a
  · rw [if_pos hb, hb]
  · rw [if_neg hb]
theorem jV_eq : jV f k x k = x := if_pos rfl
theorem jV_ne (hj : ¬ j = k) : jV f k x j = f j := if_neg hj
theorem jV_V : jV (jV f k x) k y = jV f k y := by
  funext b
  unfold jV
  by_cases hb : b = k
  · rw [if_pos hb, if_pos hb]
  · rw [if_neg hb, if_neg hb, if_neg hb]
def jz_I (h : LH) (I : Nat → Nat → Int32) : LH := (h.1, I, h.2.2.1, h.2.2.2)
theorem jz_id : jz_I h h.2.1 = h := rfl
theorem jz_setI : jl_setI (jz_I h I) a k x = jz_I h (jU I a (jV (I a) k x)) := by
  unfold jl_setI jz_I
  simp only [Prod.mk.injEq, true_and, and_true]
  funext b j
  unfold jU jV
  by_cases hb : b = a
  · subst hb
    by_cases hj : j = k
    · rw [if_pos ⟨rfl, hj⟩, if_pos rfl, if_pos hj]
    · rw [if_neg (fun z => hj z.2), if_pos rfl, if_neg hj]
  · rw [if_neg (fun z => hb z.1), if_neg hb]
theorem jz_copy {sp dp n : Nat} : jl_copy (jz_I h I) a b sp dp n = jz_I h (jU I b (fun j => if dp ≤ j ∧ j < dp + n then I a (sp + (j - dp)) else I b j)) := by
  unfold jl_copy jz_I
  simp only [Prod.mk.injEq, true_and, and_true]
  funext c j
  unfold jU
  by_cases hb : c = b
  · subst hb
    rw [if_pos rfl]
    by_cases hj : dp ≤ j ∧ j < dp + n
    · rw [if_pos ⟨rfl, hj⟩, if_pos hj]
    · rw [if_neg (fun z => hj z.2), if_neg hj]
  · rw [if_neg (fun z => hb z.1), if_neg hb]
end JU
section KQ
variable {Q : Type} {h : LH} {I : Nat → Nat → Int32} {a b ci k rk n i : Nat} {x : Int32}
theorem kq_ia {K : Int32 → Option Q} (hk : jl_kd h a = 20) (hi : i < jl_ln h a) (h9 : i < 2147483648) : jf_ia (jz_I h I) a (nI i) K = K (I a i) := by
  unfold jf_ia
  rw [kn_in h9, if_pos ⟨Or.inl hk, decide_eq_true hi⟩, kn_tn h9]
  rfl
theorem kq_ba {K : Int32 → Option Q} (hk : jl_kd h a = 21 ∨ jl_kd h a = 22 ∨ jl_kd h a = 32) (hi : i < jl_ln h a) (h9 : i < 2147483648) : jf_ba (jz_I h I) a (nI i) K = K (I a i) := by
  unfold jf_ba
  rw [kn_in h9, if_pos ⟨hk, decide_eq_true hi⟩, kn_tn h9]
  rfl
theorem kq_aa {K : Nat → Option Q} (hk : jl_kd h a = 24 ∨ jl_kd h a = 25) (hi : i < jl_ln h a) (h9 : i < 2147483648) (hp : h.2.2.1 a i = some b) : jf_aa (jz_I h I) a (nI i) K = K b := by
  unfold jf_aa
  rw [kn_in h9, if_pos ⟨hk, decide_eq_true hi⟩, kn_tn h9, show (jz_I h I).2.2.1 a i = some b from hp]
  rfl
theorem kq_is {K : LH → Option Q} (hk : jl_kd h a = 20) (ha : 64 ≤ a) (hi : i < jl_ln h a) (h9 : i < 2147483648) : jf_is (jz_I h I) a (nI i) x K = K (jz_I h (jU I a (jV (I a) i x))) := by
  unfold jf_is
  rw [kn_in h9, if_pos ⟨hk, ha, decide_eq_true hi⟩, kn_tn h9, jz_setI]
theorem kq_bsb {K : LH → Option Q} (hk : jl_kd h a = 21) (ha : 64 ≤ a) (hi : i < jl_ln h a) (h9 : i < 2147483648) : jf_bs (jz_I h I) a (nI i) x K = K (jz_I h (jU I a (jV (I a) i (vp_nar .byte x)))) := by
  unfold jf_bs
  rw [kn_in h9, if_pos ⟨hk, ha, decide_eq_true hi⟩, kn_tn h9, jz_setI]
theorem kq_bsz {K : LH → Option Q} (hk : jl_kd h a = 22) (ha : 64 ≤ a) (hi : i < jl_ln h a) (h9 : i < 2147483648) : jf_bs (jz_I h I) a (nI i) x K = K (jz_I h (jU I a (jV (I a) i (vp_nar .boolean x)))) := by
  unfold jf_bs
  rw [kn_in h9, if_neg (fun z => by have h1 : jl_kd h a = 21 := z.1; omega), if_pos ⟨hk, ha, decide_eq_true hi⟩, kn_tn h9, jz_setI]
theorem kq_dvn {z : Int32} {K : Int32 → Option Q} (h0 : 0 < n) (h9 : n < 2147483648) : jf_dv (nI n) z K = K z := if_neg (by rw [kn_lit, kn_eq h9 (by decide)]; show ¬ n = 0; omega)
theorem kq_bi {x : Int32} {h1 : LH} {K : Int32 → LH → Option Q} : jf_bi (some (x, h1)) K = K x h1 := rfl
theorem kq_let {K : Int32 → Option Q} : jf_let x K = K x := rfl
theorem kq_rz0 {r : Option Q} : jf_rz (nI 0) r = r := rfl
theorem kq_rz1 {r : Option Q} : jf_rz (nI 1) r = r := rfl
theorem kq_rzB {r : Option Q} {b : Bool} : jf_rz (nB b) r = r := if_pos (nB_01 b)
theorem kq_ac {K : LH → Option Q} {sp dp : Nat} (hk : jl_kd h a = 20) (ha : 64 ≤ a) (hk2 : jl_kd h b = 20) (hb : 64 ≤ b) (hne : ¬ a = b) (h1 : sp < 2147483648) (h2 : dp < 2147483648) (h3 : n < 2147483648) (h4 : sp + n ≤ jl_ln h a) (h5 : dp + n ≤ jl_ln h b) : jf_ac (jz_I h I) a (nI sp) b (nI dp) (nI n) K = K (jz_I h (jU I b (fun j => if dp ≤ j ∧ j < dp + n then I a (sp + (j - dp)) else I b j))) := by
  unfold jf_ac
  rw [kn_tn h1, kn_tn h2, kn_tn h3, if_pos ⟨hk, ha, hk2, hb, hne, kn_nneg h3, kn_nneg h1, kn_nneg h2, h4, h5⟩, jz_copy]
end KQ
theorem kt_lt {a b : Nat} (h : a < b) : (a < b) = True := eq_true h
theorem kf_lt {a b : Nat} (h : ¬ a < b) : (a < b) = False := eq_false h
theorem kt_le {a b : Nat} (h : a ≤ b) : (a ≤ b) = True := eq_true h
theorem kf_le {a b : Nat} (h : ¬ a ≤ b) : (a ≤ b) = False := eq_false h
theorem kt_eq {a b : Nat} (h : a = b) : (a = b) = True := eq_true h
theorem kf_eq {a b : Nat} (h : ¬ a = b) : (a = b) = False := eq_false h
/-- a loop that counts up to N: either the turn decides, or it comes to the next turn -/
theorem jz_while {S R : Type} (f : Nat → Nat → S → R) (N : Nat) (P : Nat → S → Prop) (Post : R → Prop) (hs : ∀ n k s, k ≤ N → P k s → Post (f (n + 1) k s) ∨ (k < N ∧ ∃ s', P (k + 1) s' ∧ f (n + 1) k s = f n (k + 1) s')) : ∀ (fuel k : Nat) (s : S), k ≤ N → N - k < fuel → P k s → Post (f fuel k s)
  | 0, _, _, _, h, _ => absurd h (Nat.not_lt_zero _)
  | fuel + 1, k, s, hk, hf, hP => by
    rcases hs fuel k s hk hP with h | ⟨hl, s', hP', he⟩
    · exact h
    · rw [he]
      exact jz_while f N P Post hs fuel (k + 1) s' hl (by omega) hP'
/-- the same where the states at each turn are known -/
theorem jz_for {S R : Type} (f : Nat → Nat → S → R) (N : Nat) (st : Nat → S) (r : R) (hs : ∀ n k, k < N → f (n + 1) k (st k) = f n (k + 1) (st (k + 1))) (he : ∀ n, f (n + 1) N (st N) = r) (fuel : Nat) (hf : N < fuel) : f fuel 0 (st 0) = r :=
  jz_while f N (fun k s => s = st k) (fun z => z = r) (fun n k s hk hP => by
    subst hP
    rcases Nat.lt_or_eq_of_le hk with h | h
    · exact Or.inr ⟨h, _, rfl, hs n k h⟩
    · subst h
      exact Or.inl (he n)) fuel 0 _ (Nat.zero_le _) (by omega) rfl
/-- a loop that looks for the first turn that answers -/
theorem jz_find {R : Type} (f : Nat → Nat → R) (N : Nat) (p : Nat → Bool) (r : R) (rk : Nat → R) (hs : ∀ n k, k < N → p k = false → f (n + 1) k = f n (k + 1)) (ht : ∀ n k, k < N → p k = true → f (n + 1) k = rk k) (he : ∀ n, f (n + 1) N = r) : ∀ (fuel k : Nat), k ≤ N → N - k < fuel → f fuel k = (((List.range' k (N - k)).find? p).elim r rk)
  | 0, _, _, h => absurd h (Nat.not_lt_zero _)
  | fuel + 1, k, hk, hf => by
    rcases Nat.lt_or_eq_of_le hk with h | h
    · rw [show N - k = (N - (k + 1)) + 1 by omega, List.range'_succ]
      cases hp : p k with
      | true => rw [ht fuel k h hp, List.find?_cons_of_pos hp]; rfl
      | false =>
        rw [hs fuel k h hp, List.find?_cons_of_neg (by rw [hp]; decide)]
        exact jz_find f N p r rk hs ht he fuel (k + 1) h (by omega)
    · subst h
      rw [he, Nat.sub_self]
      rfl
theorem jF_lt {n : Nat} (h : n ≤ 999) : n < jF := by show n < 1000; omega

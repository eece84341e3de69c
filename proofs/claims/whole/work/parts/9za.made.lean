/-! PLAIN LEAN: the constructors; pieces -/
noncomputable def jh_X : List (Nat × Nat) := jh_K
/-- n cells have been made; ps, js: pointers that stand; J: what the cells hold -/
def jB (L : Nat) (n : Nat) (ps : List (Nat × Nat × Nat)) (js : List (Nat × Nat)) (J : Nat → Nat → Int32) (h : LH) : Prop := h.1 = jy_kd L ++ jh_X.take n ∧ n ≤ 654 ∧ (∀ a, a < 64 + n → h.2.1 a = J a) ∧ (∀ a, 64 + n ≤ a → J a = fun _ => 0) ∧ (∀ q ∈ ps, q.1 < 64 + n ∧ h.2.2.1 q.1 q.2.1 = some q.2.2) ∧ ∀ q ∈ js, q.1 < 64 + n ∧ ∀ i, i < q.2 → h.2.2.1 q.1 i = some (q.1 + 1 + i)
section
variable {L n k kk nn ci A f v : Nat} {ps : List (Nat × Nat × Nat)} {js : List (Nat × Nat)} {J I : Nat → Nat → Int32} {h : LH} {Q : Type} {P : Q → Prop} {x y : Int32}
theorem jX_len : jh_X.length = 654 := by decide +kernel
theorem jy_kd_len : (jy_kd L).length = 64 := by unfold jy_kd; rw [List.length_map, List.length_range]
theorem jB_len (hB : jB L n ps js J h) : h.1.length = 64 + n := by
  rw [hB.1, List.length_append, List.length_take, jX_len, jy_kd_len]
  have := hB.2.1
  omega
theorem jB_at (hB : jB L n ps js J h) {a : Nat} (ha : a < n) : h.1[64 + a]? = jh_X[a]? := by
  rw [hB.1, List.getElem?_append_right (by rw [jy_kd_len]; omega), jy_kd_len, show 64 + a - 64 = a by omega, List.getElem?_take_of_lt ha]
theorem jB_atA (hB : jB L n ps js J h) {q : Nat × Nat} (h1 : 64 ≤ A) (h2 : A < 64 + n) (hx : jh_X[A - 64]? = some q) : h.1[A]? = some q := by
  have := jB_at hB (a := A - 64) (by omega)
  rw [show 64 + (A - 64) = A by omega, hx] at this
  exact this
theorem jB_kd (hB : jB L n ps js J h) (h1 : 64 ≤ A) (h2 : A < 64 + n) (hx : jh_X[A - 64]? = some (k, kk)) : jl_kd h A = k := by unfold jl_kd; rw [jB_atA hB h1 h2 hx]; rfl
theorem jB_ln (hB : jB L n ps js J h) (h1 : 64 ≤ A) (h2 : A < 64 + n) (hx : jh_X[A - 64]? = some (k, kk)) : jl_ln h A = kk := by unfold jl_ln; rw [jB_atA hB h1 h2 hx]; rfl
theorem jX_40 : ∀ q ∈ jh_X, ¬ q.1 = 40 := by decide +kernel
theorem jB_nj (hB : jB L n ps js J h) : jl_nj h = true := by
  unfold jl_nj
  cases e : h.1.getLast? with
  | none => rfl
  | some q =>
    have hm : q ∈ h.1 := List.mem_of_getLast? e
    rw [hB.1, List.mem_append] at hm
    have : ¬ q.1 = 40 := by
      rcases hm with hm | hm
      · obtain ⟨i, hi⟩ := List.mem_iff_getElem?.mp hm
        obtain ⟨-, e⟩ := jy_kd_at hi
        rw [e]
        unfold jy_k
        split
        · decide
        · split
          · show ¬ 32 = 40; omega
          · show ¬ 30 = 40; omega
      · exact jX_40 q (List.mem_of_mem_take hm)
    show (q.1 != 40) = true
    exact bne_iff_ne.mpr this
theorem jB_new (hB : jB L n ps js J h) (hx : jh_X[n]? = some (ci, k)) (hn : n < 654) : jB L (n + 1) ps js J (jl_new h ci k) := by
  have hl := jB_len hB
  obtain ⟨a1, a2, a3, a4, a5, a6⟩ := hB
  refine ⟨?_, by omega, fun a ha => ?_, fun a ha => a4 a (by omega), fun q hq => ?_, fun q hq => ?_⟩
  · show h.1 ++ [(ci, k)] = _
    rw [a1, List.append_assoc, List.take_add_one, hx]
    rfl
  · by_cases z : a = 64 + n
    · rw [a4 a (by omega)]
      funext j
      show (if a = h.1.length then 0 else h.2.1 a j) = 0
      rw [if_pos (by omega)]
    · rw [← a3 a (by omega)]
      funext j
      show (if a = h.1.length then 0 else h.2.1 a j) = _
      rw [if_neg (by omega)]
  · obtain ⟨q1, q2⟩ := a5 q hq
    refine ⟨by omega, ?_⟩
    show (if q.1 = h.1.length then none else h.2.2.1 q.1 q.2.1) = _
    rw [if_neg (by omega)]; exact q2
  · obtain ⟨q1, q2⟩ := a6 q hq
    refine ⟨by omega, fun i hi => ?_⟩
    show (if q.1 = h.1.length then none else h.2.2.1 q.1 i) = _
    rw [if_neg (by omega)]; exact q2 i hi
theorem b_nw {K : Nat → LH → Option Q} (hB : jB L n ps js J h) (hx : jh_X[n]? = some (ci, k)) (hn : n < 654) (hA : 64 + n = A) (hP : ∀ h', jB L (n + 1) ps js J h' → jW (K A h') P) : jW (jf_nw h ci k K) P := by
  unfold jf_nw
  rw [if_pos (jB_nj hB), jB_len hB, hA]
  exact hP _ (jB_new hB hx hn)
theorem b_na {K : Nat → LH → Option Q} (hB : jB L n ps js J h) (hx : jh_X[n]? = some (ci, k)) (hn : n < 654) (hA : 64 + n = A) (hv : ¬ x < 0 ∧ x.toNatClampNeg = k ∧ k ≤ 10000) (hP : ∀ h', jB L (n + 1) ps js J h' → jW (K A h') P) : jW (jf_na h ci x K) P := by
  obtain ⟨v1, v2, v3⟩ := hv
  unfold jf_na
  rw [if_pos ⟨v1, by rw [v2]; exact v3, jB_nj hB⟩, jB_len hB, hA, v2]
  exact hP _ (jB_new hB hx hn)
theorem b_mn {K : Nat → LH → Option Q} (hB : jB L n ps js J h) (hx : (jh_X.drop n).take (nn + 1) = (24, nn) :: List.replicate nn (20, kk)) (hn : n + 1 + nn ≤ 654) (hA : 64 + n = A) (hv : (¬ x < 0 ∧ x.toNatClampNeg = nn ∧ nn ≤ 10000) ∧ ¬ y < 0 ∧ y.toNatClampNeg = kk ∧ kk ≤ 10000) (hP : ∀ h', jB L (n + 1 + nn) ps ((A, nn) :: js) J h' → jW (K A h') P) : jW (jf_mn h x y K) P := by
  obtain ⟨⟨v1, v2, v3⟩, w1, w2, w3⟩ := hv
  have hl := jB_len hB
  have hj := jB_nj hB
  unfold jf_mn
  rw [if_pos ⟨v1, w1, by rw [v2]; exact v3, by rw [w2]; exact w3, hj⟩, hl, hA, v2, w2]
  refine hP _ ?_
  obtain ⟨a1, a2, a3, a4, a5, a6⟩ := hB
  refine ⟨?_, hn, fun a ha => ?_, fun a ha => a4 a (by omega), fun q hq => ?_, fun q hq => ?_⟩
  · show h.1 ++ ((24, nn) :: List.replicate nn (20, kk)) = _
    rw [a1, List.append_assoc, ← hx, show n + 1 + nn = n + (nn + 1) by omega]
    exact congrArg (fun z => jy_kd L ++ z) List.take_add.symm
  · by_cases z : 64 + n ≤ a
    · rw [a4 a (by omega)]
      funext j
      show (if h.1.length ≤ a then 0 else h.2.1 a j) = 0
      rw [if_pos (by omega)]
    · rw [← a3 a (by omega)]
      funext j
      show (if h.1.length ≤ a then 0 else h.2.1 a j) = _
      rw [if_neg (by omega)]
  · obtain ⟨q1, q2⟩ := a5 q hq
    refine ⟨by omega, ?_⟩
    show (if q.1 = h.1.length then (if q.2.1 < nn then some (q.1 + 1 + q.2.1) else none) else if h.1.length < q.1 then none else h.2.2.1 q.1 q.2.1) = _
    rw [if_neg (by omega), if_neg (by omega)]; exact q2
  · rcases List.mem_cons.mp hq with rfl | hq
    · refine ⟨by show A < _; omega, fun i hi => ?_⟩
      have hi : i < nn := hi
      show (if A = h.1.length then (if i < nn then some (A + 1 + i) else none) else if h.1.length < A then none else h.2.2.1 A i) = some (A + 1 + i)
      rw [if_pos (by omega), if_pos hi]
    · obtain ⟨q1, q2⟩ := a6 q hq
      refine ⟨by omega, fun i hi => ?_⟩
      show (if q.1 = h.1.length then (if i < nn then some (q.1 + 1 + i) else none) else if h.1.length < q.1 then none else h.2.2.1 q.1 i) = _
      rw [if_neg (by omega), if_neg (by omega)]; exact q2 i hi
theorem jB_pt (hB : jB L n ps js J h) (h2 : A < 64 + n) (hne : ∀ q ∈ ps, ¬ (q.1 = A ∧ q.2.1 = f)) (hnj : ∀ q ∈ js, ¬ q.1 = A) : jB L n ((A, f, v) :: ps) js J (jl_setP h A f (some v)) := by
  obtain ⟨a1, a2, a3, a4, a5, a6⟩ := hB
  refine ⟨a1, a2, a3, a4, fun q hq => ?_, fun q hq => ?_⟩
  · rcases List.mem_cons.mp hq with rfl | hq
    · exact ⟨h2, if_pos ⟨rfl, rfl⟩⟩
    · exact ⟨(a5 q hq).1, (if_neg (hne q hq)).trans (a5 q hq).2⟩
  · exact ⟨(a6 q hq).1, fun i hi => (if_neg (fun z => hnj q hq z.1)).trans ((a6 q hq).2 i hi)⟩
theorem b_pr {K : LH → Option Q} (hB : jB L n ps js J h) (hx : jh_X[A - 64]? = some (ci, kk)) (h1 : 64 ≤ A ∧ A < 64 + n) (hne : ∀ q ∈ ps, ¬ (q.1 = A ∧ q.2.1 = f)) (hnj : ∀ q ∈ js, ¬ q.1 = A) (hP : ∀ h', jB L n ((A, f, v) :: ps) js J h' → jW (K h') P) : jW (jf_pr h A ci f v K) P := by
  unfold jf_pr
  rw [if_pos ⟨jB_kd hB h1.1 h1.2 hx, h1.1⟩]
  exact hP _ (jB_pt hB h1.2 hne hnj)
theorem b_as {K : LH → Option Q} {i : Nat} (hB : jB L n ps js J h) (hx : jh_X[A - 64]? = some (25, kk)) (h1 : 64 ≤ A ∧ A < 64 + n) (hi : ¬ x < 0 ∧ x.toNatClampNeg = i ∧ i < kk) (hv : jh_X[v - 64]? = some (2, k)) (h3 : 64 ≤ v ∧ v < 64 + n) (hne : ∀ q ∈ ps, ¬ (q.1 = A ∧ q.2.1 = i)) (hnj : ∀ q ∈ js, ¬ q.1 = A) (hP : ∀ h', jB L n ((A, i, v) :: ps) js J h' → jW (K h') P) : jW (jf_as h A x v K) P := by
  obtain ⟨i1, i2, i3⟩ := hi
  unfold jf_as
  rw [if_pos ⟨jB_kd hB h1.1 h1.2 hx, h1.1, by unfold jl_in; rw [jB_ln hB h1.1 h1.2 hx, i2, decide_eq_true i1, decide_eq_true i3]; rfl, jB_kd hB h3.1 h3.2 hv, h3.1⟩, i2]
  exact hP _ (jB_pt hB h1.2 hne hnj)
theorem b_gr {K : Nat → Option Q} (hB : jB L n ps js J h) (hx : jh_X[A - 64]? = some (ci, kk)) (h1 : 64 ≤ A ∧ A < 64 + n) (hm : (A, f, v) ∈ ps) (hP : jW (K v) P) : jW (jf_gr h A ci f K) P := by
  unfold jf_gr
  rw [if_pos (jB_kd hB h1.1 h1.2 hx), (hB.2.2.2.2.1 _ hm).2]
  exact hP
theorem b_kd {X : Option Q} (hB : jB L n ps js J h) (hx : jh_X[A - 64]? = some (ci, kk)) (h1 : 64 ≤ A ∧ A < 64 + n) (hP : jW X P) : jW (jf_kd h A ci X) P := by
  unfold jf_kd
  rw [if_pos (jB_kd hB h1.1 h1.2 hx)]
  exact hP
theorem b_pi {K : LH → Option Q} (hB : jB L n ps js J h) (hx : jh_X[A - 64]? = some (ci, kk)) (h1 : 64 ≤ A ∧ A < 64 + n) (hP : ∀ h', jB L n ps js (jU J A (jV (J A) f x)) h' → jW (K h') P) : jW (jf_pi h A ci f x K) P := by
  unfold jf_pi
  rw [if_pos ⟨jB_kd hB h1.1 h1.2 hx, h1.1⟩]
  refine hP _ ?_
  obtain ⟨a1, a2, a3, a4, a5, a6⟩ := hB
  refine ⟨a1, a2, fun a ha => ?_, fun a ha => by rw [jU_ne (by omega)]; exact a4 a ha, a5, a6⟩
  show (jl_setI (jz_I h h.2.1) A f x).2.1 a = _
  rw [jz_setI]
  show jU h.2.1 A (jV (h.2.1 A) f x) a = _
  by_cases z : a = A
  · rw [z, jU_eq, jU_eq, a3 A h1.2]
  · rw [jU_ne z, jU_ne z]; exact a3 a ha
theorem jW_bd {X : Option LH} {K : LH → Option Q} (hx : jW X (fun g => jW (K g) P)) : jW (X.bind K) P := by
  obtain ⟨g, rfl, hg⟩ := hx
  exact hg
/-- what was changed below what has been made -/
theorem jB_z (hB : jB L n ps js J h) {K : Nat → Nat → Int32} : jB L n ps js (fun a => if a < 64 + n then K a else fun _ => 0) (jz_I h K) := ⟨hB.1, hB.2.1, fun a ha => (if_pos ha).symm, fun a ha => if_neg (by omega), hB.2.2.2.2.1, hB.2.2.2.2.2⟩
theorem g_gi (hk : jl_kd h A = ci) {K : Int32 → Option Q} : jf_gi (jz_I h I) A ci k K = K (I A k) := if_pos hk
theorem g_pi (hk : jl_kd h A = ci) (h6 : 64 ≤ A) {K : LH → Option Q} : jf_pi (jz_I h I) A ci k x K = K (jz_I h (jU I A (jV (I A) k x))) := (if_pos ⟨hk, h6⟩).trans (by rw [jz_setI])
theorem g_gr (hk : jl_kd h A = ci) (hp : h.2.2.1 A k = some v) {K : Nat → Option Q} : jf_gr (jz_I h I) A ci k K = K v := by
  unfold jf_gr
  rw [if_pos (show jl_kd (jz_I h I) A = ci from hk), show (jz_I h I).2.2.1 A k = some v from hp]
  rfl
theorem g_kd (hk : jl_kd h A = ci) {X : Option Q} : jf_kd (jz_I h I) A ci X = X := if_pos hk
theorem g_al (hk : jl_kd h A = 20) (hl : jl_ln h A = n) {K : Int32 → Option Q} : jf_al (jz_I h I) A K = K (nI n) := (if_pos (Or.inl (show 20 ≤ jl_kd h A ∧ jl_kd h A ≤ 25 by omega))).trans (congrArg K (congrArg nI hl))
theorem g_is (hk : jl_kd h A = 20) (h6 : 64 ≤ A) (hl : jl_ln h A = n) (h9 : n ≤ 10000) {K : LH → Option Q} (hi : k < n) : jf_is (jz_I h I) A (nI k) x K = K (jz_I h (jU I A (jV (I A) k x))) := kq_is hk h6 (by omega) (by omega)
theorem g_put {C : Nat → Int32} {K : Nat → Nat → Int32} (hk : jl_kd h A = 4) (h6 : 64 ≤ A) (hp : h.2.2.1 A 0 = some (A + 1)) (hk1 : jl_kd h (A + 1) = 20) (hl1 : jl_ln h (A + 1) = 150) (hC : jCP K A k C) (hk9 : k < 150) : ∃ K', F_Law_put A x (jz_I h K) = some (jz_I h K') ∧ jCP K' A (k + 1) (jV C k x) ∧ jLw A K K' := by
  obtain ⟨c1, c2⟩ := hC
  refine jE_n (fun P hP => ?_)
  unfold F_Law_put F_Law_put_b32
  simp (disch := omega) only [c1, ↓g_gi hk, ↓g_pi hk h6, ↓g_gr hk hp, ↓g_al hk1 hl1, g_is hk1 (Nat.le_trans h6 (Nat.le_succ A)) hl1 (by decide), ↓reduceIte, ↓kq_bi, ↓kq_let, ↓kq_rz0, ↓kq_rz1, ↓kq_rzB, ↓Option.bind_some, kq_dvn, kt_lt, kf_lt, kt_eq, kf_eq, decide_true, decide_false, eq_self, Bool.false_eq_true, Bool.true_eq_false, not_true_eq_false, not_false_eq_true, jU_eq, jU_ne, jU_U, jV_eq, jV_ne, jV_V, kn_lit, kn_add, kn_mul, kn_sdm, kn_sub, kn_div, kn_nsdm, kn_lt, kn_eq, kn_pred, kn_m1, kn_m1', kn_a31, kn_shl, kn_shr, kn_bit, nB_0, nB_1, nB_t, nB_f, Nat.zero_add, Nat.add_zero, Nat.reduceAdd, Nat.reduceMul, Nat.reduceSub, Nat.reducePow]
  refine jW_s (hP _ ⟨⟨by rw [jU_eq, jV_eq], fun i hi => ?_⟩, fun d a1 a2 => by rw [jU_ne a1, jU_ne a2]⟩)
  rw [jU_ne (by omega), jU_eq]
  by_cases z : i = k
  · rw [z, jV_eq, jV_eq]
  · rw [jV_ne z, jV_ne z]; exact c2 i (by omega)
theorem g_plain (hk : jl_kd h A = 4) (h6 : 64 ≤ A) (hp : h.2.2.1 A 0 = some (A + 1)) (hk1 : jl_kd h (A + 1) = 20) (hl1 : jl_ln h (A + 1) = 150) {J : Nat → Nat → Int32} : ∃ K, F_Law_setPlain A (jz_I h J) = some (jz_I h K) ∧ jCL K A s_plain ∧ jLw A J K := by
  refine jE_n (fun P hP => ?_)
  unfold F_Law_setPlain F_Law_senseCode
  simp (disch := omega) only [↓g_kd hk, ↓g_gi hk, ↓g_pi hk h6, ↓reduceIte, ↓kq_bi, ↓kq_let, ↓kq_rz0, ↓kq_rz1, ↓kq_rzB, ↓Option.bind_some, kq_dvn, kt_lt, kf_lt, kt_eq, kf_eq, decide_true, decide_false, eq_self, Bool.false_eq_true, Bool.true_eq_false, not_true_eq_false, not_false_eq_true, jU_eq, jU_ne, jU_U, jV_eq, jV_ne, jV_V, kn_lit, kn_add, kn_mul, kn_sdm, kn_sub, kn_div, kn_nsdm, kn_lt, kn_eq, kn_pred, kn_m1, kn_m1', kn_a31, kn_shl, kn_shr, kn_bit, nB_0, nB_1, nB_t, nB_f, Nat.zero_add, Nat.add_zero, Nat.reduceAdd, Nat.reduceMul, Nat.reduceSub, Nat.reducePow]
  have h0 : jCP (jU J A (jV (J A) 2 (nI 0))) A 0 (fun _ => 0) := ⟨by rw [jU_eq, jV_eq], fun i hi => absurd hi (Nat.not_lt_zero i)⟩
  have f0 : jLw A J (jU J A (jV (J A) 2 (nI 0))) := fun d a1 a2 => jU_ne a1
  generalize jU J A (jV (J A) 2 (nI 0)) = J1 at h0 f0
  refine jW_bn (g_put hk h6 hp hk1 hl1 h0 (by omega)) (fun A' hA => ?_)
  simp (disch := omega) only [↓g_kd hk, ↓reduceIte, ↓kq_bi, ↓kq_let, ↓kq_rz0, ↓kq_rz1, ↓kq_rzB, ↓Option.bind_some, kq_dvn, kt_lt, kf_lt, kt_eq, kf_eq, decide_true, decide_false, eq_self, Bool.false_eq_true, Bool.true_eq_false, not_true_eq_false, not_false_eq_true, jU_eq, jU_ne, jU_U, jV_eq, jV_ne, jV_V, kn_lit, kn_add, kn_mul, kn_sdm, kn_sub, kn_div, kn_nsdm, kn_lt, kn_eq, kn_pred, kn_m1, kn_m1', kn_a31, kn_shl, kn_shr, kn_bit, nB_0, nB_1, nB_t, nB_f, Nat.zero_add, Nat.add_zero, Nat.reduceAdd, Nat.reduceMul, Nat.reduceSub, Nat.reducePow]
  refine jW_bn (g_put hk h6 hp hk1 hl1 hA.1 (by omega)) (fun B hB => ?_)
  simp (disch := omega) only [↓g_kd hk, ↓reduceIte, ↓kq_bi, ↓kq_let, ↓kq_rz0, ↓kq_rz1, ↓kq_rzB, ↓Option.bind_some, kq_dvn, kt_lt, kf_lt, kt_eq, kf_eq, decide_true, decide_false, eq_self, Bool.false_eq_true, Bool.true_eq_false, not_true_eq_false, not_false_eq_true, jU_eq, jU_ne, jU_U, jV_eq, jV_ne, jV_V, kn_lit, kn_add, kn_mul, kn_sdm, kn_sub, kn_div, kn_nsdm, kn_lt, kn_eq, kn_pred, kn_m1, kn_m1', kn_a31, kn_shl, kn_shr, kn_bit, nB_0, nB_1, nB_t, nB_f, Nat.zero_add, Nat.add_zero, Nat.reduceAdd, Nat.reduceMul, Nat.reduceSub, Nat.reducePow]
  refine jW_bn (g_put hk h6 hp hk1 hl1 hB.1 (by omega)) (fun D hD => ?_)
  refine jW_s (hP D ⟨⟨hD.1.1, fun i hi => ?_⟩, jLw_trans f0 (jLw_trans hA.2 (jLw_trans hB.2 hD.2))⟩)
  have hi : i < 3 := hi
  rw [hD.1.2 i (by omega)]
  rcases (show i = 0 ∨ i = 1 ∨ i = 2 by omega) with rfl | rfl | rfl <;> decide
theorem g_clear (hk : jl_kd h A = 0) (h6 : 64 ≤ A) (hp : h.2.2.1 A 0 = some (A + 1)) (hk1 : jl_kd h (A + 1) = 20) (hl1 : jl_ln h (A + 1) = 9) {J : Nat → Nat → Int32} {f : Nat → Nat → Nat} : ∃ K, F_Book_clear A (jz_I h J) = some (jz_I h K) ∧ jCB K A (0, f) ∧ ∀ d, ¬ d = A → ¬ d = A + 1 → K d = J d := by
  refine jE_n (fun P hP => ?_)
  unfold F_Book_clear
  simp (disch := omega) only [↓g_pi hk h6, ↓reduceIte, ↓kq_bi, ↓kq_let, ↓kq_rz0, ↓kq_rz1, ↓kq_rzB, ↓Option.bind_some, kq_dvn, kt_lt, kf_lt, kt_eq, kf_eq, decide_true, decide_false, eq_self, Bool.false_eq_true, Bool.true_eq_false, not_true_eq_false, not_false_eq_true, jU_eq, jU_ne, jU_U, jV_eq, jV_ne, jV_V, kn_lit, kn_add, kn_mul, kn_sdm, kn_sub, kn_div, kn_nsdm, kn_lt, kn_eq, kn_pred, kn_m1, kn_m1', kn_a31, kn_shl, kn_shr, kn_bit, nB_0, nB_1, nB_t, nB_f, Nat.zero_add, Nat.add_zero, Nat.reduceAdd, Nat.reduceMul, Nat.reduceSub, Nat.reducePow]
  refine jW_for0 (A := Nat → Nat → Int32) (f := fun fuel w s => F_Book_clear_l7 fuel A (nI w) (jz_I h s)) 9 (fun w s => s A 2 = nI 0 ∧ (∀ g, g < w → s (A + 1) g = -nI 1) ∧ ∀ d, ¬ d = A → ¬ d = A + 1 → s d = J d) _ ⟨by rw [jU_eq, jV_eq], fun i hi => absurd hi (Nat.not_lt_zero i), fun d a1 _ => jU_ne a1⟩ (by omega) (fun F w s hw hV ih => ?_) (fun F s hV => ?_)
  · show jW (F_Book_clear_c7 (F_Book_clear_l7 F) A (nI w) (jz_I h s)) P
    unfold F_Book_clear_c7
    simp (disch := omega) only [↓g_gr hk hp, g_is hk1 (Nat.le_trans h6 (Nat.le_succ A)) hl1 (by decide), ↓reduceIte, ↓kq_bi, ↓kq_let, ↓kq_rz0, ↓kq_rz1, ↓kq_rzB, ↓Option.bind_some, kq_dvn, kt_lt, kf_lt, kt_eq, kf_eq, decide_true, decide_false, eq_self, Bool.false_eq_true, Bool.true_eq_false, not_true_eq_false, not_false_eq_true, jU_eq, jU_ne, jU_U, jV_eq, jV_ne, jV_V, kn_lit, kn_add, kn_mul, kn_sdm, kn_sub, kn_div, kn_nsdm, kn_lt, kn_eq, kn_pred, kn_m1, kn_m1', kn_a31, kn_shl, kn_shr, kn_bit, nB_0, nB_1, nB_t, nB_f, Nat.zero_add, Nat.add_zero, Nat.reduceAdd, Nat.reduceMul, Nat.reduceSub, Nat.reducePow]
    refine ih _ ⟨by rw [jU_ne (by omega)]; exact hV.1, fun i hi => ?_, fun d a1 a2 => by rw [jU_ne a2]; exact hV.2.2 d a1 a2⟩
    rw [jU_eq]
    by_cases z : i = w
    · rw [z, jV_eq]
    · rw [jV_ne z]; exact hV.2.1 i (by omega)
  · show jW (F_Book_clear_c7 (F_Book_clear_l7 F) A (nI 9) (jz_I h s)) P
    unfold F_Book_clear_c7
    simp (disch := omega) only [↓reduceIte, ↓kq_bi, ↓kq_let, ↓kq_rz0, ↓kq_rz1, ↓kq_rzB, ↓Option.bind_some, kq_dvn, kt_lt, kf_lt, kt_eq, kf_eq, decide_true, decide_false, eq_self, Bool.false_eq_true, Bool.true_eq_false, not_true_eq_false, not_false_eq_true, jU_eq, jU_ne, jU_U, jV_eq, jV_ne, jV_V, kn_lit, kn_add, kn_mul, kn_sdm, kn_sub, kn_div, kn_nsdm, kn_lt, kn_eq, kn_pred, kn_m1, kn_m1', kn_a31, kn_shl, kn_shr, kn_bit, nB_0, nB_1, nB_t, nB_f, Nat.zero_add, Nat.add_zero, Nat.reduceAdd, Nat.reduceMul, Nat.reduceSub, Nat.reducePow]
    exact jW_s (hP s ⟨⟨hV.1, fun g hg => by rw [hV.2.1 g hg]; rfl⟩, hV.2.2⟩)
theorem b_plain {K : LH → Option Q} (hB : jB L n ps js J h) (hx : jh_X[A - 64]? = some (4, kk)) (hx1 : jh_X[A + 1 - 64]? = some (20, 150)) (h1 : 64 ≤ A ∧ A + 1 < 64 + n) (hm : (A, 0, A + 1) ∈ ps) (hP : ∀ h' J', jCL J' A s_plain → jLw A J J' → jB L n ps js J' h' → jW (K h') P) : jW ((F_Law_setPlain A h).bind K) P := by
  obtain ⟨M, e, m1, m2⟩ := g_plain (J := h.2.1) (jB_kd hB h1.1 (by omega) hx) h1.1 (hB.2.2.2.2.1 _ hm).2 (jB_kd hB (by omega) h1.2 hx1) (jB_ln hB (by omega) h1.2 hx1)
  have e : F_Law_setPlain A h = some (jz_I h M) := e
  rw [e]
  have hE : ∀ a, a < 64 + n → (fun a => if a < 64 + n then M a else fun _ => 0) a = M a := fun a ha => if_pos ha
  refine hP _ (fun a => if a < 64 + n then M a else fun _ => 0) (jCL_cg (fun a ha => hE a (by omega)) m1) (fun d d1 d2 => ?_) (jB_z hB)
  by_cases z : d < 64 + n
  · rw [hE d z, m2 d d1 d2, hB.2.2.1 d z]
  · rw [hB.2.2.2.1 d (by omega)]; exact if_neg z
theorem b_clear {K : LH → Option Q} {f : Nat → Nat → Nat} (hB : jB L n ps js J h) (hx : jh_X[A - 64]? = some (0, kk)) (hx1 : jh_X[A + 1 - 64]? = some (20, 9)) (h1 : 64 ≤ A ∧ A + 1 < 64 + n) (hm : (A, 0, A + 1) ∈ ps) (hP : ∀ h' J', jCB J' A (0, f) → jLw A J J' → jB L n ps js J' h' → jW (K h') P) : jW ((F_Book_clear A h).bind K) P := by
  obtain ⟨M, e, m1, m2⟩ := g_clear (J := h.2.1) (f := f) (jB_kd hB h1.1 (by omega) hx) h1.1 (hB.2.2.2.2.1 _ hm).2 (jB_kd hB (by omega) h1.2 hx1) (jB_ln hB (by omega) h1.2 hx1)
  have e : F_Book_clear A h = some (jz_I h M) := e
  rw [e]
  have hE : ∀ a, a < 64 + n → (fun a => if a < 64 + n then M a else fun _ => 0) a = M a := fun a ha => if_pos ha
  refine hP _ (fun a => if a < 64 + n then M a else fun _ => 0) (jCB_cg (fun a ha => hE a (by omega)) m1) (fun d d1 d2 => ?_) (jB_z hB)
  by_cases z : d < 64 + n
  · rw [hE d z, m2 d d1 d2, hB.2.2.1 d z]
  · rw [hB.2.2.2.1 d (by omega)]; exact if_neg z
end

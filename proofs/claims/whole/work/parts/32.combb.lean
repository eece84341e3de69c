/-! FUNCTIONS FOR METHODS, 2: the heap, calls, ends -/
/-- field idx of the class own is field k of class ci, an int or boolean (1), a reference (2); writable: 3 an int, 4 a boolean, 5 a reference, 6 a final reference in the constructor -/
noncomputable def jc_f (own idx ci k w : Nat) : Bool := decide (jt_T.1 own idx = some (ci, k)) && decide (ci < 12) && decide (k < jt_T.2.2.2.2.2.1 ci) && (if w = 1 then decide (¬ (jt_T.2.2.2.2.1 ci k).1 = 3) else if w = 2 then decide ((jt_T.2.2.2.2.1 ci k).1 = 3) else if w = 3 then decide (jt_T.2.2.2.2.1 ci k = (0, false)) else if w = 4 then decide (jt_T.2.2.2.2.1 ci k = (1, false)) else if w = 5 then decide (jt_T.2.2.2.2.1 ci k = (3, false)) else decide ((jt_T.2.2.2.2.1 ci k).1 = 3) && decide (own = ci))
theorem jc_f_spec {own idx ci k w : Nat} (h : jc_f own idx ci k w = true) : jt_T.1 own idx = some (ci, k) ∧ ci < 12 ∧ k < jt_T.2.2.2.2.2.1 ci ∧ (w = 1 → ¬ (jt_T.2.2.2.2.1 ci k).1 = 3) ∧ (w = 2 → (jt_T.2.2.2.2.1 ci k).1 = 3) ∧ (w = 3 → jt_T.2.2.2.2.1 ci k = (0, false)) ∧ (w = 4 → jt_T.2.2.2.2.1 ci k = (1, false)) ∧ (w = 5 → jt_T.2.2.2.2.1 ci k = (3, false)) ∧ (w = 6 → (jt_T.2.2.2.2.1 ci k).1 = 3 ∧ own = ci) := by
  unfold jc_f at h
  simp only [Bool.and_eq_true, decide_eq_true_eq] at h
  obtain ⟨⟨⟨h1, h2⟩, h3⟩, h4⟩ := h
  refine ⟨h1, h2, h3, ?_, ?_, ?_, ?_, ?_, ?_⟩ <;> intro hw <;> subst hw <;> simpa using h4
/-- a call with an int for an answer; a number that gets a name -/
def jf_bi {Q : Type} (r : Option (Int32 × LH)) (K : Int32 → LH → Option Q) : Option Q := match r with
  | some q => K q.1 q.2
  | none => none
def jf_let {Q : Type} (x : Int32) (K : Int32 → Option Q) : Option Q := K x
section JRM
variable {Q : Type} {d : Nat} {M : JMeth} {ls st ls' : List Value} {h : LH} {o : JOut} {P : Prop} {len : Nat} {q : Q}
theorem jr_gi (pc n : Nat) {idx a ci k : Nat} {K : Int32 → Option Q} (L : M.2.2.2.1.lookup pc = some (.getfield idx, len)) (hf : jc_f M.1 idx ci k 1 = true) (hn : pc + len = n) (kk : ∀ x, K x = some q → JR d M n ls (.int x :: st) h o) : jf_gi h a ci k K = some q → JR d M pc ls (.ref a :: st) h o := fun hq => by
  obtain ⟨h1, h2, h3, h4, -⟩ := jc_f_spec hf
  unfold jf_gi at hq
  split at hq
  · rename_i hk
    refine jr_go L ?_ (kk _ hq)
    simp only [jl_step, jl_get, h1]
    rw [if_neg (by omega), if_pos ⟨hk, h2, h3⟩, if_neg (h4 rfl), hn]
    rfl
  · cases hq
theorem jr_gr (pc n : Nat) {idx a ci k : Nat} {K : Nat → Option Q} (L : M.2.2.2.1.lookup pc = some (.getfield idx, len)) (hf : jc_f M.1 idx ci k 2 = true) (hn : pc + len = n) (kk : ∀ x, K x = some q → JR d M n ls (.ref x :: st) h o) : jf_gr h a ci k K = some q → JR d M pc ls (.ref a :: st) h o := fun hq => by
  obtain ⟨h1, h2, h3, -, h4, -⟩ := jc_f_spec hf
  unfold jf_gr at hq
  split at hq
  · rename_i hk
    cases hp : h.2.2.1 a k with
    | none => rw [hp] at hq; cases hq
    | some b =>
      rw [hp] at hq
      refine jr_go L ?_ (kk b hq)
      simp only [jl_step, jl_get, h1]
      rw [if_neg (by omega), if_pos ⟨hk, h2, h3⟩, if_pos (h4 rfl), hn, hp]
      rfl
  · cases hq
theorem jr_gs0 (pc n : Nat) {idx a : Nat} {K : Option Q} (L : M.2.2.2.1.lookup pc = some (.getfield idx, len)) (hf : jt_T.1 M.1 idx = some (13, 0)) (hn : pc + len = n) (kk : K = some q → JR d M n ls (.ref (a + 21) :: st) h o) : jf_gs h a K = some q → JR d M pc ls (.ref a :: st) h o := fun hq => by
  unfold jf_gs at hq
  split at hq
  · rename_i hk
    refine jr_go L ?_ (kk hq)
    simp only [jl_step, jl_get, hf]
    rw [if_pos trivial, if_pos hk, if_pos trivial, hn]
    rfl
  · cases hq
theorem jr_gs1 (pc n : Nat) {idx a : Nat} {K : Option Q} (L : M.2.2.2.1.lookup pc = some (.getfield idx, len)) (hf : jt_T.1 M.1 idx = some (13, 1)) (hn : pc + len = n) (kk : K = some q → JR d M n ls (.int 0 :: st) h o) : jf_gs h a K = some q → JR d M pc ls (.ref a :: st) h o := fun hq => by
  unfold jf_gs at hq
  split at hq
  · rename_i hk
    refine jr_go L ?_ (kk hq)
    simp only [jl_step, jl_get, hf]
    rw [if_pos trivial, if_pos hk, if_neg (by decide), if_pos trivial, hn]
    rfl
  · cases hq
theorem jr_pi (pc n : Nat) {idx a ci k : Nat} {x : Int32} {K : LH → Option Q} (L : M.2.2.2.1.lookup pc = some (.putfield idx, len)) (hf : jc_f M.1 idx ci k 3 = true) (hn : pc + len = n) (kk : ∀ h', K h' = some q → JR d M n ls st h' o) : jf_pi h a ci k x K = some q → JR d M pc ls (.int x :: .ref a :: st) h o := fun hq => by
  obtain ⟨h1, h2, h3, -, -, h4, -⟩ := jc_f_spec hf
  unfold jf_pi at hq
  split at hq
  · rename_i hk
    refine jr_go L ?_ (kk _ hq)
    simp only [jl_step, jl_put, h1]
    rw [if_pos ⟨hk.1, h2, hk.2, h3, h4 rfl⟩, hn]
    rfl
  · cases hq
theorem jr_pz (pc n : Nat) {idx a ci k : Nat} {x : Int32} {K : LH → Option Q} (L : M.2.2.2.1.lookup pc = some (.putfield idx, len)) (hf : jc_f M.1 idx ci k 4 = true) (hn : pc + len = n) (kk : ∀ h', K h' = some q → JR d M n ls st h' o) : jf_pz h a ci k x K = some q → JR d M pc ls (.int x :: .ref a :: st) h o := fun hq => by
  obtain ⟨h1, h2, h3, -, -, -, h4, -⟩ := jc_f_spec hf
  unfold jf_pz at hq
  split at hq
  · rename_i hk
    refine jr_go L ?_ (kk _ hq)
    simp only [jl_step, jl_put, h1]
    rw [if_neg (fun z => by have := z.2.2.2.2; rw [h4 rfl] at this; cases this), if_pos ⟨hk.1.1, h2, hk.1.2, h3, h4 rfl, hk.2⟩, hn]
    rfl
  · cases hq
theorem jr_pr (pc n : Nat) {idx a ci k b : Nat} {K : LH → Option Q} (L : M.2.2.2.1.lookup pc = some (.putfield idx, len)) (hf : jc_f M.1 idx ci k 5 = true) (hn : pc + len = n) (kk : ∀ h', K h' = some q → JR d M n ls st h' o) : jf_pr h a ci k b K = some q → JR d M pc ls (.ref b :: .ref a :: st) h o := fun hq => by
  obtain ⟨h1, h2, h3, -, -, -, -, h4, -⟩ := jc_f_spec hf
  unfold jf_pr at hq
  split at hq
  · rename_i hk
    refine jr_go L ?_ (kk _ hq)
    simp only [jl_step, jl_put, h1]
    rw [if_pos ⟨hk.1, h2, hk.2, h3, by rw [h4 rfl], Or.inl (by rw [h4 rfl])⟩, hn]
    rfl
  · cases hq
theorem jr_prF (pc n : Nat) {idx a ci k b : Nat} {K : LH → Option Q} (L : M.2.2.2.1.lookup pc = some (.putfield idx, len)) (hini : M.2.1 = true) (hf : jc_f M.1 idx ci k 6 = true) (hn : pc + len = n) (kk : ∀ h', K h' = some q → JR d M n ls st h' o) : jf_pr h a ci k b K = some q → JR d M pc ls (.ref b :: .ref a :: st) h o := fun hq => by
  obtain ⟨h1, h2, h3, -, -, -, -, -, h4⟩ := jc_f_spec hf
  unfold jf_pr at hq
  split at hq
  · rename_i hk
    refine jr_go L ?_ (kk _ hq)
    simp only [jl_step, jl_put, h1]
    rw [if_pos ⟨hk.1, h2, hk.2, h3, (h4 rfl).1, Or.inr ⟨hini, (h4 rfl).2⟩⟩, hn]
    rfl
  · cases hq
theorem jr_ia (pc n : Nat) {a : Nat} {i : Int32} {K : Int32 → Option Q} (L : M.2.2.2.1.lookup pc = some (.iaload, len)) (hn : pc + len = n) (kk : ∀ x, K x = some q → JR d M n ls (.int x :: st) h o) : jf_ia h a i K = some q → JR d M pc ls (.int i :: .ref a :: st) h o := fun hq => by
  unfold jf_ia at hq
  split at hq
  · rename_i hk
    refine jr_go L ?_ (kk _ hq)
    simp only [jl_step, jl_ald]
    rw [if_pos ⟨by simpa using hk.1, hk.2⟩, hn]
    rfl
  · cases hq
theorem jr_ba (pc n : Nat) {a : Nat} {i : Int32} {K : Int32 → Option Q} (L : M.2.2.2.1.lookup pc = some (.baload, len)) (hn : pc + len = n) (kk : ∀ x, K x = some q → JR d M n ls (.int x :: st) h o) : jf_ba h a i K = some q → JR d M pc ls (.int i :: .ref a :: st) h o := fun hq => by
  unfold jf_ba at hq
  split at hq
  · rename_i hk
    refine jr_go L ?_ (kk _ hq)
    simp only [jl_step, jl_ald]
    rw [if_pos ⟨by simpa [or_assoc] using hk.1, hk.2⟩, hn]
    rfl
  · cases hq
theorem jr_aa (pc n : Nat) {a : Nat} {i : Int32} {K : Nat → Option Q} (L : M.2.2.2.1.lookup pc = some (.aaload, len)) (hn : pc + len = n) (kk : ∀ x, K x = some q → JR d M n ls (.ref x :: st) h o) : jf_aa h a i K = some q → JR d M pc ls (.int i :: .ref a :: st) h o := fun hq => by
  unfold jf_aa at hq
  split at hq
  · rename_i hk
    cases hp : h.2.2.1 a i.toNatClampNeg with
    | none => rw [hp] at hq; cases hq
    | some b =>
      rw [hp] at hq
      refine jr_go L ?_ (kk b hq)
      simp only [jl_step, jl_aald]
      rw [if_pos hk, hn, hp]
      rfl
  · cases hq
theorem jr_la (pc n : Nat) {a : Nat} {i : Int32} {K : Int64 → Option Q} (L : M.2.2.2.1.lookup pc = some (.laload, len)) (hn : pc + len = n) (kk : ∀ x, K x = some q → JR d M n ls (.long x :: st) h o) : jf_la h a i K = some q → JR d M pc ls (.int i :: .ref a :: st) h o := fun hq => by
  unfold jf_la at hq
  split at hq
  · rename_i hk
    refine jr_go L ?_ (kk _ hq)
    simp only [jl_step, jl_lald]
    rw [if_pos hk, hn]
    rfl
  · cases hq
theorem jr_is (pc n : Nat) {a : Nat} {i x : Int32} {K : LH → Option Q} (L : M.2.2.2.1.lookup pc = some (.iastore, len)) (hn : pc + len = n) (kk : ∀ h', K h' = some q → JR d M n ls st h' o) : jf_is h a i x K = some q → JR d M pc ls (.int x :: .int i :: .ref a :: st) h o := fun hq => by
  unfold jf_is at hq
  split at hq
  · rename_i hk
    refine jr_go L ?_ (kk _ hq)
    simp only [jl_step, jl_iast]
    rw [if_pos hk, hn]
    rfl
  · cases hq
theorem jr_bs (pc n : Nat) {a : Nat} {i x : Int32} {K : LH → Option Q} (L : M.2.2.2.1.lookup pc = some (.bastore, len)) (hn : pc + len = n) (kk : ∀ h', K h' = some q → JR d M n ls st h' o) : jf_bs h a i x K = some q → JR d M pc ls (.int x :: .int i :: .ref a :: st) h o := fun hq => by
  unfold jf_bs at hq
  split at hq
  · rename_i hk
    refine jr_go L ?_ (kk _ hq)
    simp only [jl_step, jl_bast]
    rw [if_pos hk, hn]
    rfl
  · rename_i hk0
    split at hq
    · rename_i hk
      refine jr_go L ?_ (kk _ hq)
      simp only [jl_step, jl_bast]
      rw [if_neg hk0, if_pos hk, hn]
      rfl
    · cases hq
theorem jr_ls (pc n : Nat) {a : Nat} {i : Int32} {x : Int64} {K : LH → Option Q} (L : M.2.2.2.1.lookup pc = some (.lastore, len)) (hn : pc + len = n) (kk : ∀ h', K h' = some q → JR d M n ls st h' o) : jf_ls h a i x K = some q → JR d M pc ls (.long x :: .int i :: .ref a :: st) h o := fun hq => by
  unfold jf_ls at hq
  split at hq
  · rename_i hk
    refine jr_go L ?_ (kk _ hq)
    simp only [jl_step, jl_last]
    rw [if_pos hk, hn]
    rfl
  · cases hq
theorem jr_as (pc n : Nat) {a v : Nat} {i : Int32} {K : LH → Option Q} (L : M.2.2.2.1.lookup pc = some (.aastore, len)) (hn : pc + len = n) (kk : ∀ h', K h' = some q → JR d M n ls st h' o) : jf_as h a i v K = some q → JR d M pc ls (.ref v :: .int i :: .ref a :: st) h o := fun hq => by
  unfold jf_as at hq
  split at hq
  · rename_i hk
    refine jr_go L ?_ (kk _ hq)
    simp only [jl_step, jl_aast]
    rw [if_pos hk, hn]
    rfl
  · cases hq
theorem jr_al (pc n : Nat) {a : Nat} {K : Int32 → Option Q} (L : M.2.2.2.1.lookup pc = some (.arraylength, len)) (hn : pc + len = n) (kk : ∀ x, K x = some q → JR d M n ls (.int x :: st) h o) : jf_al h a K = some q → JR d M pc ls (.ref a :: st) h o := fun hq => by
  unfold jf_al at hq
  split at hq
  · rename_i hk
    refine jr_go L ?_ (kk _ hq)
    simp only [jl_step, jl_alen]
    rw [if_pos hk, hn]
    rfl
  · cases hq
theorem jr_na (pc n : Nat) {t : ArrayType} {kd : Nat} {x : Int32} {K : Nat → LH → Option Q} (L : M.2.2.2.1.lookup pc = some (.newarray t, len)) (ht : jl_akd t = kd) (hk9 : decide (kd < 900) = true) (hn : pc + len = n) (kk : ∀ a h', K a h' = some q → JR d M n ls (.ref a :: st) h' o) : jf_na h kd x K = some q → JR d M pc ls (.int x :: st) h o := fun hq => by
  subst ht
  unfold jf_na at hq
  split at hq
  · rename_i hk
    refine jr_go L ?_ (kk _ _ hq)
    simp only [jl_step, jl_newa]
    rw [if_pos ⟨hk.1, hk.2.1, of_decide_eq_true hk9, hk.2.2⟩, hn]
    rfl
  · cases hq
theorem jr_an (pc n : Nat) {idx : Nat} {x : Int32} {K : Nat → LH → Option Q} (L : M.2.2.2.1.lookup pc = some (.anewarray idx, len)) (hT : jt_T.2.2.1 M.1 idx = some 2) (hn : pc + len = n) (kk : ∀ a h', K a h' = some q → JR d M n ls (.ref a :: st) h' o) : jf_na h 25 x K = some q → JR d M pc ls (.int x :: st) h o := fun hq => by
  unfold jf_na at hq
  split at hq
  · rename_i hk
    refine jr_go L ?_ (kk _ _ hq)
    simp only [jl_step, jl_anew]
    rw [if_pos ⟨hk.1, hk.2.1, hT, hk.2.2⟩, hn]
    rfl
  · cases hq
theorem jr_mn (pc n : Nat) {idx dim : Nat} {x y : Int32} {K : Nat → LH → Option Q} (L : M.2.2.2.1.lookup pc = some (.multianewarray idx dim, len)) (hT : jt_T.2.2.1 M.1 idx = some 24) (hd2 : dim = 2) (hn : pc + len = n) (kk : ∀ a h', K a h' = some q → JR d M n ls (.ref a :: st) h' o) : jf_mn h x y K = some q → JR d M pc ls (.int y :: .int x :: st) h o := fun hq => by
  unfold jf_mn at hq
  split at hq
  · rename_i hk
    refine jr_go L ?_ (kk _ _ hq)
    simp only [jl_step, jl_mnew]
    rw [if_pos ⟨hk.1, hk.2.1, hk.2.2.1, hk.2.2.2.1, hd2, hT, hk.2.2.2.2⟩, hn]
    rfl
  · cases hq
theorem jr_nw (pc n : Nat) {idx ci m : Nat} {K : Nat → LH → Option Q} (L : M.2.2.2.1.lookup pc = some (.new idx, len)) (hT : jt_T.2.2.1 M.1 idx = some ci) (hc : decide (ci < 12) = true) (hm : jt_T.2.2.2.2.2.1 ci = m) (hn : pc + len = n) (kk : ∀ a h', K a h' = some q → JR d M n ls (.ref a :: st) h' o) : jf_nw h ci m K = some q → JR d M pc ls st h o := fun hq => by
  subst hm
  unfold jf_nw at hq
  split at hq
  · rename_i hk
    refine jr_go L ?_ (kk _ _ hq)
    simp only [jl_step, jl_mk, hT]
    rw [if_pos ⟨of_decide_eq_true hc, hk⟩, hn]
    rfl
  · cases hq
theorem jr_idiv (pc n : Nat) {x y : Int32} {K : Int32 → Option Q} (L : M.2.2.2.1.lookup pc = some (.idiv, len)) (hn : pc + len = n) (kk : ∀ z, K z = some q → JR d M n ls (.int z :: st) h o) : jf_dv y (x / y) K = some q → JR d M pc ls (.int y :: .int x :: st) h o := fun hq => by
  unfold jf_dv at hq
  split at hq
  · cases hq
  · rename_i hk
    refine jr_go L ?_ (kk _ hq)
    simp only [jl_step, jl_div]
    rw [if_neg hk, hn]
    rfl
theorem jr_irem (pc n : Nat) {x y : Int32} {K : Int32 → Option Q} (L : M.2.2.2.1.lookup pc = some (.irem, len)) (hn : pc + len = n) (kk : ∀ z, K z = some q → JR d M n ls (.int z :: st) h o) : jf_dv y (x - x / y * y) K = some q → JR d M pc ls (.int y :: .int x :: st) h o := fun hq => by
  unfold jf_dv at hq
  split at hq
  · cases hq
  · rename_i hk
    refine jr_go L ?_ (kk _ hq)
    simp only [jl_step, jl_div]
    rw [if_neg hk, hn]
    rfl
theorem jr_istoreL (pc n : Nat) (mk : Int32 → List Value) {i : Nat} {x : Int32} {K : Int32 → Option Q} (L : M.2.2.2.1.lookup pc = some (.istore i, len)) (hi : decide (i < ls.length) = true) (hs : ∀ v, ls.set i (.int v) = mk v) (hn : pc + len = n) (k : ∀ v, K v = some q → JR d M n (mk v) st h o) : jf_let x K = some q → JR d M pc ls (.int x :: st) h o := fun hK => jr_istore pc n (mk x) L hi (hs x) hn (k x) hK
theorem jr_istorenL (pc n : Nat) (mk : Int32 → List Value) {i : Fin 4} {x : Int32} {K : Int32 → Option Q} (L : M.2.2.2.1.lookup pc = some (.istore_n i, len)) (hi : decide ((i : Nat) < ls.length) = true) (hs : ∀ v, ls.set i (.int v) = mk v) (hn : pc + len = n) (k : ∀ v, K v = some q → JR d M n (mk v) st h o) : jf_let x K = some q → JR d M pc ls (.int x :: st) h o := fun hK => jr_istoren pc n (mk x) L hi (hs x) hn (k x) hK
/-! calls -/
def jc_c (na : Nat) (st : List Value) : Bool := decide (na ≤ st.length) && decide ((jl_pop na st).2.length ≤ 8) && st.all (fun v => decide (v.category = 1))
theorem jc_c_spec {na : Nat} {st : List Value} (h : jc_c na st = true) : na ≤ st.length ∧ (jl_pop na st).2.length ≤ 8 ∧ st.all (fun v => decide (v.category = 1)) = true := by
  unfold jc_c at h
  simp only [Bool.and_eq_true, decide_eq_true_eq] at h
  exact ⟨h.1.1, h.1.2, h.2⟩
theorem jl_inv_m {own idx m how : Nat} {ls st : List Value} {h : LH} {pc : Nat} (hT : jt_T.2.1 own idx = some m) (hm : m < 9000) : jl_inv jt_T own idx ls st h pc how = (if (jt_T.2.2.2.2.2.2 m).1 ≤ st.length ∧ (jl_pop (jt_T.2.2.2.2.2.2 m).1 st).2.length ≤ 8 ∧ st.all (fun v => decide (v.category = 1)) = true then
      (if how = 2 then (if (jt_T.2.2.2.2.2.2 m).2 = 999 then some (.inr (.inr (.inl (how, m, jl_pop (jt_T.2.2.2.2.2.2 m).1 st)))) else none)
       else match (jl_pop (jt_T.2.2.2.2.2.2 m).1 st).1 with
        | .ref a :: _ => if jl_kd h a = (jt_T.2.2.2.2.2.2 m).2 ∧ (jt_T.2.2.2.2.2.2 m).2 < 999 then some (.inr (.inr (.inl (how, m, jl_pop (jt_T.2.2.2.2.2.2 m).1 st)))) else none
        | _ => none)
    else none) := by
  unfold jl_inv
  rw [hT]
  split
  · rename_i he; cases he; exact absurd hm (by decide)
  · rename_i he; cases he; exact absurd hm (by decide)
  · rename_i he; cases he; exact absurd hm (by decide)
  · rename_i he; cases he; exact absurd hm (by decide)
  · rename_i he; cases he; exact absurd hm (by decide)
  · rename_i he; cases he; rfl
  · rename_i he; cases he
theorem jl_inv_s {own idx m na : Nat} {ls st as rest : List Value} {h : LH} {pc : Nat} (hT : jt_T.2.1 own idx = some m) (hm : decide (m < 9000) = true) (hA : jt_T.2.2.2.2.2.2 m = (na, 999)) (hc : jc_c na st = true) (hp : jl_pop na st = (as, rest)) : jl_inv jt_T own idx ls st h pc 2 = some (.inr (.inr (.inl (2, m, as, rest)))) := by
  rw [jl_inv_m hT (of_decide_eq_true hm), hA]
  dsimp only
  rw [if_pos (jc_c_spec hc), if_pos rfl, if_pos rfl, hp]
theorem jl_inv_v {own idx m na rk how a : Nat} {ls st as rest : List Value} {h : LH} {pc : Nat} (hT : jt_T.2.1 own idx = some m) (hm : decide (m < 9000) = true) (hA : jt_T.2.2.2.2.2.2 m = (na, rk)) (hr : decide (rk < 999) = true) (hw : decide (how = 2) = false) (hc : jc_c na st = true) (hp : jl_pop na st = (.ref a :: as, rest)) (hk : jl_kd h a = rk) : jl_inv jt_T own idx ls st h pc how = some (.inr (.inr (.inl (how, m, .ref a :: as, rest)))) := by
  rw [jl_inv_m hT (of_decide_eq_true hm), hA]
  dsimp only
  rw [if_pos (jc_c_spec hc), if_neg (of_decide_eq_false hw), hp]
  dsimp only
  rw [if_pos ⟨hk, of_decide_eq_true hr⟩]
theorem jr_call {pc n m how : Nat} {i : Instr} {as rest : List Value} {v : Option Value} {h1 : LH} (L : M.2.2.2.1.lookup pc = some (i, len)) (hs : jl_step jt_T M.1 M.2.1 M.2.2.1 i len pc ls st h = some (.inr (.inr (.inl (how, m, as, rest))))) (hn : pc + len = n) (hc : jl_Sem jt_T jt_Ms d m as h (.inl v, h1)) (k : JR d M n ls (v.toList ++ rest) h1 o) : JR d M pc ls st h o := by
  subst hn
  obtain ⟨j, hj⟩ := k
  refine ⟨j + 1, ?_⟩
  unfold jl_run
  rw [L]
  dsimp only
  rw [hs]
  exact ⟨(.inl v, h1), hc, hj⟩
theorem jr_thrown {pc m how x : Nat} {i : Instr} {as rest : List Value} {h1 : LH} (L : M.2.2.2.1.lookup pc = some (i, len)) (hs : jl_step jt_T M.1 M.2.1 M.2.2.1 i len pc ls st h = some (.inr (.inr (.inl (how, m, as, rest))))) (hw : ¬ how = 1) (hh : M.2.2.2.2.1 = []) (hc : jl_Sem jt_T jt_Ms d m as h (.inr x, h1)) : JR d M pc ls st h (.inr x, h1) := by
  refine ⟨1, ?_⟩
  unfold jl_run
  rw [L]
  dsimp only
  rw [hs]
  refine ⟨(.inr x, h1), hc, hw, ?_⟩
  rw [hh]
  exact ⟨rfl, rfl⟩
theorem jr_caught {pc n m how x hp : Nat} {i : Instr} {as rest : List Value} {h1 : LH} {ls' : List Value} (L : M.2.2.2.1.lookup pc = some (i, len)) (hs : jl_step jt_T M.1 M.2.1 M.2.2.1 i len pc ls st h = some (.inr (.inr (.inl (how, m, as, rest))))) (hw : ¬ how = 1) (hh : M.2.2.2.2.1.lookup x = some hp) (hc : jl_Sem jt_T jt_Ms d m as h (.inr x, h1)) (hcat : jl_catch M hp ls = some (n, ls')) (k : JR d M n ls' [] h1 o) : JR d M pc ls st h o := by
  obtain ⟨j, hj⟩ := k
  refine ⟨j + 1, ?_⟩
  unfold jl_run
  rw [L]
  dsimp only
  rw [hs]
  refine ⟨(.inr x, h1), hc, hw, ?_⟩
  dsimp only
  rw [hh]
  dsimp only
  rw [hcat]
  exact hj
/-- static: void, an int; virtual: the same -/
theorem jr_cSv (pc n : Nat) {idx m na : Nat} {as : List Value} (rest : List Value) {r : Option LH} {K : LH → Option Q} (L : M.2.2.2.1.lookup pc = some (.invokestatic idx, len)) (hT : jt_T.2.1 M.1 idx = some m) (hm : decide (m < 9000) = true) (hA : jt_T.2.2.2.2.2.2 m = (na, 999)) (hc : jc_c na st = true) (hp : jl_pop na st = (as, rest)) (hn : pc + len = n) (hr : ∀ {h1}, r = some h1 → jl_Sem jt_T jt_Ms d m as h (jo_v h1)) (kk : ∀ h1, K h1 = some q → JR d M n ls rest h1 o) : r.bind K = some q → JR d M pc ls st h o := fun hq => by
  cases hr1 : r with
  | none => rw [hr1] at hq; cases hq
  | some h1 =>
    rw [hr1] at hq
    exact jr_call L (jl_inv_s hT hm hA hc hp) hn (hr hr1) (kk h1 hq)
theorem jr_cSi (pc n : Nat) {idx m na : Nat} {as : List Value} (rest : List Value) {r : Option (Int32 × LH)} {K : Int32 → LH → Option Q} (L : M.2.2.2.1.lookup pc = some (.invokestatic idx, len)) (hT : jt_T.2.1 M.1 idx = some m) (hm : decide (m < 9000) = true) (hA : jt_T.2.2.2.2.2.2 m = (na, 999)) (hc : jc_c na st = true) (hp : jl_pop na st = (as, rest)) (hn : pc + len = n) (hr : ∀ {q1}, r = some q1 → jl_Sem jt_T jt_Ms d m as h (jo_i q1)) (kk : ∀ x h1, K x h1 = some q → JR d M n ls (.int x :: rest) h1 o) : jf_bi r K = some q → JR d M pc ls st h o := fun hq => by
  cases hr1 : r with
  | none => rw [hr1] at hq; cases hq
  | some q1 =>
    rw [hr1] at hq
    exact jr_call L (jl_inv_s hT hm hA hc hp) hn (hr hr1) (kk q1.1 q1.2 hq)
theorem jr_cVv (pc n : Nat) {idx m na rk a : Nat} {as : List Value} (rest : List Value) {r : Option LH} {K : LH → Option Q} (L : M.2.2.2.1.lookup pc = some (.invokevirtual idx, len)) (hT : jt_T.2.1 M.1 idx = some m) (hm : decide (m < 9000) = true) (hA : jt_T.2.2.2.2.2.2 m = (na, rk)) (hrk : decide (rk < 999) = true) (hc : jc_c na st = true) (hp : jl_pop na st = (.ref a :: as, rest)) (hn : pc + len = n) (hr : ∀ {h1}, r = some h1 → jl_Sem jt_T jt_Ms d m (.ref a :: as) h (jo_v h1)) (kk : ∀ h1, K h1 = some q → JR d M n ls rest h1 o) : jf_kd h a rk (r.bind K) = some q → JR d M pc ls st h o := jr_ite (fun hk hq => by
  cases hr1 : r with
  | none => rw [hr1] at hq; cases hq
  | some h1 =>
    rw [hr1] at hq
    exact jr_call L (jl_inv_v hT hm hA hrk rfl hc hp hk) hn (hr hr1) (kk h1 hq)) (fun _ hq => by cases hq)
theorem jr_cIv (pc n : Nat) {idx m na rk a : Nat} {as : List Value} (rest : List Value) {r : Option LH} {K : LH → Option Q} (L : M.2.2.2.1.lookup pc = some (.invokespecial idx, len)) (hT : jt_T.2.1 M.1 idx = some m) (hm : decide (m < 9000) = true) (hA : jt_T.2.2.2.2.2.2 m = (na, rk)) (hrk : decide (rk < 999) = true) (hc : jc_c na st = true) (hp : jl_pop na st = (.ref a :: as, rest)) (hn : pc + len = n) (hr : ∀ {h1}, r = some h1 → jl_Sem jt_T jt_Ms d m (.ref a :: as) h (jo_v h1)) (kk : ∀ h1, K h1 = some q → JR d M n ls rest h1 o) : jf_kd h a rk (r.bind K) = some q → JR d M pc ls st h o := jr_ite (fun hk hq => by
  cases hr1 : r with
  | none => rw [hr1] at hq; cases hq
  | some h1 =>
    rw [hr1] at hq
    exact jr_call L (jl_inv_v hT hm hA hrk rfl hc hp hk) hn (hr hr1) (kk h1 hq)) (fun _ hq => by cases hq)
theorem jr_cVi (pc n : Nat) {idx m na rk a : Nat} {as : List Value} (rest : List Value) {r : Option (Int32 × LH)} {K : Int32 → LH → Option Q} (L : M.2.2.2.1.lookup pc = some (.invokevirtual idx, len)) (hT : jt_T.2.1 M.1 idx = some m) (hm : decide (m < 9000) = true) (hA : jt_T.2.2.2.2.2.2 m = (na, rk)) (hrk : decide (rk < 999) = true) (hc : jc_c na st = true) (hp : jl_pop na st = (.ref a :: as, rest)) (hn : pc + len = n) (hr : ∀ {q1}, r = some q1 → jl_Sem jt_T jt_Ms d m (.ref a :: as) h (jo_i q1)) (kk : ∀ x h1, K x h1 = some q → JR d M n ls (.int x :: rest) h1 o) : jf_kd h a rk (jf_bi r K) = some q → JR d M pc ls st h o := jr_ite (fun hk hq => by
  cases hr1 : r with
  | none => rw [hr1] at hq; cases hq
  | some q1 =>
    rw [hr1] at hq
    exact jr_call L (jl_inv_v hT hm hA hrk rfl hc hp hk) hn (hr hr1) (kk q1.1 q1.2 hq)) (fun _ hq => by cases hq)
/-- virtual, may throw, void; not in a try -/
theorem jr_cVt (pc n : Nat) {idx m na rk a : Nat} {as : List Value} (rest : List Value) {r : Option JOut} {K : LH → Option JOut} {q : JOut} (L : M.2.2.2.1.lookup pc = some (.invokevirtual idx, len)) (hT : jt_T.2.1 M.1 idx = some m) (hm : decide (m < 9000) = true) (hA : jt_T.2.2.2.2.2.2 m = (na, rk)) (hrk : decide (rk < 999) = true) (hc : jc_c na st = true) (hp : jl_pop na st = (.ref a :: as, rest)) (hn : pc + len = n) (hh : M.2.2.2.2.1 = []) (hr : ∀ {q1}, r = some q1 → jl_Sem jt_T jt_Ms d m (.ref a :: as) h q1) (kk : ∀ h1, K h1 = some q → JR d M n ls rest h1 q) : jf_kd h a rk (jf_th r K) = some q → JR d M pc ls st h q := jr_ite (fun hk hq => by
  have hs := jl_inv_v (ls := ls) (pc := pc + len) (how := 3) hT hm hA hrk rfl hc hp hk
  unfold jf_th at hq
  split at hq
  · rename_i h1
    exact jr_call (v := none) L hs hn (hr rfl) (kk h1 hq)
  · rename_i x h1
    cases hq
    exact jr_thrown L hs (by decide) hh (hr rfl)
  · cases hq) (fun _ hq => by cases hq)
/-- virtual, may throw, an int; in a try -/
theorem jr_cVc (pc n : Nat) {idx m na rk a n0 n1 : Nat} {as : List Value} (rest : List Value) {r : Option JOut} {K : Int32 → LH → Option Q} {C0 C1 : LH → Option Q} {l0 l1 : List Value} (L : M.2.2.2.1.lookup pc = some (.invokevirtual idx, len)) (hT : jt_T.2.1 M.1 idx = some m) (hm : decide (m < 9000) = true) (hA : jt_T.2.2.2.2.2.2 m = (na, rk)) (hrk : decide (rk < 999) = true) (hc : jc_c na st = true) (hp : jl_pop na st = (.ref a :: as, rest)) (hn : pc + len = n) (hr : ∀ {q1}, r = some q1 → jl_Sem jt_T jt_Ms d m (.ref a :: as) h q1) (kk : ∀ x h1, K x h1 = some q → JR d M n ls (.int x :: rest) h1 o)
    (h0 : (∀ h1, C0 h1 = none) ∨ (((M.2.2.2.2.1.lookup 0).bind (fun hp => jl_catch M hp ls)) = some (n0, l0) ∧ ∀ h1, C0 h1 = some q → JR d M n0 l0 [] h1 o))
    (h1 : (∀ h1, C1 h1 = none) ∨ (((M.2.2.2.2.1.lookup 1).bind (fun hp => jl_catch M hp ls)) = some (n1, l1) ∧ ∀ h1, C1 h1 = some q → JR d M n1 l1 [] h1 o)) : jf_kd h a rk (jf_ct r K C0 C1) = some q → JR d M pc ls st h o := jr_ite (fun hk hq => by
  have hs := jl_inv_v (ls := ls) (pc := pc + len) (how := 3) hT hm hA hrk rfl hc hp hk
  have key : ∀ (x n9 : Nat) (l9 : List Value) (h2 : LH) (C : LH → Option Q), ((M.2.2.2.2.1.lookup x).bind (fun hp => jl_catch M hp ls)) = some (n9, l9) → (∀ h1, C h1 = some q → JR d M n9 l9 [] h1 o) → C h2 = some q → jl_Sem jt_T jt_Ms d m (.ref a :: as) h (.inr x, h2) → JR d M pc ls st h o := by
    intro x n9 l9 h2 C e1 e2 e3 e4
    cases hl : M.2.2.2.2.1.lookup x with
    | none => rw [hl] at e1; cases e1
    | some hp9 =>
      rw [hl] at e1
      exact jr_caught L hs (by decide) hl e4 e1 (e2 h2 e3)
  unfold jf_ct at hq
  split at hq
  · rename_i x h2
    exact jr_call (v := some (.int x)) L hs hn (hr rfl) (kk x h2 hq)
  · rename_i h2
    rcases h0 with h0 | ⟨e1, e2⟩
    · rw [h0] at hq; cases hq
    · exact key 0 _ _ h2 C0 e1 e2 hq (hr rfl)
  · rename_i h2
    rcases h1 with h1 | ⟨e1, e2⟩
    · rw [h1] at hq; cases hq
    · exact key 1 _ _ h2 C1 e1 e2 hq (hr rfl)
  · cases hq) (fun _ hq => by cases hq)
/-! Object.<init>, arraycopy, min, max, abs -/
theorem jr_oi (pc n : Nat) {idx a : Nat} (L : M.2.2.2.1.lookup pc = some (.invokespecial idx, len)) (hT : jt_T.2.1 M.1 idx = some 9000) (hl : decide (st.length ≤ 8) = true) (hn : pc + len = n) (k : P → JR d M n ls st h o) : P → JR d M pc ls (.ref a :: st) h o := fun hK => jr_go L (by simp only [jl_step, jl_inv, hT]; rw [if_pos trivial, if_pos (of_decide_eq_true hl), hn]; rfl) (k hK)
theorem jr_min (pc n : Nat) {idx : Nat} {x y : Int32} (L : M.2.2.2.1.lookup pc = some (.invokestatic idx, len)) (hT : jt_T.2.1 M.1 idx = some 9002) (hl : decide (st.length ≤ 8) = true) (hn : pc + len = n) (k : P → JR d M n ls (.int (if y < x then y else x) :: st) h o) : P → JR d M pc ls (.int y :: .int x :: st) h o := fun hK => jr_go L (by simp only [jl_step, jl_inv, hT]; rw [if_pos trivial, if_pos (of_decide_eq_true hl), hn]; rfl) (k hK)
theorem jr_max (pc n : Nat) {idx : Nat} {x y : Int32} (L : M.2.2.2.1.lookup pc = some (.invokestatic idx, len)) (hT : jt_T.2.1 M.1 idx = some 9003) (hl : decide (st.length ≤ 8) = true) (hn : pc + len = n) (k : P → JR d M n ls (.int (if x < y then y else x) :: st) h o) : P → JR d M pc ls (.int y :: .int x :: st) h o := fun hK => jr_go L (by simp only [jl_step, jl_inv, hT]; rw [if_pos trivial, if_pos (of_decide_eq_true hl), hn]; rfl) (k hK)
theorem jr_abs (pc n : Nat) {idx : Nat} {x : Int32} (L : M.2.2.2.1.lookup pc = some (.invokestatic idx, len)) (hT : jt_T.2.1 M.1 idx = some 9004) (hl : decide (st.length ≤ 8) = true) (hn : pc + len = n) (k : P → JR d M n ls (.int (if 0 ≤ x then x else 0 - x) :: st) h o) : P → JR d M pc ls (.int x :: st) h o := fun hK => jr_go L (by simp only [jl_step, jl_inv, hT]; rw [if_pos trivial, if_pos (of_decide_eq_true hl), hn]; rfl) (k hK)
theorem jr_ac (pc n : Nat) {idx a b : Nat} {sp dp x : Int32} {K : LH → Option Q} (L : M.2.2.2.1.lookup pc = some (.invokestatic idx, len)) (hT : jt_T.2.1 M.1 idx = some 9001) (hl : decide (st.length ≤ 4) = true) (hn : pc + len = n) (kk : ∀ h1, K h1 = some q → JR d M n ls st h1 o) : jf_ac h a sp b dp x K = some q → JR d M pc ls (.int x :: .int dp :: .ref b :: .int sp :: .ref a :: st) h o := jr_ite (fun hk hq => jr_go L (by
  obtain ⟨h1, h2, h3, h4, h5, h6, h7, h8, h9, h10⟩ := hk
  simp only [jl_step, jl_inv, hT]
  rw [if_pos trivial, if_pos ⟨h1, h2, h3, h4, h5, h6, h7, h8, h9, h10, of_decide_eq_true hl⟩, hn]
  rfl) (kk _ hq)) (fun _ hq => by cases hq)
/-! ends -/
theorem jr_end {pc : Nat} {i : Instr} {v : Option Value} (L : M.2.2.2.1.lookup pc = some (i, len)) (hs : jl_step jt_T M.1 M.2.1 M.2.2.1 i len pc ls st h = some (.inr (.inl v))) : JR d M pc ls st h (.inl v, h) := by
  refine ⟨1, ?_⟩
  unfold jl_run
  rw [L]
  dsimp only
  rw [hs]
theorem jr_rv (pc : Nat) {q : LH} (L : M.2.2.2.1.lookup pc = some (.return_, len)) (hr : M.2.2.1 = 0) : some h = some q → JR d M pc ls [] h (jo_v q) := fun hq => by
  cases hq
  exact jr_end L (by simp only [jl_step]; rw [if_pos ⟨hr, trivial⟩])
theorem jr_ri (pc : Nat) {x : Int32} {q : Int32 × LH} (L : M.2.2.2.1.lookup pc = some (.ireturn, len)) (hr : M.2.2.1 = 1) : some (x, h) = some q → JR d M pc ls [.int x] h (jo_i q) := fun hq => by
  cases hq
  exact jr_end L (by simp only [jl_step, jl_ret]; rw [if_pos (Or.inl hr)])
theorem jr_rz (pc : Nat) {x : Int32} {q : Int32 × LH} (L : M.2.2.2.1.lookup pc = some (.ireturn, len)) (hr : M.2.2.1 = 2) : jf_rz x (some (x, h)) = some q → JR d M pc ls [.int x] h (jo_i q) := jr_ite (fun hc hq => by
  cases hq
  exact jr_end L (by simp only [jl_step, jl_ret]; rw [if_pos (Or.inr (Or.inl ⟨hr, hc⟩))])) (fun _ hq => by cases hq)
theorem jr_rb (pc : Nat) {x : Int32} {q : Int32 × LH} (L : M.2.2.2.1.lookup pc = some (.ireturn, len)) (hr : M.2.2.1 = 3) : jf_rb x (some (x, h)) = some q → JR d M pc ls [.int x] h (jo_i q) := jr_ite (fun hc hq => by
  cases hq
  exact jr_end L (by simp only [jl_step, jl_ret]; rw [if_pos (Or.inr (Or.inr (Or.inl ⟨hr, hc⟩)))])) (fun _ hq => by cases hq)
theorem jr_rc (pc : Nat) {x : Int32} {q : Int32 × LH} (L : M.2.2.2.1.lookup pc = some (.ireturn, len)) (hr : M.2.2.1 = 4) : jf_rc x (some (x, h)) = some q → JR d M pc ls [.int x] h (jo_i q) := jr_ite (fun hc hq => by
  cases hq
  exact jr_end L (by simp only [jl_step, jl_ret]; rw [if_pos (Or.inr (Or.inr (Or.inr ⟨hr, hc⟩)))])) (fun _ hq => by cases hq)
/-- ends of a method that may throw -/
theorem jr_rvT (pc : Nat) {q : JOut} (L : M.2.2.2.1.lookup pc = some (.return_, len)) (hr : M.2.2.1 = 0) : some (jo_v h) = some q → JR d M pc ls [] h q := fun hq => by
  cases hq
  exact jr_end L (by simp only [jl_step]; rw [if_pos ⟨hr, trivial⟩])
theorem jr_riT (pc : Nat) {x : Int32} {q : JOut} (L : M.2.2.2.1.lookup pc = some (.ireturn, len)) (hr : M.2.2.1 = 1) : some (jo_i (x, h)) = some q → JR d M pc ls [.int x] h q := fun hq => by
  cases hq
  exact jr_end L (by simp only [jl_step, jl_ret]; rw [if_pos (Or.inl hr)])
theorem jr_rzT (pc : Nat) {x : Int32} {q : JOut} (L : M.2.2.2.1.lookup pc = some (.ireturn, len)) (hr : M.2.2.1 = 2) : jf_rz x (some (jo_i (x, h))) = some q → JR d M pc ls [.int x] h q := jr_ite (fun hc hq => by
  cases hq
  exact jr_end L (by simp only [jl_step, jl_ret]; rw [if_pos (Or.inr (Or.inl ⟨hr, hc⟩))])) (fun _ hq => by cases hq)
theorem jr_throw (pc : Nat) {idx ci k : Nat} {q : JOut} (L : M.2.2.2.1.lookup pc = some (.new idx, len)) (hT : jt_T.2.2.1 M.1 idx = some ci) (hc : decide (100 ≤ ci) = true) (hk : ci - 100 = k) (hh : M.2.2.2.2.1 = []) : some ((.inr k, jl_junk h 6) : JOut) = some q → JR d M pc ls [] h q := fun hq => by
  cases hq
  subst hk
  have hc' := of_decide_eq_true hc
  refine ⟨1, ?_⟩
  unfold jl_run
  rw [L]
  have hs : jl_step jt_T M.1 M.2.1 M.2.2.1 (.new idx) len pc ls [] h = some (.inr (.inr (.inr (ci - 100)))) := by
    simp only [jl_step, jl_mk, hT]
    rw [if_neg (fun z => by have := z.1; omega), if_pos ⟨hc', trivial⟩]
  dsimp only
  rw [hs]
  exact ⟨hh, rfl⟩
/-! switches -/
theorem jr_ne {x c : Int32} {k : Int} (hc : c.toInt = k) (h : ¬ x = c) : x.toInt ≠ k := fun e => h (Int32.toInt_inj.mp (e.trans hc.symm))
theorem jr_tsD (pc n : Nat) {x : Int32} {dd lo hi : Int} {offs : Array Int} (L : M.2.2.2.1.lookup pc = some (.tableswitch dd lo hi offs, len)) (hx : x.toInt < lo ∨ hi < x.toInt) (hn : (pc : Int) + dd = (n : Int)) (k : P → JR d M n ls st h o) : P → JR d M pc ls (.int x :: st) h o := fun hP => jr_go L (by simp only [jl_step]; rw [if_pos hx]; unfold jl_go; rw [hn, if_pos (Int.natCast_nonneg n)]; rfl) (k hP)
theorem jr_tsI (pc n : Nat) {x c : Int32} {off : Int} {dd lo hi : Int} {offs : Array Int} (hx : x = c) (L : M.2.2.2.1.lookup pc = some (.tableswitch dd lo hi offs, len)) (hb : decide (c.toInt < lo ∨ hi < c.toInt) = false) (ho : offs[(c.toInt - lo).toNat]? = some off) (hn : (pc : Int) + off = (n : Int)) (k : P → JR d M n ls st h o) : P → JR d M pc ls (.int x :: st) h o := fun hP => by
  subst hx
  exact jr_go L (by simp only [jl_step]; rw [if_neg (of_decide_eq_false hb), ho]; simp only [Option.elim_some]; unfold jl_go; rw [hn, if_pos (Int.natCast_nonneg n)]; rfl) (k hP)
theorem jr_lsw (pc n : Nat) {x : Int32} {dd off : Int} {ps : Array (Int × Int)} (L : M.2.2.2.1.lookup pc = some (.lookupswitch dd ps, len)) (hs : (ps.toList.zip (ps.toList.drop 1)).all (fun (a, next) => a.1 < next.1) = true) (ho : Op.lookupswitch.offset ps.toList dd x.toInt = off) (hn : (pc : Int) + off = (n : Int)) (k : P → JR d M n ls st h o) : P → JR d M pc ls (.int x :: st) h o := fun hP => jr_go L (by simp only [jl_step]; rw [if_pos hs, ho]; unfold jl_go; rw [hn, if_pos (Int.natCast_nonneg n)]; rfl) (k hP)
/-! the entry -/
theorem jr_enter {m D : Nat} {as : List Value} {M : JMeth} {ls : List Value} (hd : D + 1 ≤ d) (hM : jt_Ms m = some M) (hl : decide (as.length ≤ M.2.2.2.2.2) = true) (hc : as.all (fun v => decide (v.category = 1)) = true) (he : jl_entry as M.2.2.2.2.2 = ls) (k : ∀ d', D ≤ d' → P → JR d' M 0 ls [] h o) : P → jl_Sem jt_T jt_Ms d m as h o := fun hP => by
  obtain ⟨d', rfl⟩ : ∃ d', d = d' + 1 := ⟨d - 1, by omega⟩
  refine ⟨M, hM, of_decide_eq_true hl, hc, ?_⟩
  rw [he]
  exact k d' (by omega) hP
end JRM

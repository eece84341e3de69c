/-! THE LIGHT MACHINE IS SOUND, 2: numbers and the stack; reads of the heap -/
def jw_tys (w : JW) : List (ClassId × FieldType) := [(w.2.2.2.2.1 20, .int), (w.2.2.2.2.1 21, .byte), (w.2.2.2.2.1 22, .boolean), (w.2.2.2.2.1 23, .long), (w.2.2.2.2.1 24, .array .int), (w.2.2.2.2.1 25, .object "SmokeGates$History")]
def jw_nest (q : Cond) : Bool := match q with
  | .methodLinkNest _ _ _ _ => true
  | _ => false
/-- what was there at the start: the kinds of the places below 64; Strings and their bytes; the script; statics -/
def jw_X (w : JW) (s : State) (H : Heap) : Prop :=
  (∀ (a : Nat) (q : Nat × Nat), a < 64 → w.2.2.2.2.2.2[a]? = some q → 30 ≤ q.1 ∧ q.1 ≤ 32) ∧
  (∀ (a n : Nat), w.2.2.2.2.2.2[a]? = some (31, n) → va_O "java/lang/String" (w.2.1 a) (fun q => w.1 ≤ q) s H ∧ va_OF "java/lang/String" "coder" "B" (.int 0) (w.2.1 a) (fun q => w.1 ≤ q) s H ∧ va_OF "java/lang/String" "value" "[B" (.ref (w.2.1 (a + 21))) (w.2.1 a) (fun q => w.1 ≤ q) s H ∧ a + 21 < 64) ∧
  (∀ (a n : Nat), w.2.2.2.2.2.2[a]? = some (32, n) → va_T .byte (w.2.1 a) n (fun j => .int (w.2.2.2.2.2.1 a j)) (fun q => w.1 ≤ q) s H) ∧
  (∀ (a n : Nat), w.2.2.2.2.2.2[a]? = some (30, n) → va_X (w.2.1 a) n (w.2.2.2.2.2.1 a) s H ∧ w.2.1 a < w.1 ∧ w.2.1 a < H.size) ∧
  va_Z "java/lang/String" "COMPACT_STRINGS" "Z" (.int 1) (fun q => w.1 ≤ q) s H ∧
  va_Z "jdk/internal/util/Preconditions" "SIOOBE_FORMATTER" "Ljava/util/function/BiFunction;" w.2.2.1 (fun q => w.1 ≤ q) s H ∧
  (∀ (o i k : Nat), jt_T.2.2.2.1 o i = some (.inr k) → k < 21 → ∃ tx : String, vk_R (jn_R o) i tx (w.2.1 k) s)
def jw_E (w : JW) (s : State) (H : Heap) : Prop :=
  va_K w.2.2.2.1 jn_cl (jw_tys w) s ∧ (∀ q ∈ lw_tbl, jw_nest q = true → va_Nw q s) ∧ va_AO "SmokeGates$History" s ∧ (Cond.arrayOver (.array .int)).before #[] s = true ∧ jw_X w s H
theorem jn_cl_at {ci : Nat} (h : ci < 12) : jn_cl[ci]? = some (jn_R ci, jn_T ci, jn_N ci) := by
  unfold jn_cl
  rw [List.getElem?_map, List.getElem?_range h]
  rfl
theorem jw_tv_rv (w : JW) (r : Option Nat) : jw_tv w (jl_rv r) = va_rf (r.map (jw_ad w)) := by cases r <;> rfl
section JSB
variable {w : JW} {p : Program} {l : Launch} {e : Env} {R : Room} {s : State} {m : MethodId} {args : Array Value} {below : List Frame} {meth : Method} {c : Code} {nL n0 s0 : Nat} {Q : State → Prop} {cc : ByteArray} {pc pc' : Nat} {ls st ls' st' : List Value} {h h' : LH}
theorem jw_nx {pc' pc'' : Nat} {ls ls'' st st'' : List Value} {h h'' : LH} (hs : jl_next pc' ls st h = some (.inl (pc'', ls'', st'', h''))) : pc' = pc'' ∧ ls = ls'' ∧ st = st'' ∧ h = h'' := by
  simp only [jl_next, Option.some.injEq, Sum.inl.injEq, Prod.mk.injEq] at hs
  exact ⟨hs.1, hs.2.1, hs.2.2.1, hs.2.2.2⟩
theorem jw_bin {i : Instr} (f : Int32 → Int32 → Int32) (row : ∀ (H : Heap) (locs : List Loc) (cells slots pc : Nat) (ls : Array Slot) (rest : List Value) (x y : Int32), decode cc pc = .ok (i, 1) → W p l e R s m args below meth c H locs cells slots Q (F0 m (pc + 1) ls (.int (f x y) :: rest)) → W p l e R s m args below meth c H locs cells slots Q (F0 m pc ls (.int y :: .int x :: rest)))
    (hd : decode cc pc = .ok (i, 1)) (hs : jl_bin f ls st h (pc + 1) = some (.inl (pc', ls', st', h'))) (kk : jw_J w p l e R s m args below meth c nL n0 s0 Q pc' ls' st' h') : jw_J w p l e R s m args below meth c nL n0 s0 Q pc ls st h := by
  unfold jl_bin at hs
  split at hs
  · obtain ⟨rfl, rfl, rfl, rfl⟩ := jw_nx hs
    intro H locs lsA hR hL hS
    exact row _ _ _ _ _ _ _ _ _ hd (kk H locs lsA hR hL hS)
  · cases hs
theorem jw_div {i : Instr} (f : Int32 → Int32 → Int32) (row : ∀ (H : Heap) (locs : List Loc) (cells slots pc : Nat) (ls : Array Slot) (rest : List Value) (x y : Int32), decode cc pc = .ok (i, 1) → ¬ y = 0 → W p l e R s m args below meth c H locs cells slots Q (F0 m (pc + 1) ls (.int (f x y) :: rest)) → W p l e R s m args below meth c H locs cells slots Q (F0 m pc ls (.int y :: .int x :: rest)))
    (hd : decode cc pc = .ok (i, 1)) (hs : jl_div f ls st h (pc + 1) = some (.inl (pc', ls', st', h'))) (kk : jw_J w p l e R s m args below meth c nL n0 s0 Q pc' ls' st' h') : jw_J w p l e R s m args below meth c nL n0 s0 Q pc ls st h := by
  unfold jl_div at hs
  split at hs
  · split at hs
    · cases hs
    · rename_i hy
      obtain ⟨rfl, rfl, rfl, rfl⟩ := jw_nx hs
      intro H locs lsA hR hL hS
      exact row _ _ _ _ _ _ _ _ _ hd hy (kk H locs lsA hR hL hS)
  · cases hs
theorem jw_un {i : Instr} (f : Int32 → Int32) (row : ∀ (H : Heap) (locs : List Loc) (cells slots pc : Nat) (ls : Array Slot) (rest : List Value) (x : Int32), decode cc pc = .ok (i, 1) → W p l e R s m args below meth c H locs cells slots Q (F0 m (pc + 1) ls (.int (f x) :: rest)) → W p l e R s m args below meth c H locs cells slots Q (F0 m pc ls (.int x :: rest)))
    (hd : decode cc pc = .ok (i, 1)) (hs : jl_un f ls st h (pc + 1) = some (.inl (pc', ls', st', h'))) (kk : jw_J w p l e R s m args below meth c nL n0 s0 Q pc' ls' st' h') : jw_J w p l e R s m args below meth c nL n0 s0 Q pc ls st h := by
  unfold jl_un at hs
  split at hs
  · obtain ⟨rfl, rfl, rfl, rfl⟩ := jw_nx hs
    intro H locs lsA hR hL hS
    exact row _ _ _ _ _ _ _ _ hd (kk H locs lsA hR hL hS)
  · cases hs
/-- what a light cell is in the heap -/
theorem jw_Rep.ge {H : Heap} (hR : jw_Rep w h H) (hX : jw_X w s s.heap) {a : Nat} (hk : jl_kd h a < 30) : 64 ≤ a ∧ a < h.1.length := by
  have hl : a < h.1.length := by
    rcases Nat.lt_or_ge a h.1.length with q | q
    · exact q
    · have : jl_kd h a = 999 := by unfold jl_kd; rw [List.getElem?_eq_none q]; rfl
      omega
  refine ⟨?_, hl⟩
  rcases Nat.lt_or_ge a 64 with q | q
  · have h1 := (hR.2.2.2 a q).1
    have h2 : h.1[a]? = some h.1[a] := List.getElem?_eq_getElem hl
    have h3 := (hX.1 a h.1[a] q (by rw [← h1, h2])).1
    have : jl_kd h a = (h.1[a]).1 := by unfold jl_kd; rw [h2]; rfl
    omega
  · exact q
theorem jw_Rep.obj {H : Heap} (hR : jw_Rep w h H) (hX : jw_X w s s.heap) {a : Nat} (hk : jl_kd h a < 12) : t_OB (jw_ad w a) (w.2.2.2.1.1 (jl_kd h a)) (jn_N (jl_kd h a)) (w.2.2.2.1.2 (jl_kd h a)) H (jw_fv w h a (jl_kd h a)) := by
  obtain ⟨h1, h2⟩ := hR.ge hX (a := a) (by omega)
  rcases hR.2.1 a h1 h2 with q | ⟨q, -⟩ | q
  · exact q.2
  · omega
  · omega
theorem jw_Rep.arr {H : Heap} (hR : jw_Rep w h H) (hX : jw_X w s s.heap) {a : Nat} (hk : 20 ≤ jl_kd h a) (hk2 : jl_kd h a ≤ 25) : H[jw_ad w a]? = some (vp_cell (w.2.2.2.2.1 (jl_kd h a)) (jw_el w h a)) := by
  obtain ⟨h1, h2⟩ := hR.ge hX (a := a) (by omega)
  rcases hR.2.1 a h1 h2 with ⟨q, -⟩ | ⟨-, -, q⟩ | q
  · omega
  · exact q
  · omega
theorem jw_Rep.ext {H : Heap} (hR : jw_Rep w h H) {a k : Nat} (hk : jl_kd h a = k) (h30 : 30 ≤ k) (h32 : k ≤ 32) : a < 64 ∧ w.2.2.2.2.2.2[a]? = some (k, jl_ln h a) ∧ h.2.1 a = w.2.2.2.2.2.1 a ∧ jw_ad w a = w.2.1 a := by
  have hl : a < h.1.length := by
    rcases Nat.lt_or_ge a h.1.length with q | q
    · exact q
    · have : jl_kd h a = 999 := by unfold jl_kd; rw [List.getElem?_eq_none q]; rfl
      omega
  have h64 : a < 64 := by
    rcases Nat.lt_or_ge a 64 with q | q
    · exact q
    · rcases hR.2.1 a q hl with ⟨z, -⟩ | ⟨-, z, -⟩ | z <;> omega
  have h2 : h.1[a]? = some h.1[a] := List.getElem?_eq_getElem hl
  have e1 : jl_kd h a = (h.1[a]).1 := by unfold jl_kd; rw [h2]; rfl
  have e2 : jl_ln h a = (h.1[a]).2 := by unfold jl_ln; rw [h2]; rfl
  refine ⟨h64, ?_, (hR.2.2.2 a h64).2, by unfold jw_ad; rw [if_pos h64]⟩
  rw [← (hR.2.2.2 a h64).1, h2, ← hk, e1, e2]
theorem jw_in {i : Int32} {n : Nat} (h : jl_in i n = true) : vp_in i n ∧ ¬ i < 0 ∧ i.toNatClampNeg < n := by
  simp only [jl_in, Bool.and_eq_true, decide_eq_true_eq] at h
  exact ⟨fun q => q.elim h.1 (fun z => absurd h.2 (Nat.not_lt.mpr z)), h.1, h.2⟩
end JSB

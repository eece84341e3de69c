/-! THE LIGHT MACHINE IS SOUND, 1: the world, and steps that touch no heap -/
/-- a world: where the made cells begin; where the cells that were there lie (below 64); a static's value; the classes' numbers and slots; the array classes; what the old cells hold; their kinds and lengths -/
abbrev JW : Type := Nat × (Nat → Nat) × Value × va_G × (Nat → ClassId) × (Nat → Nat → Int32) × List (Nat × Nat)
def jw_ad (w : JW) (a : Nat) : Nat := if a < 64 then w.2.1 a else w.1 + (a - 64)
def jw_tv (w : JW) (v : Value) : Value := match v with
  | .ref a => .ref (jw_ad w a)
  | .retAddr _ => w.2.2.1
  | v => v
noncomputable def jw_fv (w : JW) (h : LH) (a ci k : Nat) : Value := if (jt_ft ci k).1 = 3 then va_rf ((h.2.2.1 a k).map (jw_ad w)) else .int (h.2.1 a k)
def jw_el (w : JW) (h : LH) (a : Nat) : vp_A := if jl_kd h a ≤ 22 then (jl_ln h a, .inl (h.2.1 a)) else if jl_kd h a = 23 then (jl_ln h a, .inr (.inl (h.2.2.2 a))) else (jl_ln h a, .inr (.inr (.inr (.inr (fun k => (h.2.2.1 a k).map (jw_ad w))))))
def jw_at (w : JW) (h : LH) (a : Nat) (H : Heap) : Prop :=
  (jl_kd h a < 12 ∧ t_OB (jw_ad w a) (w.2.2.2.1.1 (jl_kd h a)) (jn_N (jl_kd h a)) (w.2.2.2.1.2 (jl_kd h a)) H (jw_fv w h a (jl_kd h a))) ∨
  (20 ≤ jl_kd h a ∧ jl_kd h a ≤ 25 ∧ H[jw_ad w a]? = some (vp_cell (w.2.2.2.2.1 (jl_kd h a)) (jw_el w h a))) ∨ jl_kd h a = 40
def jl_sl (h : LH) : Nat := (h.1.map (fun q => q.2)).sum
def jw_Rep (w : JW) (h : LH) (H : Heap) : Prop :=
  64 ≤ h.1.length ∧ (∀ a, 64 ≤ a → a < h.1.length → jw_at w h a H) ∧ (jl_nj h = true → H.size = w.1 + (h.1.length - 64)) ∧ (∀ a, a < 64 → h.1[a]? = w.2.2.2.2.2.2[a]? ∧ h.2.1 a = w.2.2.2.2.2.1 a)
def jw_isR (v : Value) : Bool := match v with
  | .retAddr _ => true
  | _ => false
def jw_LR (w : JW) (lsA : Array Slot) (nL : Nat) (ls : List Value) : Prop := lsA.size = nL ∧ ls.length = nL ∧ lv_wf lsA ∧ ∀ (i : Nat) (v : Value), ls[i]? = some v → v.category = 1 ∧ (jw_isR v = false → lsA[i]? = some (.val (jw_tv w v)))
def jw_lv (w : JW) (ls : List Value) : List (Nat × Value) := (List.range ls.length).filterMap (fun i => (ls[i]?).bind (fun v => if jw_isR v = true then none else some (i, jw_tv w v)))
theorem jw_lv_mem {w : JW} {ls : List Value} {j : Nat} {v : Value} (h : ls[j]? = some v) (hr : jw_isR v = false) : (j, jw_tv w v) ∈ jw_lv w ls := by
  refine List.mem_filterMap.mpr ⟨j, List.mem_range.mpr (List.getElem?_eq_some_iff.mp h).1, ?_⟩
  rw [h]
  simp [hr]
theorem jw_lv_has {w : JW} {lsA : Array Slot} {nL : Nat} {ls : List Value} (h : jw_LR w lsA nL ls) : lv_has lsA nL (jw_lv w ls) := by
  refine ⟨h.1, h.2.2.1, fun q hq => ?_⟩
  obtain ⟨i, -, hi⟩ := List.mem_filterMap.mp hq
  cases hv : ls[i]? with
  | none => rw [hv] at hi; cases hi
  | some v =>
    rw [hv] at hi
    by_cases hr : jw_isR v = true
    · simp [hr] at hi
    · simp [hr] at hi
      subst hi
      exact (h.2.2.2 i v hv).2 (by simpa using hr)
theorem jw_tv_cat {w : JW} {v : Value} (h : v.category = 1) (hr : jw_isR v = false) : (jw_tv w v).category = 1 := by
  cases v <;> first | exact h | rfl | (simp [jw_isR] at hr)
theorem jw_LR_set {w : JW} {lsA ls' : Array Slot} {nL i : Nat} {ls : List Value} {v mv : Value} (h : jw_LR w lsA nL ls) (hi : i < nL) (hv : v.category = 1) (hm : jw_isR v = true ∨ mv = jw_tv w v)
    (h' : lv_has ls' nL ((i, mv) :: (jw_lv w ls).filter (fun q => !(q.1 == i) && !(q.1 + 1 == i && q.2.category == 2)))) : jw_LR w ls' nL (ls.set i v) := by
  refine ⟨h'.1, by rw [List.length_set]; exact h.2.1, h'.2.1, fun j u hj => ?_⟩
  by_cases e : j = i
  · subst e
    rw [List.getElem?_set_self (by rw [h.2.1]; exact hi)] at hj
    cases hj
    refine ⟨hv, fun hr => ?_⟩
    rcases hm with hm | hm
    · rw [hm] at hr; cases hr
    · have := h'.2.2 (j, mv) List.mem_cons_self
      rw [hm] at this
      exact this
  · rw [List.getElem?_set_ne (Ne.symm e)] at hj
    have hu := h.2.2.2 j u hj
    refine ⟨hu.1, fun hr => ?_⟩
    refine h'.2.2 (j, jw_tv w u) (List.mem_cons_of_mem _ (List.mem_filter.mpr ⟨jw_lv_mem hj hr, ?_⟩))
    have hc : (jw_tv w u).category = 1 := jw_tv_cat hu.1 hr
    simp [e, hc]
/-- the expected lengths -/
def jl_lok (i : Instr) (len : Nat) : Bool := match i with
  | .aload _ | .iload _ | .astore _ | .istore _ | .bipush _ | .newarray _ | .ldc _ => len == 2
  | .sipush _ | .iinc _ _ | .goto _ | .ifCond _ _ | .if_icmp _ _ | .getfield _ | .putfield _ | .anewarray _ | .new _ | .invokespecial _ | .invokestatic _ | .invokevirtual _ | .ldc_w _ | .getstatic _ => len == 3
  | .multianewarray _ _ => len == 4
  | .tableswitch _ _ _ _ | .lookupswitch _ _ => true
  | _ => len == 1
section JSA
variable {w : JW} {p : Program} {l : Launch} {e : Env} {R : Room} {s : State} {m : MethodId} {args : Array Value} {below : List Frame} {meth : Method} {c : Code} {nL n0 s0 : Nat} {Q : State → Prop} {cc : ByteArray}
/-- the machine, at a light configuration, comes to Q -/
def jw_J (w : JW) (p : Program) (l : Launch) (e : Env) (R : Room) (s : State) (m : MethodId) (args : Array Value) (below : List Frame) (meth : Method) (c : Code) (nL n0 s0 : Nat) (Q : State → Prop) (pc : Nat) (ls st : List Value) (h : LH) : Prop :=
  ∀ (H : Heap) (locs : List Loc) (lsA : Array Slot), jw_Rep w h H → jw_LR w lsA nL ls → va_S (fun q => w.1 ≤ q) s.heap H locs → W p l e R s m args below meth c H locs (h.1.length - n0) (jl_sl h - s0) Q (F0 m pc lsA (st.map (jw_tv w)))
theorem jw_loadI (hx : p.tables.exec = Jvm.exec) (hb : c.code = cc) {i : Instr} {len pc pc' k : Nat} {ls st ls' st' : List Value} {h h' : LH} (hd : decode cc pc = .ok (i, len)) (hi : (i = .iload k ∧ len = 2) ∨ (∃ n : Fin 4, i = .iload_n n ∧ (n : Nat) = k ∧ len = 1))
    (hs : jl_loadI ls st h (pc + len) k = some (.inl (pc', ls', st', h'))) (kk : jw_J w p l e R s m args below meth c nL n0 s0 Q pc' ls' st' h') : jw_J w p l e R s m args below meth c nL n0 s0 Q pc ls st h := by
  unfold jl_loadI at hs
  split at hs
  · rename_i x hx1
    simp only [jl_next, Option.some.injEq, Sum.inl.injEq, Prod.mk.injEq] at hs
    obtain ⟨rfl, rfl, rfl, rfl⟩ := hs
    intro H locs lsA hR hL hS
    have hv := (hL.2.2.2 k _ hx1).2 rfl
    rcases hi with ⟨rfl, rfl⟩ | ⟨n, rfl, hn, rfl⟩
    · exact lv_iload hx hb hd hv (kk H locs lsA hR hL hS)
    · exact lv_iload_n hx hb hd hn hv (kk H locs lsA hR hL hS)
  · cases hs
theorem jw_loadA (hx : p.tables.exec = Jvm.exec) (hb : c.code = cc) {i : Instr} {len pc pc' k : Nat} {ls st ls' st' : List Value} {h h' : LH} (hd : decode cc pc = .ok (i, len)) (hi : (i = .aload k ∧ len = 2) ∨ (∃ n : Fin 4, i = .aload_n n ∧ (n : Nat) = k ∧ len = 1))
    (hs : jl_loadA ls st h (pc + len) k = some (.inl (pc', ls', st', h'))) (kk : jw_J w p l e R s m args below meth c nL n0 s0 Q pc' ls' st' h') : jw_J w p l e R s m args below meth c nL n0 s0 Q pc ls st h := by
  unfold jl_loadA at hs
  split at hs
  · rename_i x hx1
    simp only [jl_next, Option.some.injEq, Sum.inl.injEq, Prod.mk.injEq] at hs
    obtain ⟨rfl, rfl, rfl, rfl⟩ := hs
    intro H locs lsA hR hL hS
    have hv := (hL.2.2.2 k _ hx1).2 rfl
    rcases hi with ⟨rfl, rfl⟩ | ⟨n, rfl, hn, rfl⟩
    · exact lv_aload hx hb hd hv (kk H locs lsA hR hL hS)
    · exact lv_aload_n hx hb hd hn hv (kk H locs lsA hR hL hS)
  · cases hs
theorem jw_storeI (hx : p.tables.exec = Jvm.exec) (hb : c.code = cc) {i : Instr} {len pc pc' k : Nat} {ls st ls' st' : List Value} {h h' : LH} (hd : decode cc pc = .ok (i, len)) (hi : (i = .istore k ∧ len = 2) ∨ (∃ n : Fin 4, i = .istore_n n ∧ (n : Nat) = k ∧ len = 1))
    (hs : jl_storeI ls st h (pc + len) k = some (.inl (pc', ls', st', h'))) (kk : jw_J w p l e R s m args below meth c nL n0 s0 Q pc' ls' st' h') : jw_J w p l e R s m args below meth c nL n0 s0 Q pc ls st h := by
  unfold jl_storeI at hs
  split at hs
  · rename_i x st1
    split at hs
    · rename_i hk
      simp only [jl_next, Option.some.injEq, Sum.inl.injEq, Prod.mk.injEq] at hs
      obtain ⟨rfl, rfl, rfl, rfl⟩ := hs
      intro H locs lsA hR hL hS
      have hk' : k < nL := by rw [← hL.2.1]; exact hk
      rcases hi with ⟨rfl, rfl⟩ | ⟨n, rfl, hn, rfl⟩
      · exact lv_istore hx hb hd (jw_lv_has hL) hk' rfl (fun ls' h' => kk H locs ls' hR (jw_LR_set hL hk' rfl (Or.inr rfl) h') hS)
      · exact lv_istore_n hx hb hd hn (jw_lv_has hL) hk' rfl (fun ls' h' => kk H locs ls' hR (jw_LR_set hL hk' rfl (Or.inr rfl) h') hS)
    · cases hs
  · cases hs
theorem jw_storeA (hx : p.tables.exec = Jvm.exec) (hb : c.code = cc) {i : Instr} {len pc pc' k : Nat} {ls st ls' st' : List Value} {h h' : LH} (hd : decode cc pc = .ok (i, len)) (hi : (i = .astore k ∧ len = 2) ∨ (∃ n : Fin 4, i = .astore_n n ∧ (n : Nat) = k ∧ len = 1))
    (hs : jl_storeA ls st h (pc + len) k = some (.inl (pc', ls', st', h'))) (kk : jw_J w p l e R s m args below meth c nL n0 s0 Q pc' ls' st' h') : jw_J w p l e R s m args below meth c nL n0 s0 Q pc ls st h := by
  unfold jl_storeA at hs
  split at hs
  · rename_i x st1
    split at hs
    · rename_i hk
      simp only [jl_next, Option.some.injEq, Sum.inl.injEq, Prod.mk.injEq] at hs
      obtain ⟨rfl, rfl, rfl, rfl⟩ := hs
      intro H locs lsA hR hL hS
      have hk' : k < nL := by rw [← hL.2.1]; exact hk
      rcases hi with ⟨rfl, rfl⟩ | ⟨n, rfl, hn, rfl⟩
      · exact lv_astore hx hb hd (jw_lv_has hL) hk' rfl (fun ls' h' => kk H locs ls' hR (jw_LR_set hL hk' rfl (Or.inr rfl) h') hS)
      · exact lv_astore_n hx hb hd hn (jw_lv_has hL) hk' rfl (fun ls' h' => kk H locs ls' hR (jw_LR_set hL hk' rfl (Or.inr rfl) h') hS)
    · cases hs
  · cases hs
theorem jw_go (hx : p.tables.exec = Jvm.exec) (hb : c.code = cc) {off : Int} {pc pc' : Nat} {ls st ls' st' : List Value} {h h' : LH} (hs : jl_go pc off ls st h = some (.inl (pc', ls', st', h'))) : (pc : Int) + off = (pc' : Int) ∧ ls' = ls ∧ st' = st ∧ h' = h := by
  unfold jl_go at hs
  split at hs
  · rename_i hk
    simp only [Option.some.injEq, Sum.inl.injEq, Prod.mk.injEq] at hs
    obtain ⟨rfl, rfl, rfl, rfl⟩ := hs
    exact ⟨by omega, rfl, rfl, rfl⟩
  · cases hs
theorem jw_br {b : Bool} {off : Int} {len pc pc' : Nat} {ls st ls' st' : List Value} {h h' : LH} (hs : jl_br b pc off len ls st h = some (.inl (pc', ls', st', h'))) : ls' = ls ∧ st' = st ∧ h' = h ∧ ∃ tgt : Nat, (pc : Int) + off = (tgt : Int) ∧ ((b = true ∧ pc' = tgt) ∨ (b = false ∧ pc' = pc + len)) := by
  unfold jl_br at hs
  split at hs
  · rename_i hk
    have ht : (pc : Int) + off = ((((pc : Int) + off).toNat : Nat) : Int) := by omega
    split at hs
    · rename_i hc
      simp only [jl_next, Option.some.injEq, Sum.inl.injEq, Prod.mk.injEq] at hs
      obtain ⟨rfl, rfl, rfl, rfl⟩ := hs
      exact ⟨rfl, rfl, rfl, _, ht, Or.inl ⟨hc, rfl⟩⟩
    · rename_i hc
      simp only [jl_next, Option.some.injEq, Sum.inl.injEq, Prod.mk.injEq] at hs
      obtain ⟨rfl, rfl, rfl, rfl⟩ := hs
      exact ⟨rfl, rfl, rfl, _, ht, Or.inr ⟨by simpa using hc, rfl⟩⟩
  · cases hs
theorem jw_icmp (hx : p.tables.exec = Jvm.exec) (hb : c.code = cc) {cd : ClassFile.Cond} {off : Int} {pc pc' : Nat} {ls st ls' st' : List Value} {h h' : LH} {x y : Int32} (hd : decode cc pc = .ok (.if_icmp cd off, 3))
    (hs : jl_br (jl_cmp cd x y) pc off 3 ls st h = some (.inl (pc', ls', st', h'))) (kk : jw_J w p l e R s m args below meth c nL n0 s0 Q pc' ls' st' h') :
    jw_J w p l e R s m args below meth c nL n0 s0 Q pc ls (.int y :: .int x :: st) h := by
  intro H locs lsA hR hL hS
  obtain ⟨rfl, rfl, rfl, tgt, ht, hc⟩ := jw_br hs
  have k := kk H locs lsA hR hL hS
  rcases hc with ⟨hc, rfl⟩ | ⟨hc, rfl⟩
  · cases cd <;> simp only [jl_cmp, decide_eq_true_eq] at hc
    · exact lv_icmp_eq hx hb hd ht (fun _ => k) (fun n => absurd hc n)
    · exact lv_icmp_ne hx hb hd ht (fun _ => k) (fun n => absurd n hc)
    · exact lv_icmp_lt hx hb hd ht (fun _ => k) (fun n => absurd hc n)
    · exact lv_icmp_ge hx hb hd ht (fun _ => k) (fun n => absurd hc n)
    · exact lv_icmp_gt hx hb hd ht (fun _ => k) (fun n => absurd hc n)
    · exact lv_icmp_le hx hb hd ht (fun _ => k) (fun n => absurd hc n)
  · cases cd <;> simp only [jl_cmp, decide_eq_false_iff_not] at hc
    · exact lv_icmp_eq hx hb hd ht (fun n => absurd n hc) (fun _ => k)
    · exact lv_icmp_ne hx hb hd ht (fun n => absurd n hc) (fun _ => k)
    · exact lv_icmp_lt hx hb hd ht (fun n => absurd n hc) (fun _ => k)
    · exact lv_icmp_ge hx hb hd ht (fun n => absurd n hc) (fun _ => k)
    · exact lv_icmp_gt hx hb hd ht (fun n => absurd n hc) (fun _ => k)
    · exact lv_icmp_le hx hb hd ht (fun n => absurd n hc) (fun _ => k)
theorem jw_ifc (hx : p.tables.exec = Jvm.exec) (hb : c.code = cc) {cd : ClassFile.Cond} {off : Int} {pc pc' : Nat} {ls st ls' st' : List Value} {h h' : LH} {x : Int32} (hd : decode cc pc = .ok (.ifCond cd off, 3))
    (hs : jl_br (jl_cmp cd x 0) pc off 3 ls st h = some (.inl (pc', ls', st', h'))) (kk : jw_J w p l e R s m args below meth c nL n0 s0 Q pc' ls' st' h') :
    jw_J w p l e R s m args below meth c nL n0 s0 Q pc ls (.int x :: st) h := by
  intro H locs lsA hR hL hS
  obtain ⟨rfl, rfl, rfl, tgt, ht, hc⟩ := jw_br hs
  have k := kk H locs lsA hR hL hS
  rcases hc with ⟨hc, rfl⟩ | ⟨hc, rfl⟩
  · cases cd <;> simp only [jl_cmp, decide_eq_true_eq] at hc
    · exact lv_if_eq hx hb hd ht (fun _ => k) (fun n => absurd hc n)
    · exact lv_if_ne hx hb hd ht (fun _ => k) (fun n => absurd n hc)
    · exact lv_if_lt hx hb hd ht (fun _ => k) (fun n => absurd hc n)
    · exact lv_if_ge hx hb hd ht (fun _ => k) (fun n => absurd hc n)
    · exact lv_if_gt hx hb hd ht (fun _ => k) (fun n => absurd hc n)
    · exact lv_if_le hx hb hd ht (fun _ => k) (fun n => absurd hc n)
  · cases cd <;> simp only [jl_cmp, decide_eq_false_iff_not] at hc
    · exact lv_if_eq hx hb hd ht (fun n => absurd n hc) (fun _ => k)
    · exact lv_if_ne hx hb hd ht (fun n => absurd n hc) (fun _ => k)
    · exact lv_if_lt hx hb hd ht (fun n => absurd n hc) (fun _ => k)
    · exact lv_if_ge hx hb hd ht (fun n => absurd n hc) (fun _ => k)
    · exact lv_if_gt hx hb hd ht (fun n => absurd n hc) (fun _ => k)
    · exact lv_if_le hx hb hd ht (fun n => absurd n hc) (fun _ => k)
end JSA

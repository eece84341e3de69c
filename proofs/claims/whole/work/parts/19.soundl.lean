/-! THE LIGHT MACHINE IS SOUND, 11: calls -/
set_option maxRecDepth 100000 in
theorem jw_arith {a d R : Nat} (h1 : a ≤ 40) (h2 : 60 * d + 300 + 60 ≤ R) : 8 + (a + 11) + (60 * d + 300) ≤ R := by omega
section JSL
variable {w : JW} {p : Program} {l : Launch} {e : Env} {R : Room} {s : State} {m : MethodId} {args : Array Value} {below : List Frame} {meth : Method} {c : Code} {nL n0 s0 own rt d : Nat} {ini : Bool} {Q : State → Prop} {cc : ByteArray} {pc pc' len : Nat} {ls st ls' st' : List Value} {h h' : LH} {i : Instr}
/-- behind a call that may throw -/
theorem jw_after {H : Heap} {locs : List Loc} {cells slots mc ms : Nat} {lsA : Array Slot} {st0 rest : List Value} {Qa : State → Outcome → State → Prop} {XC : String → State → State → Prop} {free : Addr → Prop}
    (hr : vx_Run p l e R s m args below meth c H locs cells slots mc ms (F0 m pc lsA st0) rest Qa XC free)
    (kr : ∀ (v : Option Value) (st₀ t : State) (L : List Loc), st₀.heap = H → s.WarmedH t.vm → Qa st₀ (.returned v) t → (∀ q ∈ L, free q.base) → W p l e R s m args below meth c t.heap (locs ++ L) (cells + mc) (slots + ms) Q (F0 m (pc + 3) lsA (v.toList ++ rest)))
    (kx : ∀ (q : Addr) (st₀ t : State) (L : List Loc) (E : String) (ce : Cell), st₀.heap = H → s.WarmedH t.vm → XC E st₀ t → (∀ q ∈ L, free q.base) → t.heap[q]? = some ce → ce.vm = .none → s.vm.findClass E = some ce.cls → vx_W p l e R s m args below meth c t.heap (locs ++ L) (cells + mc) (slots + ms) Q (F0 m pc lsA rest) q) :
    W p l e R s m args below meth c H locs cells slots Q (F0 m pc lsA st0) := by
  intro T hT X
  rcases hr T hT X with ⟨v, st₀, t, T', L, h0, X', hL, e1, e2, hq, st⟩ | ⟨q, st₀, t, T', L, E, ce, h0, X', hL, e1, e2, hq, hce, hcv, hcl, st⟩
  · obtain ⟨t2, a1, b1⟩ := kr v st₀ t L h0 (by rw [← e2]; exact X'.warmed) hq hL T' e1 X'
    exact ⟨t2, st t2 a1, b1⟩
  · obtain ⟨t2, a1, b1⟩ := kx q st₀ t L E ce h0 (by rw [← e2]; exact X'.warmed) hq hL hce hcv hcl T' e1 X'
    exact ⟨t2, st.trans a1, b1⟩
/-- behind a call that returns -/
theorem jw_afterR {H : Heap} {locs : List Loc} {cells slots mc ms : Nat} {lsA : Array Slot} {st0 rest : List Value} {Qa : State → Outcome → State → Prop} {free : Addr → Prop}
    (hr : va_Run p l e R s m args below meth c H locs cells slots mc ms (F0 m pc lsA st0) rest Qa free)
    (kr : ∀ (v : Option Value) (st₀ t : State) (L : List Loc), st₀.heap = H → s.WarmedH t.vm → Qa st₀ (.returned v) t → (∀ q ∈ L, free q.base) → W p l e R s m args below meth c t.heap (locs ++ L) (cells + mc) (slots + ms) Q (F0 m (pc + 3) lsA (v.toList ++ rest))) :
    W p l e R s m args below meth c H locs cells slots Q (F0 m pc lsA st0) := by
  intro T hT X
  obtain ⟨v, st₀, t, T', L, h0, X', hL, e1, e2, hq, st⟩ := hr T hT X
  obtain ⟨t2, a1, b1⟩ := kr v st₀ t L h0 (by rw [← e2]; exact X'.warmed) hq hL T' e1 X'
  exact ⟨t2, st t2 a1, b1⟩
theorem jw_Met.ret {mi : Nat} {as : List Value} {v : Option Value} {h1 : LH} (hM : jw_Met l w d mi as h (.inl v, h1)) : Met l (jm_yy mi) (jw_ws mi) (jw_rm d (h1.1.length - h.1.length) (jl_sl h1 - jl_sl h)) (jw_Pc w as h) (jw_Qc w (.inl v, h1)) (h1.1.length - h.1.length) (jl_sl h1 - jl_sl h) (fun q => w.1 ≤ q) := by
  intro p e ha hc hk s m args below hf happ hP hK
  obtain ⟨n, o, q1, q2, q3, q4⟩ := hM p e ha hc hk s m args below hf happ hP hK
  refine ⟨n, o, q1, q2, q3, ?_⟩
  rcases q4 with q | ⟨q, -, E, ce, L, ⟨k, z, -⟩, -⟩
  · exact q
  · cases z
/-- what a callee is given -/
theorem jw_pre {H : Heap} {locs : List Loc} {as : List Value} (hEE : jw_EE w s s.heap) (hR : jw_Rep w h H) (hS : va_S (fun q => w.1 ≤ q) s.heap H locs) : ∀ U : State, U.heap = H → s.WarmedH U.vm → jw_Pc w as h (as.map (jw_tv w)).toArray U := by
  intro U hU hW
  refine ⟨rfl, ?_, by rw [hU]; exact hR⟩
  rw [hU]
  exact hEE.go hW hS.2.1
theorem va_S.call {A : Nat → Prop} {H0 H : Heap} {locs L : List Loc} {st₀ t : State} (hS : va_S A H0 H locs) (h0 : st₀.heap = H) (hF : va_F A st₀ t) (hL : ∀ q ∈ L, A q.base) : va_S A H0 t.heap (locs ++ L) := by
  obtain ⟨f1, f2⟩ := hF
  rw [h0] at f1 f2
  refine ⟨Nat.le_trans hS.1 f1, fun q h1 h2 => (f2 q (Nat.lt_of_lt_of_le h1 hS.1) h2).trans (hS.2.1 q h1 h2), fun q hq => ?_⟩
  rcases List.mem_append.mp hq with z | z
  · exact hS.2.2 q z
  · exact hL q z
theorem jl_pop_st {na : Nat} {st : List Value} : st = (jl_pop na st).1.reverse ++ (jl_pop na st).2 := by
  unfold jl_pop
  rw [List.reverse_reverse, List.take_append_drop]
theorem jl_pop_len {na : Nat} {st : List Value} (h : na ≤ st.length) : (jl_pop na st).1.length = na := by
  unfold jl_pop
  rw [List.length_reverse, List.length_take]
  omega
/-- a method that can be called, by its number in the tables -/
theorem jt_Mt_320 {o i m : Nat} (h : jt_T.2.1 o i = some m) (hm : m < 9000) : m < 320 ∧ ((Cond.methodLinkNest (jn_R o) i (jm_yy m) "SmokeGates" ∈ lw_tbl) ∨ Cond.methodLink (jn_R o) i (jm_yy m) ∈ jb) := by
  have ho := jt_Mt_lt h
  have hy : jb_yx m = jm_yy m := if_pos hm
  have h1 : ((jt_Mt.getD o []).lookup i).map (fun q => q.1) = some m := h
  cases hl : (jt_Mt.getD o []).lookup i with
  | none => rw [hl] at h1; cases h1
  | some q =>
    rw [hl] at h1
    obtain ⟨q1, q2, q3⟩ := q
    cases h1
    have h2 := List.all_eq_true.mp (List.all_eq_true.mp jt_Mt_ok o (List.mem_range.mpr ho)) _ (jb_lookup hl)
    simp only [Bool.and_eq_true, decide_eq_true_eq] at h2
    have h3 := jb_Mat h
    rw [hy] at h3
    refine ⟨?_, h3⟩
    rcases h2.1 with q | q
    · exact q
    · exact absurd hm (Nat.not_lt.mpr q)
theorem jw_recv {H : Heap} {a rk : Nat} {M : JMeth} (hE : jw_E w s s.heap) (hR : jw_Rep w h H) {locs : List Loc} (hS : va_S (fun q => w.1 ≤ q) s.heap H locs) (hk : jl_kd h a = rk) (hrk : (rk = M.1 ∧ M.1 < 12) ∨ (rk = 31 ∧ M.1 = 13)) : ∃ cellB : Cell, H[jw_ad w a]? = some cellB ∧ cellB.vm.isStatics = false ∧ s.vm.findClass (jn_R M.1) = some cellB.cls := by
  rcases hrk with ⟨q1, q2⟩ | ⟨q1, q2⟩
  · have hob := hR.obj hE.2.2.2.2 (a := a) (by omega)
    rw [hk, q1] at hob
    obtain ⟨cell, z1, z2, z3, z4⟩ := hob
    exact ⟨cell, z1, by rw [z3]; rfl, by rw [z2]; exact (hE.1.1 M.1 _ (jn_cl_at q2)).2.1⟩
  · obtain ⟨h64, g1, g2, g3⟩ := hR.ext (hk.trans q1) (by omega) (by omega)
    obtain ⟨⟨cell, z1, z2, z3, z4⟩, -⟩ := hE.2.2.2.2.2.1 a _ g1
    refine ⟨cell, ?_, z2, ?_⟩
    · rw [g3, hS.2.1 _ (Array.getElem?_eq_some_iff.mp z1).1 z4]
      exact z1
    · rw [q2]
      exact z3
theorem jw_callB {mi mc ms n : Nat} (hts : ∀ q ∈ jb, q.before args s = true) (h320 : mi < 320) (hh : jm_hh mi = []) (hfr : d + 8 + 1 ≤ R.frames) (hlo : 60 * d + 300 + 60 ≤ R.locals) {owns : String} {idx : Nat} (hlink : (Cond.methodLink owns idx (jm_yy mi)).before args s = true) (hn : n = jm_na mi - (if jm_rk mi = 999 then 0 else 1)) :
    CallB R s args owns idx (jm_yy mi) (jm_bb mi) (jm_ml mi) (jm_rr mi) (jw_ws mi) (jw_rm d mc ms) mc ms n := by
  obtain ⟨M, hM, q1, q2, q3, q4, q5, q6, q7, q8, q9, q10, q11, q12, q13⟩ := jm_facts h320
  have hw : jm_w mi = Cond.code (jm_yy mi) (jm_bb mi) (jm_ml mi) (jm_rr mi) := if_pos hh
  have hP := jm_Pall mi (List.mem_range.mpr h320)
  have hm : jm_ml mi ≤ 40 := by rw [q4]; exact q3
  have hro : 8 + (jm_ml mi + 11) + (jw_rm d mc ms).locals ≤ R.locals := by
    have e1 : (jw_rm d mc ms).locals = 60 * d + 300 := rfl
    rw [e1]
    exact jw_arith hm hlo
  exact callB_of n hts (jw_ws_good h320) (ws' := jb) (by unfold jw_ws; rw [hw]) rfl rfl (hts _ hP.2.2) hlink ⟨q10, q11, by rw [hn]; exact q5⟩ ⟨hfr, hro⟩
end JSL

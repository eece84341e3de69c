/-! THE LIGHT MACHINE IS SOUND, 17: every method meets its contract -/
theorem jw_sl {vs : List Value} (h : ∀ v ∈ vs, v.category = 1) : (lg_sl vs).length = vs.length := by
  induction vs with
  | nil => rfl
  | cons v vs ih =>
    have h1 := h v List.mem_cons_self
    have h2 := ih (fun q hq => h q (List.mem_cons_of_mem _ hq))
    have e : lg_sl (v :: vs) = [Slot.val v] ++ lg_sl vs := by simp [lg_sl, h1]
    rw [e, List.length_append, h2]
    simp
    omega
theorem jw_args : ∀ {vs : List Value} {k i : Nat} {v : Value}, (∀ v ∈ vs, v.category = 1) → vs[i]? = some v → (k + i, v) ∈ lv_args k vs
  | [], k, i, v, _, hv => by simp at hv
  | u :: vs, k, 0, v, h, hv => by
    simp only [List.getElem?_cons_zero, Option.some.injEq] at hv
    subst hv
    exact List.mem_cons_self
  | u :: vs, k, i + 1, v, h, hv => by
    have h1 := h u List.mem_cons_self
    have := jw_args (k := k + 1) (i := i) (fun q hq => h q (List.mem_cons_of_mem _ hq)) (by simpa using hv)
    refine List.mem_cons_of_mem _ ?_
    rw [if_neg (by rw [h1]; decide)]
    rw [show k + (i + 1) = k + 1 + i by omega]
    exact this
theorem jw_entryLR {w : JW} {as : List Value} {n : Nat} (hw : w.2.2.1.category = 1) (hc : as.all (fun v => decide (v.category = 1)) = true) (hn : as.length ≤ n) :
    jw_LR w ((lg_sl (as.map (jw_tv w)) ++ List.replicate (n - (lg_sl (as.map (jw_tv w))).length) Slot.unset).toArray) n (jl_entry as n) := by
  have hcat : ∀ v ∈ as, v.category = 1 := fun v hv => of_decide_eq_true (List.all_eq_true.mp hc v hv)
  have hcat2 : ∀ v ∈ as.map (jw_tv w), v.category = 1 := fun v hv => by
    obtain ⟨u, hu, rfl⟩ := List.mem_map.mp hv
    exact jw_tv_cat1 hw (hcat u hu)
  have hlen : (lg_sl (as.map (jw_tv w))).length = as.length := by rw [jw_sl hcat2, List.length_map]
  have hE := lv_entry (as.map (jw_tv w)) (n := n) (by rw [hlen]; exact hn)
  refine ⟨hE.1, ?_, hE.2.1, fun i v hi => ?_⟩
  · unfold jl_entry
    rw [List.length_append, List.length_replicate]
    omega
  · unfold jl_entry at hi
    by_cases hl : i < as.length
    · rw [List.getElem?_append_left hl] at hi
      refine ⟨hcat v (List.mem_of_getElem? hi), fun _ => ?_⟩
      have := jw_args (vs := as.map (jw_tv w)) (k := 0) (i := i) (v := jw_tv w v) hcat2 (by rw [List.getElem?_map, hi]; rfl)
      rw [Nat.zero_add] at this
      exact hE.2.2 _ this
    · rw [List.getElem?_append_right (Nat.le_of_not_lt hl)] at hi
      have : v = .retAddr 0 := by
        have := List.mem_of_getElem? hi
        exact List.eq_of_mem_replicate this
      subst this
      exact ⟨rfl, fun h => by simp [jw_isR] at h⟩
theorem jw_rm1 (d : Nat) : d + 8 + 1 ≤ d + 1 + 8 := by omega
theorem jw_rm2 (d : Nat) : 60 * d + 300 + 60 ≤ 60 * (d + 1) + 300 := by omega
theorem jw_rm3 (d : Nat) : 8 ≤ d + 1 + 8 := by omega
theorem jw_rm4 (d : Nat) : 300 ≤ 60 * (d + 1) + 300 := by omega
theorem jw_body {l : Launch} (hl : l.stackTraces = false) (w : JW) {d mi : Nat} {as : List Value} {h : LH} {o : JOut} (h320 : mi < 320)
    (hG : ∀ (mi : Nat) (as : List Value) (h : LH) (o : JOut), jl_Sem jt_T jt_Ms d mi as h o → mi < 320 → jw_Met l w d mi as h o)
    (hs : jl_Sem jt_T jt_Ms (d + 1) mi as h o)
    (p : Program) (e : Env) (s : State) (m : MethodId) (args : Array Value) (below : List Frame) (meth : Method) (c : Code) (s₁ : State)
    (B : BodyLoose p l (jm_yy mi) (headSpec (jw_ws mi) (jw_rm (d + 1) (o.2.1.length - h.1.length) (jl_sl o.2 - jl_sl h))) (jm_bb mi) (jm_ml mi) (jm_rr mi) e s m args below meth c s₁) (hml : c.maxLocals = jm_ml mi) (htab : c.exceptionTable.toList = tableOf (jm_hh mi)) (hP : jw_Pc w as h args s) :
    W p l e (headSpec (jw_ws mi) (jw_rm (d + 1) (o.2.1.length - h.1.length) (jl_sl o.2 - jl_sl h))).room s m args below meth c s.heap [] 0 0 (vx_MQ below (jw_Qc w o) (jw_XC w o) args s (o.2.1.length - h.1.length) (jl_sl o.2 - jl_sl h) (fun q => w.1 ≤ q)) (entryFrame m args (jm_ml mi)) := by
  obtain ⟨M, hM, hcls, hini, hml40, hml2, hpd, hna, hrk, hrr, hpn, hn1, hn2, hhd, h17⟩ := jm_facts h320
  obtain ⟨M', hM', hlen, hcat, n, hrun⟩ := hs
  cases Option.some.inj (hM.symm.trans hM')
  obtain ⟨hargs, hEE, hRep⟩ := hP
  have hMl : jt_Ml[mi]? = some M := hM
  have hMm : M ∈ jt_Ml := List.mem_of_getElem? hMl
  have hts : ∀ q ∈ jb, q.before args s = true := fun q hq => atoms_spec (ws := jw_ws mi) B.pre q (List.mem_cons_of_mem _ hq)
  have hfc : s.vm.findClass (jn_R M.1) = some m.cls := by
    have := findClass_of_methodNamed B.named
    rw [hcls] at this
    exact this
  have C : jw_Cx w p (headSpec (jw_ws mi) (jw_rm (d + 1) (o.2.1.length - h.1.length) (jl_sl o.2 - jl_sl h))).room s m args meth c (jm_bb mi) (jm_ml mi) M.1 M.2.1 :=
    ⟨B.exec, B.bytes, hml, hfc, hts, fun hi => by rw [(name_of_methodNamed B.named B.method).1]; exact hini.mp hi, jw_rm3 d, jw_rm4 d, hEE.1, hEE.2.2⟩
  have hdec : ∀ q ∈ M.2.2.2.1, decode (jm_bb mi) q.1 = .ok (q.2.1, q.2.2) := fun q hq => by
    have := jd_all mi (List.mem_range.mpr h320)
    unfold jd_P at this
    rw [hMl] at this
    exact of_decide_eq_true (List.all_eq_true.mp this q hq)
  have hlok : M.2.2.2.1.all (fun q => jl_lok q.2.1 q.2.2) = true := List.all_eq_true.mp jl_lok_all M hMm
  have hinv : M.2.2.2.1.all (jm_inv M) = true := List.all_eq_true.mp jm_inv_all M hMm
  have hthr : M.2.2.2.1.all (jm_thr M) = true := List.all_eq_true.mp jm_thr_all M hMm
  have hout : M.2.2.2.2.1 = [] → ∀ x ∈ c.exceptionTable.toList, False := fun he x hx => by
    rw [hhd] at he
    have h0 := List.map_eq_nil_iff.mp he
    rw [htab, h0] at hx
    cases hx
  have hcap : o.2.1.length - h.1.length ≤ (headSpec (jw_ws mi) (jw_rm (d + 1) (o.2.1.length - h.1.length) (jl_sl o.2 - jl_sl h))).room.cells ∧ jl_sl o.2 - jl_sl h ≤ (headSpec (jw_ws mi) (jw_rm (d + 1) (o.2.1.length - h.1.length) (jl_sl o.2 - jl_sl h))).room.slots := ⟨Nat.le_refl _, Nat.le_refl _⟩
  have key := jw_run (e := e) (below := below) (Q := vx_MQ below (jw_Qc w o) (jw_XC w o) args s (o.2.1.length - h.1.length) (jl_sl o.2 - jl_sl h) (fun q => w.1 ≤ q)) (n0 := h.1.length) (s0 := jl_sl h) C hEE hdec hlok hinv (jw_rm1 d) (jw_rm2 d) hG hcap
    (fun pc len i ls st h' v hmem hlk hst ho => jw_hr C B.notSynchronized (B.returns.trans hrr) hlk (hdec (pc, i, len) hmem) hst ho)
    (fun pc len i ls st h' k hmem hst he ho hn0 hs0 => jw_ht C hEE hl B.notSynchronized (hout he) hdec hthr hmem (List.all_eq_true.mp hlok (pc, i, len) hmem) hst ho hn0 hs0 hcap)
    (fun pc len i ls rest h' k hmem he ho => jw_hx B.notSynchronized (hout he) ho)
    (fun pc len how idx i ls ls' rest h' k hp pc' hmem hi hne hlp hcat2 kJ => jw_hc hM h320 C hEE htab hdec hlok hmem hi hne hlp hcat2 kJ)
    n 0 (jl_entry as (jm_ml mi)) [] h (by rw [hml2]; exact hrun) (Nat.le_refl _) (Nat.le_refl _)
  have hk := key s.heap [] _ hRep (jw_entryLR hEE.2.2 hcat (by rw [hml2]; exact hlen)) va_S.rf
  rw [Nat.sub_self, Nat.sub_self] at hk
  rw [hargs, lg_entry_eq]
  rw [hargs] at hk
  exact hk
theorem jw_met {l : Launch} (hl : l.stackTraces = false) (w : JW) : ∀ (d mi : Nat) (as : List Value) (h : LH) (o : JOut), jl_Sem jt_T jt_Ms d mi as h o → mi < 320 → jw_Met l w d mi as h o := by
  intro d
  induction d with
  | zero => intro mi as h o hs; exact hs.elim
  | succ d ih =>
    intro mi as h o hs h320
    obtain ⟨M, hM, hcls, hini, hml40, hml2, hpd, hna, hrk, hrr, hpn, hn1, hn2, hhd, h17⟩ := jm_facts h320
    by_cases he : jm_hh mi = []
    · refine vx_ofW (ws' := jb) hpn (by unfold jw_ws jm_w; rw [if_pos he]) (fun p e s m args below meth c s₁ B hml hno hP => ?_)
      refine jw_body hl w h320 ih hs p e s m args below meth c s₁ B hml ?_ hP
      rw [he]
      exact List.eq_nil_iff_forall_not_mem.mpr (fun x hx => hno x hx)
    · have hwe : jw_ws mi = Cond.codeWith (jm_yy mi) (jm_bb mi) (jm_ml mi) (jm_rr mi) (jm_hh mi) :: jb := by unfold jw_ws jm_w; rw [if_neg he]
      refine vx_ofWH (ws' := jb) hpn hwe (fun p e s m args below meth c s₁ B hml hP => ?_)
      refine jw_body hl w h320 ih hs p e s m args below meth c s₁ B hml ?_ hP
      exact vx_table (x := jm_yy mi) B (atoms_spec (ws := jw_ws mi) B.pre _ (by rw [hwe]; exact List.mem_cons_self))

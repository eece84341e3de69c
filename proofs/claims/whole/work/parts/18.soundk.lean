/-! THE LIGHT MACHINE IS SOUND, 10: the world in a callee; contracts -/
def jw_dc (q : Cond) : Bool := match q with
  | .declares _ => true
  | .castable _ _ => true
  | _ => false
/-- what throwing and catching stand on -/
def jw_Th (w : JW) (s : State) (H : Heap) : Prop :=
  (∀ q ∈ lw_tbl, jw_dc q = true → va_Nw q s) ∧ va_Nc "java/lang/IllegalArgumentException" "java/util/NoSuchElementException" s ∧ vx_Zq Bundle.tN "UNASSIGNED_STACK" Bundle.steD (fun q => w.1 ≤ q) s H ∧ vx_Zq Bundle.tN "SUPPRESSED_SENTINEL" Bundle.listD (fun q => w.1 ≤ q) s H
def jw_EE (w : JW) (s : State) (H : Heap) : Prop := jw_E w s H ∧ jw_Th w s H ∧ w.2.2.1.category = 1
theorem jw_over {u U : State} {t : FieldType} (hvm : u.vm.Alike U.vm) (h : (Cond.arrayOver t).before #[] u = true) : (Cond.arrayOver t).before #[] U = true := by
  have h1 : (Cond.arrayOver t).before #[] (u.setVm U.vm) = true := by rw [Cond.arrayOver_setVmC hvm t]; exact h
  exact h1
theorem jw_X.go {w : JW} {s U : State} {H H' : Heap} (hW : s.WarmedH U.vm) (hq : ∀ a : Nat, a < H.size → ¬ w.1 ≤ a → H'[a]? = H[a]?) (h : jw_X w s H) : jw_X w U H' := by
  obtain ⟨h1, h2, h3, h4, h5, h6, h7⟩ := h
  have hvm := hW.alike
  refine ⟨h1, fun a n ha => ?_, fun a n ha => ?_, fun a n ha => ?_, (h5.moved hvm).kept hq, (h6.moved hvm).kept hq, fun o i k hT hk => ?_⟩
  · obtain ⟨q1, q2, q3, q4⟩ := h2 a n ha
    exact ⟨(q1.moved hvm).kept hq, (q2.moved hvm).kept hq, (q3.moved hvm).kept hq, q4⟩
  · exact ((h3 a n ha).moved hvm).kept hq
  · obtain ⟨q1, q2, q3⟩ := h4 a n ha
    have e := hq _ q3 (Nat.not_le.mpr q2)
    have q1' := (q1.moved hvm).kept e
    obtain ⟨scr, z, -⟩ := q1'
    exact ⟨(q1.moved hvm).kept e, q2, (Array.getElem?_eq_some_iff.mp z).1⟩
  · obtain ⟨tx, hv⟩ := h7 o i k hT hk
    exact ⟨tx, hv.warm hW⟩
theorem jw_E.go {w : JW} {s U : State} {H H' : Heap} (hW : s.WarmedH U.vm) (hq : ∀ a : Nat, a < H.size → ¬ w.1 ≤ a → H'[a]? = H[a]?) (h : jw_E w s H) : jw_E w U H' := by
  obtain ⟨h1, h2, h3, h4, h5⟩ := h
  refine ⟨h1.moved hW.alike, fun q hm hn => ?_, h3.moved hW.alike, jw_over hW.alike h4, h5.go hW hq⟩
  have hz := h2 q hm hn
  cases q <;> simp [jw_nest] at hn
  exact va_Nw.warmM hW hz
theorem jw_EE.go {w : JW} {s U : State} {H H' : Heap} (hW : s.WarmedH U.vm) (hq : ∀ a : Nat, a < H.size → ¬ w.1 ≤ a → H'[a]? = H[a]?) (h : jw_EE w s H) : jw_EE w U H' := by
  obtain ⟨h1, ⟨h2, h3, h4, h5⟩, h6⟩ := h
  refine ⟨h1.go hW hq, ⟨fun q hm hn => ?_, h3.moved hW.alike, (h4.moved hW.alike).kept hq, (h5.moved hW.alike).kept hq⟩, h6⟩
  have hz := h2 q hm hn
  cases q <;> simp [jw_dc] at hn
  · exact va_Nw.warmD hW hz
  · exact va_Nw.warmC hW hz
def jw_En (k : Nat) : String := if k = 0 then "java/util/NoSuchElementException" else "java/lang/IllegalArgumentException"
def jw_Pc (w : JW) (as : List Value) (h : LH) : Array Value → State → Prop := fun v U => v = (as.map (jw_tv w)).toArray ∧ jw_EE w U U.heap ∧ jw_Rep w h U.heap
def jw_Qc (w : JW) (o : JOut) : Array Value → State → Outcome → State → Prop := fun _ st oc t => ∃ v : Option Value, o.1 = .inl v ∧ oc = .returned (v.map (jw_tv w)) ∧ jw_Rep w o.2 t.heap ∧ va_F (fun q => w.1 ≤ q) st t
def jw_XC (w : JW) (o : JOut) : String → State → State → Prop := fun E st t => ∃ k : Nat, o.1 = .inr k ∧ E = jw_En k ∧ jw_Rep w o.2 t.heap ∧ va_F (fun q => w.1 ≤ q) st t
noncomputable def jm_w (m : Nat) : Cond := if jm_hh m = [] then Cond.code (jm_yy m) (jm_bb m) (jm_ml m) (jm_rr m) else Cond.codeWith (jm_yy m) (jm_bb m) (jm_ml m) (jm_rr m) (jm_hh m)
noncomputable def jw_ws (m : Nat) : List Cond := jm_w m :: jb
def jw_rm (d mc ms : Nat) : Room := { frames := d + 8, cells := mc, slots := ms, locals := 60 * d + 300 }
theorem jb_good {q : Cond} (h : q ∈ jb) : (q.onTables && q.keeps) = true ∨ ∃ ty, q = .arrayClass ty := good_of_word (List.mem_filter.mp h).2
theorem jm_w_mem {m : Nat} (h : m < 320) : jm_w m ∈ jb := by
  have := (jm_Pall m (List.mem_range.mpr h)).1
  unfold jm_w
  rcases this with ⟨q1, q2⟩ | ⟨q1, q2⟩
  · rw [if_pos q1]; exact q2
  · rw [if_neg q1]; exact q2
theorem jw_ws_good {m : Nat} (h : m < 320) : GoodIn jb (jw_ws m) := fun q hq => by
  have : q ∈ jb := (List.mem_cons.mp hq).elim (fun e => by rw [e]; exact jm_w_mem h) id
  exact ⟨this, jb_good this⟩
/-- a contract of the light machine -/
def jw_Met (l : Launch) (w : JW) (d m : Nat) (as : List Value) (h : LH) (o : JOut) : Prop :=
  vx_Met l (jm_yy m) (jw_ws m) (jw_rm d (o.2.1.length - h.1.length) (jl_sl o.2 - jl_sl h)) (jw_Pc w as h) (jw_Qc w o) (jw_XC w o) (o.2.1.length - h.1.length) (jl_sl o.2 - jl_sl h) (fun q => w.1 ≤ q)
theorem jw_Pc_blind (w : JW) (as : List Value) (h : LH) : FrameBlind (jw_Pc w as h) := by
  intro a U g mk ⟨h1, h2, h3⟩
  exact ⟨h1, h2.go (s := U) (U := U.calling g mk a) (State.WarmedH.refl U) (fun _ _ _ => rfl), h3⟩
/-- the facts of a method, out of the checks -/
theorem jm_5_at {m : Nat} (h : m < 320) : jm_5 m = true := by
  have key : ∀ a k, (List.range' a k).all jm_5 = true → a ≤ m → m < a + k → jm_5 m = true := fun a k hh h1 h2 => List.all_eq_true.mp hh m (List.mem_range'_1.mpr ⟨h1, h2⟩)
  rcases Nat.lt_or_ge m 40 with q | q
  · exact key 0 40 jm_5_0 (by omega) (by omega)
  rcases Nat.lt_or_ge m 80 with q | q
  · exact key 40 40 jm_5_40 (by omega) (by omega)
  rcases Nat.lt_or_ge m 120 with q | q
  · exact key 80 40 jm_5_80 (by omega) (by omega)
  rcases Nat.lt_or_ge m 160 with q | q
  · exact key 120 40 jm_5_120 (by omega) (by omega)
  rcases Nat.lt_or_ge m 200 with q | q
  · exact key 160 40 jm_5_160 (by omega) (by omega)
  rcases Nat.lt_or_ge m 240 with q | q
  · exact key 200 40 jm_5_200 (by omega) (by omega)
  rcases Nat.lt_or_ge m 280 with q | q
  · exact key 240 40 jm_5_240 (by omega) (by omega)
  · exact key 280 40 jm_5_280 (by omega) (by omega)
noncomputable def jm_na (m : Nat) : Nat := (jt_A.getD m (0, 999)).1
noncomputable def jm_rk (m : Nat) : Nat := (jt_A.getD m (0, 999)).2
theorem jm_facts {m : Nat} (h : m < 320) : ∃ M : JMeth, jt_Ms m = some M ∧ (jm_yy m).cls = jn_R M.1 ∧ (M.2.1 = true ↔ (jm_yy m).name = "<init>") ∧ M.2.2.2.2.2 ≤ 40 ∧ jm_ml m = M.2.2.2.2.2 ∧ (parseMethodDescriptor (jm_yy m).desc).map (fun d => d.parameters.length) = some (jm_na m - (if jm_rk m = 999 then 0 else 1)) ∧ (jm_rk m = 999 ∨ 1 ≤ jm_na m) ∧ (jm_rk m = 999 ∨ (jm_rk m = M.1 ∧ M.1 < 12) ∨ (jm_rk m = 31 ∧ M.1 = 13)) ∧ jm_rr m = (if M.2.2.1 = 0 then none else if M.2.2.1 = 1 then some .int else if M.2.2.1 = 2 then some .boolean else if M.2.2.1 = 3 then some .byte else some .char) ∧ plainName (jm_yy m).cls = true ∧ (jm_yy m).cls ≠ "java/lang/invoke/MethodHandle" ∧ (jm_yy m).cls ≠ "java/lang/invoke/VarHandle" ∧ M.2.2.2.2.1 = (jm_hh m).map (fun q => (if q.2.2.2 = 31 then 0 else 1, q.2.2.1)) ∧ M.1 < 17 := by
  have h5 := jm_5_at h
  unfold jm_5 at h5
  split at h5
  · rename_i M hM
    simp only [Bool.and_eq_true, decide_eq_true_eq, beq_iff_eq, Bool.or_eq_true] at h5
    obtain ⟨⟨⟨⟨⟨⟨⟨⟨⟨⟨⟨q1, q2⟩, q3⟩, q4⟩, q5⟩, q6⟩, q7⟩, q8⟩, q9⟩, q10⟩, q11⟩, q12⟩ := h5
    refine ⟨M, hM, q1, by rw [q2]; exact decide_eq_true_iff, q3, by unfold jm_ml; rw [hM]; rfl, q4, q5, ?_, q7, q8, q9, q10, q11, q12⟩
    rcases q6 with (q | q) | q
    · exact Or.inl q
    · exact Or.inr (Or.inl q)
    · exact Or.inr (Or.inr q)
  · cases h5

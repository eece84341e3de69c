/-! THE LIGHT MACHINE IS SOUND, 8: a step within a method -/
/-- what stands for all of a method's body -/
def jw_Cx (w : JW) (p : Program) (R : Room) (s : State) (m : MethodId) (args : Array Value) (meth : Method) (c : Code) (cc : ByteArray) (nL own : Nat) (ini : Bool) : Prop :=
  p.tables.exec = Jvm.exec ∧ c.code = cc ∧ c.maxLocals = nL ∧ s.vm.findClass (jn_R own) = some m.cls ∧ (∀ q ∈ jb, q.before args s = true) ∧ (ini = true → meth.name = "<init>") ∧ 8 ≤ R.frames ∧ 300 ≤ R.locals ∧ jw_E w s s.heap ∧ w.2.2.1.category = 1
theorem jw_tv_cat1 {w : JW} (hw : w.2.2.1.category = 1) {v : Value} (h : v.category = 1) : (jw_tv w v).category = 1 := by
  cases v <;> first | exact h | rfl | exact hw
theorem jw_cat_sum {w : JW} (hw : w.2.2.1.category = 1) : ∀ {st : List Value}, st.all (fun v => decide (v.category = 1)) = true → (st.map (fun v => (jw_tv w v).category)).sum = st.length
  | [], _ => rfl
  | v :: st, h => by
    simp only [List.all_cons, Bool.and_eq_true, decide_eq_true_eq] at h
    rw [List.map_cons, List.sum_cons, jw_cat_sum hw h.2, jw_tv_cat1 hw h.1, List.length_cons]
    omega
theorem jb_Mat {o i m : Nat} (h : jt_T.2.1 o i = some m) : Cond.methodLinkNest (jn_R o) i (jb_yx m) "SmokeGates" ∈ lw_tbl ∨ Cond.methodLink (jn_R o) i (jb_yx m) ∈ jb := by
  have h1 : ((jt_Mt.getD o []).lookup i).map (fun q => q.1) = some m := h
  cases hl : (jt_Mt.getD o []).lookup i with
  | none => rw [hl] at h1; cases h1
  | some q =>
    rw [hl] at h1
    obtain ⟨q1, q2, q3⟩ := q
    cases h1
    have := jb_Mt o _ (jb_lookup hl)
    unfold jw_Mp at this
    split at this
    · exact Or.inl this
    · exact Or.inr this
set_option maxRecDepth 100000 in
/-- the four nest calls are calls of constructors of ours -/
theorem jb_Mnest : (List.range 17).all (fun o => (jt_Mt.getD o []).all (fun q => decide (q.2.2.2 = 1 → q.2.1 < 9000) && decide (q.2.2.2 = 0 ∨ q.2.2.2 = 1))) = true := by decide +kernel
theorem jt_Mt_lt {o i m : Nat} (h : jt_T.2.1 o i = some m) : o < 17 := by
  have h1 : ((jt_Mt.getD o []).lookup i).map (fun q => q.1) = some m := h
  rcases Nat.lt_or_ge o 17 with q | q
  · exact q
  · rw [show jt_Mt.getD o [] = [] from by rw [List.getD_eq_getElem?_getD, List.getElem?_eq_none (by simpa [jt_Mt] using q)]; rfl] at h1
    cases h1
theorem jb_Mx {o i m : Nat} (h : jt_T.2.1 o i = some m) (hm : 9000 ≤ m) : Cond.methodLink (jn_R o) i (jb_yx m) ∈ jb := by
  have ho := jt_Mt_lt h
  have h1 : ((jt_Mt.getD o []).lookup i).map (fun q => q.1) = some m := h
  cases hl : (jt_Mt.getD o []).lookup i with
  | none => rw [hl] at h1; cases h1
  | some q =>
    rw [hl] at h1
    obtain ⟨q1, q2, q3⟩ := q
    cases h1
    have h2 := List.all_eq_true.mp (List.all_eq_true.mp jb_Mnest o (List.mem_range.mpr ho)) _ (jb_lookup hl)
    simp only [Bool.and_eq_true, decide_eq_true_eq] at h2
    have := jb_Mt o _ (jb_lookup hl)
    unfold jw_Mp at this
    split at this
    · rename_i h3
      have h4 : q1 < 9000 := h2.1 h3
      exact absurd (show 9000 ≤ q1 from hm) (by omega)
    · exact this
section JSH
variable {w : JW} {p : Program} {l : Launch} {e : Env} {R : Room} {s : State} {m : MethodId} {args : Array Value} {below : List Frame} {meth : Method} {c : Code} {nL n0 s0 own rt : Nat} {ini : Bool} {Q : State → Prop} {cc : ByteArray} {pc pc' : Nat} {ls st ls' st' : List Value} {h h' : LH}
theorem jb_Kat {o i : Nat} {x : Int32} (h : jt_T.2.2.2.1 o i = some (.inl x)) (h13 : ¬ o = 13) : Cond.constant (jn_R o) i x ∈ jb := by
  have h1 : ((jt_K.getD o []).lookup i).map (fun q => q.1) = some (.inl x) := h
  cases hl : (jt_K.getD o []).lookup i with
  | none => rw [hl] at h1; cases h1
  | some q =>
    rw [hl] at h1
    obtain ⟨q1, q2⟩ := q
    simp only [Option.map_some, Option.some.injEq] at h1
    subst h1
    have := jb_K o _ (jb_lookup hl)
    exact this.elim (fun z => absurd z h13) id
theorem jw_ldc (C : jw_Cx w p R s m args meth c cc nL own ini) {idx : Nat} (hd : decode cc pc = .ok (.ldc idx, 2))
    (hs : jl_ldc jt_T own idx ls st h (pc + 2) = some (.inl (pc', ls', st', h'))) (kk : jw_J w p l e R s m args below meth c nL n0 s0 Q pc' ls' st' h') : jw_J w p l e R s m args below meth c nL n0 s0 Q pc ls st h := by
  obtain ⟨hx, hb, hml, hown, hts, hini, hfr, hlo, hE, hw⟩ := C
  unfold jl_ldc at hs
  split at hs
  · rename_i x hT
    split at hs
    · cases hs
    · rename_i h13
      obtain ⟨rfl, rfl, rfl, rfl⟩ := jw_nx hs
      intro H locs lsA hR hL hS
      exact lv_ldc hx hb hown (hts _ (jb_Kat hT h13)) hd (kk H locs lsA hR hL hS)
  · rename_i x hT
    split at hs
    · rename_i hx21
      obtain ⟨rfl, rfl, rfl, rfl⟩ := jw_nx hs
      intro H locs lsA hR hL hS
      have k := kk H locs lsA hR hL hS
      obtain ⟨tx, hv⟩ := hE.2.2.2.2.2.2.2.2.2.2 own idx x hT hx21.1
      have ea : jw_ad w x = w.2.1 x := if_pos (by omega)
      rw [List.map_cons, show jw_tv w (.ref x) = .ref (w.2.1 x) by rw [← ea]; rfl] at k
      exact va_ldcS hx hb hown hv hd k
    · cases hs
  · cases hs
theorem jw_ldcw (C : jw_Cx w p R s m args meth c cc nL own ini) {idx : Nat} (hd : decode cc pc = .ok (.ldc_w idx, 3))
    (hs : jl_ldcw jt_T own idx ls st h (pc + 3) = some (.inl (pc', ls', st', h'))) (kk : jw_J w p l e R s m args below meth c nL n0 s0 Q pc' ls' st' h') : jw_J w p l e R s m args below meth c nL n0 s0 Q pc ls st h := by
  obtain ⟨hx, hb, hml, hown, hts, hini, hfr, hlo, hE, hw⟩ := C
  unfold jl_ldcw at hs
  split at hs
  · rename_i x hT
    split at hs
    · cases hs
    · rename_i h13
      obtain ⟨rfl, rfl, rfl, rfl⟩ := jw_nx hs
      intro H locs lsA hR hL hS
      exact lv_ldcw hx hb hown (hts _ (jb_Kat hT h13)) hd (kk H locs lsA hR hL hS)
  · cases hs
theorem jw_gets (C : jw_Cx w p R s m args meth c cc nL own ini) {idx : Nat} (hd : decode cc pc = .ok (.getstatic idx, 3))
    (hs : jl_gets jt_T own idx ls st h (pc + 3) = some (.inl (pc', ls', st', h'))) (kk : jw_J w p l e R s m args below meth c nL n0 s0 Q pc' ls' st' h') : jw_J w p l e R s m args below meth c nL n0 s0 Q pc ls st h := by
  obtain ⟨hx, hb, hml, hown, hts, hini, hfr, hlo, hE, hw⟩ := C
  have key : ∀ v, own = 13 → jt_T.2.2.2.1 own idx = some v → (idx = 38 ∧ v = .inl 1) ∨ (idx = 1053 ∧ v = .inr 100) := by
    rintro v rfl hT
    have h1 : ((jt_K.getD 13 []).lookup idx).map (fun q => q.1) = some v := hT
    cases hl : (jt_K.getD 13 []).lookup idx with
    | none => rw [hl] at h1; cases h1
    | some q =>
      rw [hl] at h1
      have hm : (idx, q) ∈ jt_K_13 := jb_lookup hl
      simp only [Option.map_some, Option.some.injEq] at h1
      simp only [jt_K_13, List.mem_cons, Prod.mk.injEq, List.not_mem_nil, or_false] at hm
      rcases hm with ⟨rfl, rfl⟩ | ⟨rfl, rfl⟩
      · exact Or.inl ⟨rfl, h1.symm⟩
      · exact Or.inr ⟨rfl, h1.symm⟩
  unfold jl_gets at hs
  split at hs
  · rename_i x hT
    split at hs
    · rename_i h13
      obtain ⟨rfl, rfl, rfl, rfl⟩ := jw_nx hs
      rcases key _ h13 hT with ⟨rfl, hv⟩ | ⟨-, hv⟩
      · cases hv
        subst h13
        intro H locs lsA hR hL hS
        exact va_gets (A := fun q => w.1 ≤ q) hx hb hE.2.2.2.2.2.2.2.2.1 hS hown (hts _ jb_st.1) (fun _ h => h) hd (kk H locs lsA hR hL hS)
      · cases hv
    · cases hs
  · rename_i x hT
    split at hs
    · rename_i h13
      obtain ⟨rfl, rfl, rfl, rfl⟩ := jw_nx hs
      rcases key _ h13.2 hT with ⟨-, hv⟩ | ⟨rfl, hv⟩
      · cases hv
      · have h132 := h13.2
        subst h132
        intro H locs lsA hR hL hS
        exact va_gets (A := fun q => w.1 ≤ q) hx hb hE.2.2.2.2.2.2.2.2.2.1 hS hown (hts _ jb_st.2) (fun _ h => h) hd (kk H locs lsA hR hL hS)
    · cases hs
  · cases hs
theorem jw_sum_le (w : JW) : ∀ (st : List Value), (st.map (fun v => (jw_tv w v).category)).sum ≤ 2 * st.length
  | [] => Nat.le_refl _
  | v :: st => by
    have h1 := jw_sum_le w st
    have h2 := lv_cat (jw_tv w v)
    rw [List.map_cons, List.sum_cons, List.length_cons]
    omega
theorem jw_sum_le' (w : JW) (st : List Value) : ((st.map (jw_tv w)).map (fun v => v.category)).sum ≤ 2 * st.length := by
  rw [List.map_map]
  exact jw_sum_le w st
/-- calls that stay within: Object's constructor, arraycopy, Math -/
theorem jw_inv0 (C : jw_Cx w p R s m args meth c cc nL own ini) (hcap : h.1.length - n0 ≤ R.cells ∧ jl_sl h - s0 ≤ R.slots) {idx how : Nat} {i : Instr} (hi : (how = 1 ∧ i = .invokespecial idx) ∨ (how = 2 ∧ i = .invokestatic idx) ∨ (how = 3 ∧ i = .invokevirtual idx)) (hd : decode cc pc = .ok (i, 3))
    (hs : jl_inv jt_T own idx ls st h (pc + 3) how = some (.inl (pc', ls', st', h'))) (kk : jw_J w p l e R s m args below meth c nL n0 s0 Q pc' ls' st' h') : jw_J w p l e R s m args below meth c nL n0 s0 Q pc ls st h := by
  obtain ⟨hx, hb, hml, hown, hts, hini, hfr, hlo, hE, hw⟩ := C
  unfold jl_inv at hs
  split at hs
  · rename_i hT
    split at hs
    · rename_i hh
      split at hs
      · rename_i a st1
        split at hs
        · rename_i h8
          obtain ⟨rfl, rfl, rfl, rfl⟩ := jw_nx hs
          rcases hi with ⟨-, rfl⟩ | ⟨q, -⟩ | ⟨q, -⟩
          · intro H locs lsA hR hL hS
            have h2 := jw_sum_le' w st1
            exact W.objInit hx hb hown (hts _ (jb_Mx hT (by omega))) (hts _ jb_obj.1) (hts _ jb_obj.2) rfl (by rw [hml]; exact hL.1) rfl hd (by omega) (by show 2 * 0 + _ + _ ≤ _; omega) (kk H locs lsA hR hL hS)
          · omega
          · omega
        · cases hs
      · cases hs
    · cases hs
  · rename_i hT
    split at hs
    · rename_i hh
      split at hs
      · rename_i n dp b sp a st1
        split at hs
        · rename_i hc
          obtain ⟨rfl, rfl, rfl, rfl⟩ := jw_nx hs
          obtain ⟨c1, c2, c3, c4, c5, c6, c7, c8, c9, c10, c11⟩ := hc
          rcases hi with ⟨q, -⟩ | ⟨-, rfl⟩ | ⟨q, -⟩
          · omega
          · have h2 := jw_sum_le w st1
            exact jw_acopy hx hb hE hml hown (hts _ (jb_Mx hT (by omega))) (hts _ jb_acp.1) (hts _ jb_acp.2.1) (hts _ jb_acp.2.2) hfr hlo c1 c3 c4 c7 c8 c6 c9 c10 (by omega) hd kk
          · omega
        · cases hs
      · cases hs
    · cases hs
  · rename_i hT
    split at hs
    · rename_i hh
      split at hs
      · rename_i y x st1
        split at hs
        · obtain ⟨rfl, rfl, rfl, rfl⟩ := jw_nx hs
          rcases hi with ⟨q, -⟩ | ⟨-, rfl⟩ | ⟨q, -⟩
          · omega
          · intro H locs lsA hR hL hS
            have h2 := jw_sum_le' w st1
            exact va_mmin hx hb (by rw [hml]; exact hL.1.symm) hown (hts _ (jb_Mx hT (by omega))) (hts _ jb_min.1) (hts _ jb_min.2.1) (hts _ jb_min.2.2) (by omega) (by omega) hcap.1 hcap.2 hd (kk H locs lsA hR hL hS)
          · omega
        · cases hs
      · cases hs
    · cases hs
  · rename_i hT
    split at hs
    · rename_i hh
      split at hs
      · rename_i y x st1
        split at hs
        · obtain ⟨rfl, rfl, rfl, rfl⟩ := jw_nx hs
          rcases hi with ⟨q, -⟩ | ⟨-, rfl⟩ | ⟨q, -⟩
          · omega
          · intro H locs lsA hR hL hS
            have h2 := jw_sum_le' w st1
            exact va_mmax hx hb (by rw [hml]; exact hL.1.symm) hown (hts _ (jb_Mx hT (by omega))) (hts _ jb_max.1) (hts _ jb_max.2.1) (hts _ jb_max.2.2) (by omega) (by omega) hcap.1 hcap.2 hd (kk H locs lsA hR hL hS)
          · omega
        · cases hs
      · cases hs
    · cases hs
  · rename_i hT
    split at hs
    · rename_i hh
      split at hs
      · rename_i x st1
        split at hs
        · obtain ⟨rfl, rfl, rfl, rfl⟩ := jw_nx hs
          rcases hi with ⟨q, -⟩ | ⟨-, rfl⟩ | ⟨q, -⟩
          · omega
          · intro H locs lsA hR hL hS
            have h2 := jw_sum_le' w st1
            exact va_mabs hx hb (by rw [hml]; exact hL.1.symm) hown (hts _ (jb_Mx hT (by omega))) (hts _ jb_abs.1) (hts _ jb_abs.2.1) (hts _ jb_abs.2.2) (by omega) (by omega) hcap.1 hcap.2 hd (kk H locs lsA hR hL hS)
          · omega
        · cases hs
      · cases hs
    · cases hs
  · dsimp only at hs
    split at hs
    · split at hs
      · split at hs <;> cases hs
      · split at hs
        · split at hs <;> cases hs
        · cases hs
    · cases hs
  · cases hs
end JSH

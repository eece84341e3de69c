/-! THE LIGHT MACHINE IS SOUND, 16: a catch; every method meets its contract -/
set_option maxRecDepth 100000 in
theorem jb_cast : (["java/util/NoSuchElementException", "java/lang/IllegalArgumentException"]).all (fun c => decide (Cond.castable c c ∈ lw_tbl)) = true := by decide +kernel
theorem jb_law31 : Cond.classLink "SmokeGatesLaw" 31 "java/util/NoSuchElementException" ∈ jb := jb_Cat (o := 12) (i := 31) (ci := 100) rfl
theorem jb_law13 : Cond.classLink "SmokeGatesLaw" 13 "java/lang/IllegalArgumentException" ∈ jb := jb_Cat (o := 12) (i := 13) (ci := 101) rfl
section JSQ
variable {w : JW} {p : Program} {l : Launch} {e : Env} {R : Room} {s : State} {m : MethodId} {args : Array Value} {below : List Frame} {meth : Method} {c : Code} {nL n0 s0 d pc len : Nat} {cc : ByteArray} {i : Instr} {ls st : List Value} {h : LH} {Q : State → Prop}
theorem jw_cast (hTh : jw_Th w s s.heap) (k : Nat) : (Cond.castable (jw_En k) (jw_En k)).before args s = true := by
  have h1 := of_decide_eq_true (List.all_eq_true.mp jb_cast "java/util/NoSuchElementException" (by decide))
  have h2 := of_decide_eq_true (List.all_eq_true.mp jb_cast "java/lang/IllegalArgumentException" (by decide))
  unfold jw_En
  split
  · exact va_Nw.use rfl (hTh.1 _ h1 rfl)
  · exact va_Nw.use rfl (hTh.1 _ h2 rfl)
theorem jw_hc {M : JMeth} {mi : Nat} (hMs : jt_Ms mi = some M) (h320 : mi < 320) (C : jw_Cx w p R s m args meth c cc nL M.1 M.2.1) (hEE : jw_EE w s s.heap) (htab : c.exceptionTable.toList = tableOf (jm_hh mi)) (hdec : ∀ q ∈ M.2.2.2.1, decode cc q.1 = .ok (q.2.1, q.2.2)) (hlk : M.2.2.2.1.all (fun q => jl_lok q.2.1 q.2.2) = true)
    {how idx k hp pc' : Nat} {ls' rest : List Value} (hmem : (pc, i, len) ∈ M.2.2.2.1) (hi : (how = 1 ∧ i = .invokespecial idx) ∨ (how = 2 ∧ i = .invokestatic idx) ∨ (how = 3 ∧ i = .invokevirtual idx)) (hne : how ≠ 1) (hlp : M.2.2.2.2.1.lookup k = some hp) (hcat : jl_catch M hp ls = some (pc', ls'))
    (kJ : jw_J w p l e R s m args below meth c nL n0 s0 Q pc' ls' [] h) :
    ∀ (H : Heap) (locs : List Loc) (lsA : Array Slot) (q : Addr) (ce : Cell), jw_Rep w h H → jw_LR w lsA nL ls → va_S (fun q => w.1 ≤ q) s.heap H locs → H[q]? = some ce → ce.vm = .none → s.vm.findClass (jw_En k) = some ce.cls → vx_W p l e R s m args below meth c H locs (h.1.length - n0) (jl_sl h - s0) Q (F0 m pc lsA (rest.map (jw_tv w))) q := by
  obtain ⟨hx, hb, hml, hown, hts, hini, hfr, hlo, hE, hw⟩ := id C
  intro H locs lsA q ce hR hL hS hce hcv hcl
  obtain ⟨M', hM', -, -, -, -, -, -, -, -, -, -, -, hhd, -⟩ := jm_facts h320
  cases Option.some.inj (hMs.symm.trans hM')
  have hMl : jt_Ml[mi]? = some M := hMs
  -- the handler's first step
  have KH : W p l e R s m args below meth c H locs (h.1.length - n0) (jl_sl h - s0) Q (F0 m hp lsA [.ref q]) := by
    unfold jl_catch at hcat
    split at hcat
    · rename_i j len2 hl2
      split at hcat
      · rename_i hj
        simp only [Option.some.injEq, Prod.mk.injEq] at hcat
        obtain ⟨rfl, rfl⟩ := hcat
        have hd := hdec (hp, .astore j, len2) (jb_lookup hl2)
        have hln := List.all_eq_true.mp hlk (hp, .astore j, len2) (jb_lookup hl2)
        have e2 : len2 = 2 := by simpa [jl_lok] using hln
        subst e2
        have hj' : j < nL := by rw [← hL.2.1]; exact hj
        exact lv_astore hx hb hd (jw_lv_has hL) hj' rfl (fun ls9 h9 => kJ H locs ls9 hR (jw_LR_set hL hj' rfl (Or.inl rfl) h9) hS)
      · cases hcat
    · rename_i j len2 hl2
      split at hcat
      · rename_i hj
        simp only [Option.some.injEq, Prod.mk.injEq] at hcat
        obtain ⟨rfl, rfl⟩ := hcat
        have hd := hdec (hp, .astore_n j, len2) (jb_lookup hl2)
        have hln := List.all_eq_true.mp hlk (hp, .astore_n j, len2) (jb_lookup hl2)
        have e2 : len2 = 1 := by simpa [jl_lok] using hln
        subst e2
        have hj' : (j : Nat) < nL := by rw [← hL.2.1]; exact hj
        exact lv_astore_n hx hb hd rfl (jw_lv_has hL) hj' rfl (fun ls9 h9 => kJ H locs ls9 hR (jw_LR_set hL hj' rfl (Or.inl rfl) h9) hS)
      · cases hcat
    · cases hcat
  have hok := List.all_eq_true.mp jm_hok_all mi (List.mem_range.mpr h320)
  unfold jm_hok at hok
  rw [hMl] at hok
  rw [hhd] at hlp
  have hcov : ∀ (s1 e1 : Nat) (f : Nat × Instr × Nat → Bool), (f (pc, i, len) = true → s1 ≤ pc ∧ pc < e1) → M.2.2.2.1.all f = true → s1 ≤ pc ∧ pc < e1 := fun s1 e1 f hf ha => hf (List.all_eq_true.mp ha (pc, i, len) hmem)
  have hii : i = .invokestatic idx ∨ i = .invokevirtual idx := by
    rcases hi with ⟨z, -⟩ | ⟨-, z⟩ | ⟨-, z⟩
    · exact absurd z hne
    · exact Or.inl z
    · exact Or.inr z
  split at hok
  · rename_i hh
    rw [hh] at hlp
    cases hlp
  · rename_i s1 e1 t1 hh
    simp only [Option.elim_some, Bool.and_eq_true, decide_eq_true_eq] at hok
    rw [hh] at hlp htab
    have hc1 : s1 ≤ pc ∧ pc < e1 := hcov s1 e1 _ (by rcases hii with rfl | rfl <;> simp) hok.2
    have hk : k = 0 ∧ t1 = hp := by
      simp only [List.map_cons, List.map_nil, List.lookup_cons] at hlp
      split at hlp
      · rename_i z
        exact ⟨by simpa using z, Option.some.inj hlp⟩
      · cases hlp
    obtain ⟨rfl, rfl⟩ := hk
    rw [hok.1] at hown
    exact vx_catch (name := "java/util/NoSuchElementException") hown [] ⟨s1, e1, t1, 31⟩ [] htab (fun z hz => nomatch hz) (by simp [covers, hc1]) (show (31 : Nat) ≠ 0 by decide) (hts _ jb_law31) (jw_cast hEE.2.1 0) hce hcv hcl KH
  · rename_i s1 e1 t1 hh
    simp only [Option.elim_some, Bool.and_eq_true, decide_eq_true_eq] at hok
    rw [hh] at hlp htab
    have hc1 : s1 ≤ pc ∧ pc < e1 := hcov s1 e1 _ (by rcases hii with rfl | rfl <;> simp) hok.2
    have hk : k = 1 ∧ t1 = hp := by
      simp only [List.map_cons, List.map_nil, List.lookup_cons] at hlp
      split at hlp
      · rename_i z
        exact ⟨by simpa using z, Option.some.inj hlp⟩
      · cases hlp
    obtain ⟨rfl, rfl⟩ := hk
    rw [hok.1] at hown
    exact vx_catch (name := "java/lang/IllegalArgumentException") hown [] ⟨s1, e1, t1, 13⟩ [] htab (fun z hz => nomatch hz) (by simp [covers, hc1]) (show (13 : Nat) ≠ 0 by decide) (hts _ jb_law13) (jw_cast hEE.2.1 1) hce hcv hcl KH
  · rename_i s1 e1 t1 s2 e2 t2 hh
    simp only [Option.elim_some, Bool.and_eq_true, decide_eq_true_eq] at hok
    rw [hh] at hlp htab
    have hc1 : (s1 ≤ pc ∧ pc < e1) ∧ (s2 ≤ pc ∧ pc < e2) := by
      have := List.all_eq_true.mp hok.2 (pc, i, len) hmem
      rcases hii with rfl | rfl
      · simp only [decide_eq_true_eq] at this
        exact ⟨⟨this.1, this.2.1⟩, this.2.2⟩
      · simp only [decide_eq_true_eq] at this
        exact ⟨⟨this.1, this.2.1⟩, this.2.2⟩
    rw [hok.1] at hown
    have hk : (k = 0 ∧ t1 = hp) ∨ (k = 1 ∧ t2 = hp) := by
      simp only [List.map_cons, List.map_nil, List.lookup_cons] at hlp
      split at hlp
      · rename_i z
        exact Or.inl ⟨by simpa using z, Option.some.inj hlp⟩
      · split at hlp
        · rename_i z
          exact Or.inr ⟨by simpa using z, Option.some.inj hlp⟩
        · cases hlp
    rcases hk with ⟨rfl, rfl⟩ | ⟨rfl, rfl⟩
    · exact vx_catch (name := "java/util/NoSuchElementException") hown [] ⟨s1, e1, t1, 31⟩ [⟨s2, e2, t2, 13⟩] htab (fun z hz => nomatch hz) (by simp [covers, hc1]) (show (31 : Nat) ≠ 0 by decide) (hts _ jb_law31) (jw_cast hEE.2.1 0) hce hcv hcl KH
    · refine vx_catch (name := "java/lang/IllegalArgumentException") hown [⟨s1, e1, t1, 31⟩] ⟨s2, e2, t2, 13⟩ [] htab (fun z hz => ?_) (by simp [covers, hc1]) (show (13 : Nat) ≠ 0 by decide) (hts _ jb_law13) (jw_cast hEE.2.1 1) hce hcv hcl KH
      rw [List.mem_singleton.mp hz]
      exact Or.inr ⟨show (31 : Nat) ≠ 0 by decide, "java/util/NoSuchElementException", hts _ jb_law31, hEE.2.1.2.1⟩
  · cases hok
end JSQ

/-! THE CLAIM, REDUCED to a run of the light machine -/
set_option maxRecDepth 100000 in
theorem jy_M320 : jt_Ms 320 = some (12, false, 2, jk_320, [], 7) := rfl
/-- what is left: a run of the law on the light machine -/
def jy_Goal (L : Nat) (xs : Nat → Int32) : Prop := ∃ (d : Nat) (h' : LH), d ≤ 1300 ∧ jl_Sem jt_T jt_Ms (d + 1) 320 [.ref 63] (jy_h L xs) (.inl (some (.int 1)), h') ∧ h'.1.length - 64 ≤ 601024 ∧ jl_sl h' - jl_sl (jy_h L xs) ≤ 7293034
theorem jy_ar1 {d : Nat} (h : d ≤ 1300) : d + 8 + 1 ≤ 2048 := by omega
theorem jy_ar2 {d : Nat} (h : d ≤ 1300) : 60 * d + 300 + 60 ≤ 84000 := by omega
theorem jy_ht_new {T : JTab} {own rt : Nat} {ini : Bool} {i : Instr} {len pc : Nat} {ls st : List Value} {h : LH} {v : Option Value} (hs : jl_step T own ini rt i len pc ls st h = some (.inr (.inl v))) : (i = .ireturn ∧ ∃ x, st = [.int x] ∧ v = some (.int x)) ∨ (i = .return_ ∧ v = none) := by
  cases i <;> simp only [jl_step, jl_loadI, jl_loadA, jl_storeI, jl_storeA, jl_bin, jl_div, jl_un, jl_get, jl_put, jl_ald, jl_aald, jl_lald, jl_iast, jl_bast, jl_last, jl_aast, jl_alen, jl_newa, jl_anew, jl_mnew, jl_mk, jl_inv, jl_ldc, jl_ldcw, jl_gets, jl_next] at hs
  case ireturn =>
    unfold jl_ret at hs
    split at hs
    · rename_i x
      split at hs
      · simp only [Option.some.injEq, Sum.inr.injEq, Sum.inl.injEq] at hs
        exact Or.inl ⟨rfl, x, rfl, hs.symm⟩
      · cases hs
    · cases hs
  case return_ =>
    split at hs
    · simp only [Option.some.injEq, Sum.inr.injEq, Sum.inl.injEq] at hs
      exact Or.inr ⟨rfl, hs.symm⟩
    · cases hs
  all_goals exfalso
  all_goals first
    | (cases hs; done)
    | exact jl_go_inr hs
    | ((repeat' split at hs) <;> first | (cases hs; done) | exact jl_go_inr hs | exact jl_br_inr hs | exact jl_el_inr hs)
set_option maxHeartbeats 4000000 in
theorem jy_start {p : Program} {e : Env} {s : State} {m : MethodId} {below : List Frame} {meth : Method} {c : Code} (l : Launch) (hl : l.stackTraces = false) {b L : Nat} {xs : Nat → Int32} (hG : jy_Goal L xs) (C0 : lw_At p s m meth c b L xs) : W p l e room_1 s m #[Value.ref b] below meth c s.heap [] 0 0 (lw_Z below #[Value.ref b] s) (entryFrame m ([Value.ref b] : List Value).toArray 7) := by
  obtain ⟨d, h', hd, hsem, hc1, hc2⟩ := hG
  obtain ⟨w, hw1, hwb, hEE, hRep⟩ := jy_world C0
  obtain ⟨hx, hb, hr, hml, hown, hts, hX, hbl, hlk, hgv⟩ := C0
  obtain ⟨M, hM, hlen, hcat, n, hrun⟩ := hsem
  cases Option.some.inj (jy_M320.symm.trans hM)
  have hMm : ((12, false, 2, jk_320, [], 7) : JMeth) ∈ jt_Ml := List.mem_of_getElem? (show jt_Ml[320]? = _ from hM)
  have hjb : ∀ q ∈ jb, q.before #[Value.ref b] s = true := fun q hq => hts q (List.mem_filter.mp hq).1
  have C : jw_Cx w p room_1 s m #[Value.ref b] meth c code 7 12 false := ⟨hx, hb, hml, hown, hjb, fun h => (by cases h), (by decide : 8 ≤ 2048), (by decide : 300 ≤ 84000), hEE.1, hEE.2.2⟩
  have hlok : jk_320.all (fun q => jl_lok q.2.1 q.2.2) = true := List.all_eq_true.mp jl_lok_all (12, false, 2, jk_320, [], 7) hMm
  have hinv : jk_320.all (jm_inv (12, false, 2, jk_320, [], 7)) = true := List.all_eq_true.mp jm_inv_all (12, false, 2, jk_320, [], 7) hMm
  have hthr : jk_320.all (jm_thr (12, false, 2, jk_320, [], 7)) = true := List.all_eq_true.mp jm_thr_all (12, false, 2, jk_320, [], 7) hMm
  have h64 : (jy_h L xs).1.length = 64 := by show (jy_kd L).length = 64; simp [jy_kd]
  have key := jw_run (e := e) (below := below) (l := l) (d := d) (Q := lw_Z below #[Value.ref b] s) (n0 := (jy_h L xs).1.length) (s0 := jl_sl (jy_h L xs)) (M := (12, false, 2, jk_320, [], 7)) (o := (.inl (some (.int 1)), h')) C hEE jd_320 hlok hinv (jy_ar1 hd) (jy_ar2 hd) (jw_met hl w d) ⟨by rw [h64]; exact hc1, hc2⟩
    (fun pc len i ls st h v hmem hlk9 hst ho => by
      cases ho
      rcases jy_ht_new hst with ⟨rfl, x, rfl, hv⟩ | ⟨rfl, hv⟩
      · cases hv
        have e1 : len = 1 := by simpa [jl_lok] using hlk9
        subst e1
        intro H locs lsA hR hL hS
        refine va_forget (fun q hq => by have := hS.2.2 q hq; rw [← hw1]; exact this) ?_
        refine W.widen (k := 601024) (n := 7293034) (by rw [h64]; exact hc1) hc2 ?_
        exact lw_ret hx hb hr hlk (jd_320 (pc, .ireturn, 1) hmem)
      · cases hv)
    (fun pc len i ls st h k hmem hst he ho => by cases ho)
    (fun pc len i ls rest h k hmem he ho => by cases ho)
    (fun pc len how idx i ls ls' rest h k hp pc' hmem hi hne hlp hcat2 kJ => by cases hlp)
    n 0 (jl_entry [.ref 63] 7) [] (jy_h L xs) hrun (Nat.le_refl _) (Nat.le_refl _)
  have hk := key s.heap [] _ hRep (jw_entryLR hEE.2.2 hcat (by decide)) va_S.rf
  rw [Nat.sub_self, Nat.sub_self] at hk
  have ha : ([Value.ref 63] : List Value).map (jw_tv w) = [Value.ref b] := by
    show [Value.ref (jw_ad w 63)] = _
    unfold jw_ad
    rw [if_pos (by decide), hwb]
  rw [ha] at hk
  rw [lg_entry_eq]
  exact hk

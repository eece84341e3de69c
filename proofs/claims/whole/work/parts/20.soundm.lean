/-! THE LIGHT MACHINE IS SOUND, 12: a call -/
/-- which links the calls of a method's code are -/
noncomputable def jm_inv (M : JMeth) (q : Nat × Instr × Nat) : Bool := match q.2.1 with
  | .invokevirtual idx => ((jt_Mt.getD M.1 []).lookup idx).elim true (fun z => decide (z.2.2 = 0) && (jt_Ml[z.1]?).elim true (fun M' => !M'.2.1))
  | .invokestatic idx => ((jt_Mt.getD M.1 []).lookup idx).elim true (fun z => decide (z.2.2 = 0))
  | .invokespecial idx => ((jt_Mt.getD M.1 []).lookup idx).elim true (fun z => decide (9000 ≤ z.1) || (jt_Ml[z.1]?).elim true (fun M' => M'.2.1))
  | _ => true
set_option maxRecDepth 100000 in
theorem jm_inv_all : jt_Ml.all (fun M => M.2.2.2.1.all (jm_inv M)) = true := by decide +kernel
set_option maxRecDepth 100000 in
theorem jm_ctor : (List.range 320).all (fun m => (jt_Ml[m]?).elim true (fun M => !M.2.1 || decide (M.2.2.1 = 0))) = true := by decide +kernel
theorem jl_inv_call {T : JTab} {own idx pc' how how' mi : Nat} {ls st as rest : List Value} {h : LH} (hs : jl_inv T own idx ls st h pc' how = some (.inr (.inr (.inl (how', mi, as, rest))))) :
    how' = how ∧ T.2.1 own idx = some mi ∧ as = (jl_pop (T.2.2.2.2.2.2 mi).1 st).1 ∧ rest = (jl_pop (T.2.2.2.2.2.2 mi).1 st).2 ∧ (T.2.2.2.2.2.2 mi).1 ≤ st.length ∧ rest.length ≤ 8 ∧ st.all (fun v => decide (v.category = 1)) = true ∧ ((how = 2 ∧ (T.2.2.2.2.2.2 mi).2 = 999) ∨ (how ≠ 2 ∧ ∃ (a : Nat) (as' : List Value), as = .ref a :: as' ∧ jl_kd h a = (T.2.2.2.2.2.2 mi).2 ∧ (T.2.2.2.2.2.2 mi).2 < 999)) := by
  unfold jl_inv at hs
  split at hs
  · split at hs
    · split at hs
      · split at hs <;> cases hs
      · cases hs
    · cases hs
  · split at hs
    · split at hs
      · split at hs <;> cases hs
      · cases hs
    · cases hs
  · split at hs
    · split at hs
      · split at hs <;> cases hs
      · cases hs
    · cases hs
  · split at hs
    · split at hs
      · split at hs <;> cases hs
      · cases hs
    · cases hs
  · split at hs
    · split at hs
      · split at hs <;> cases hs
      · cases hs
    · cases hs
  · rename_i m1 _ _ _ _ _ hT
    dsimp only at hs
    split at hs
    · rename_i hc
      split at hs
      · rename_i h2
        split at hs
        · rename_i hrk
          simp only [Option.some.injEq, Sum.inr.injEq, Sum.inl.injEq, Prod.mk.injEq] at hs
          obtain ⟨rfl, rfl, hq⟩ := hs
          have e1 : as = (jl_pop (T.2.2.2.2.2.2 m1).1 st).1 := by rw [hq]
          have e2 : rest = (jl_pop (T.2.2.2.2.2.2 m1).1 st).2 := by rw [hq]
          exact ⟨rfl, hT, e1, e2, hc.1, by rw [e2]; exact hc.2.1, hc.2.2, Or.inl ⟨h2, hrk⟩⟩
        · cases hs
      · rename_i h2
        split at hs
        · rename_i a as' hp
          split at hs
          · rename_i hk
            simp only [Option.some.injEq, Sum.inr.injEq, Sum.inl.injEq, Prod.mk.injEq] at hs
            obtain ⟨rfl, rfl, hq⟩ := hs
            have e1 : as = (jl_pop (T.2.2.2.2.2.2 m1).1 st).1 := by rw [hq]
            have e2 : rest = (jl_pop (T.2.2.2.2.2.2 m1).1 st).2 := by rw [hq]
            exact ⟨rfl, hT, e1, e2, hc.1, by rw [e2]; exact hc.2.1, hc.2.2, Or.inr ⟨h2, a, as', by rw [e1]; exact hp, hk.1, hk.2⟩⟩
          · cases hs
        · cases hs
    · cases hs
  · cases hs
theorem jm_hh_nil {m : Nat} (h : m < 320) (M : JMeth) (hM : jt_Ms m = some M) (hne : ¬ M.1 = 12) : jm_hh m = [] := by
  have h1 := List.all_eq_true.mp jm_hok_all m (List.mem_range.mpr h)
  have hM' : jt_Ml[m]? = some M := hM
  unfold jm_hok at h1
  rw [hM'] at h1
  split at h1
  · assumption
  · simp only [Option.elim_some, Bool.and_eq_true, decide_eq_true_eq] at h1
    exact absurd h1.1 hne
  · simp only [Option.elim_some, Bool.and_eq_true, decide_eq_true_eq] at h1
    exact absurd h1.1 hne
  · simp only [Option.elim_some, Bool.and_eq_true, decide_eq_true_eq] at h1
    exact absurd h1.1 hne
  · cases h1
theorem jw_ar2 {a x y : Nat} (h1 : a ≤ x) (h2 : x ≤ y) : x - a + (y - x) = y - a := by omega
theorem jw_ar3 {x y : Nat} (h1 : x = y) (h2 : y ≤ 8) : 2 * 0 + x ≤ 8 := by omega
section JSM
variable {w : JW} {p : Program} {l : Launch} {e : Env} {R : Room} {s : State} {m : MethodId} {args : Array Value} {below : List Frame} {meth : Method} {c : Code} {nL n0 s0 own rt d : Nat} {ini : Bool} {Q : State → Prop} {cc : ByteArray} {pc pc' len : Nat} {ls st ls' st' : List Value} {h h' : LH} {i : Instr}
set_option maxHeartbeats 4000000 in
theorem jw_call (C : jw_Cx w p R s m args meth c cc nL own ini) (hEE : jw_EE w s s.heap) (hfr : d + 8 + 1 ≤ R.frames) (hlo : 60 * d + 300 + 60 ≤ R.locals) {mi how idx : Nat} {as rest : List Value} {o1 : JOut}
    (hi : (how = 1 ∧ i = .invokespecial idx) ∨ (how = 2 ∧ i = .invokestatic idx) ∨ (how = 3 ∧ i = .invokevirtual idx)) (hd : decode cc pc = .ok (i, 3))
    {Mo : JMeth} (ho : Mo.1 = own) (hchk : jm_inv Mo (pc, i, 3) = true)
    (hs : jl_inv jt_T own idx ls st h (pc + 3) how = some (.inr (.inr (.inl (how, mi, as, rest))))) (hM : jw_Met l w d mi as h o1) (h320 : mi < 320)
    (hn0 : n0 ≤ h.1.length) (hs0 : s0 ≤ jl_sl h) (hle : jl_le h o1.2) (hcap : o1.2.1.length - n0 ≤ R.cells ∧ jl_sl o1.2 - s0 ≤ R.slots)
    (kr : ∀ v : Option Value, o1.1 = .inl v → jw_J w p l e R s m args below meth c nL n0 s0 Q (pc + 3) ls (v.toList ++ rest) o1.2)
    (kx : ∀ k : Nat, o1.1 = .inr k → how ≠ 1 ∧ ∀ (H : Heap) (locs : List Loc) (lsA : Array Slot) (q : Addr) (ce : Cell), jw_Rep w o1.2 H → jw_LR w lsA nL ls → va_S (fun q => w.1 ≤ q) s.heap H locs → H[q]? = some ce → ce.vm = .none → s.vm.findClass (jw_En k) = some ce.cls → vx_W p l e R s m args below meth c H locs (o1.2.1.length - n0) (jl_sl o1.2 - s0) Q (F0 m pc lsA (rest.map (jw_tv w))) q) :
    jw_J w p l e R s m args below meth c nL n0 s0 Q pc ls st h := by
  obtain ⟨hx, hb, hml, hown, hts, hini, -, -, hE, hw⟩ := id C
  obtain ⟨-, hT, eas, erest, hna, hr8, hcat, hcase⟩ := jl_inv_call hs
  obtain ⟨M, hMs, q1, q2, q3, q4, q5, q6, q7, q8, q9, q10, q11, q12, q13⟩ := jm_facts h320
  have hna' : (jt_T.2.2.2.2.2.2 mi).1 = jm_na mi := rfl
  have hrk' : (jt_T.2.2.2.2.2.2 mi).2 = jm_rk mi := rfl
  rw [hna'] at eas erest hna
  rw [hrk'] at hcase
  have hst : st = as.reverse ++ rest := by rw [eas, erest]; exact jl_pop_st
  have hlen : as.length = jm_na mi := by rw [eas]; exact jl_pop_len hna
  have hP := jm_Pall mi (List.mem_range.mpr h320)
  have hcr : rest.all (fun v => decide (v.category = 1)) = true := by
    rw [hst, List.all_append, Bool.and_eq_true] at hcat
    exact hcat.2
  intro H locs lsA hR hL hS
  have hcs : h.1.length - n0 + (o1.2.1.length - h.1.length) = o1.2.1.length - n0 := jw_ar2 hn0 hle.1
  have hss : jl_sl h - s0 + (jl_sl o1.2 - jl_sl h) = jl_sl o1.2 - s0 := jw_ar2 hs0 hle.2
  have hsum : 2 * (F0 m pc lsA (st.map (jw_tv w))).monitorRoom + ((rest.map (jw_tv w)).map fun v => v.category).sum ≤ 8 := by
    have h1 : ((rest.map (jw_tv w)).map fun v => v.category).sum = rest.length := by rw [List.map_map]; exact jw_cat_sum hw hcr
    exact jw_ar3 h1 hr8
  have KR : ∀ (v : Option Value) (st₀ t : State) (L : List Loc), st₀.heap = H → s.WarmedH t.vm → jw_Qc w o1 (as.map (jw_tv w)).toArray st₀ (.returned v) t → (∀ q ∈ L, w.1 ≤ q.base) → W p l e R s m args below meth c t.heap (locs ++ L) (h.1.length - n0 + (o1.2.1.length - h.1.length)) (jl_sl h - s0 + (jl_sl o1.2 - jl_sl h)) Q (F0 m (pc + 3) lsA (v.toList ++ rest.map (jw_tv w))) := by
    rintro v st₀ t L h0 hW ⟨v', z1, z2, z3, z4⟩ hLL
    have k := kr v' z1 t.heap (locs ++ L) lsA z3 hL (hS.call h0 z4 hLL)
    cases z2
    rw [hcs, hss]
    cases v' <;> exact k
  have KX : ∀ (q : Addr) (st₀ t : State) (L : List Loc) (E : String) (ce : Cell), st₀.heap = H → s.WarmedH t.vm → jw_XC w o1 E st₀ t → (∀ q ∈ L, w.1 ≤ q.base) → t.heap[q]? = some ce → ce.vm = .none → s.vm.findClass E = some ce.cls → vx_W p l e R s m args below meth c t.heap (locs ++ L) (h.1.length - n0 + (o1.2.1.length - h.1.length)) (jl_sl h - s0 + (jl_sl o1.2 - jl_sl h)) Q (F0 m pc lsA (rest.map (jw_tv w))) q := by
    rintro q st₀ t L E ce h0 hW ⟨k, z1, rfl, z3, z4⟩ hLL hce hcv hcl
    rw [hcs, hss]
    exact (kx k z1).2 t.heap (locs ++ L) lsA q ce z3 hL (hS.call h0 z4 hLL) hce hcv hcl
  have hfit : h.1.length - n0 + (o1.2.1.length - h.1.length) ≤ R.cells ∧ jl_sl h - s0 + (jl_sl o1.2 - jl_sl h) ≤ R.slots := by rw [hcs, hss]; exact hcap
  have hFix : CallFix p m c cc nL s args jb (jn_R own) := ⟨hx, hb, hml, hown, hts⟩
  have hlinks := (jt_Mt_320 hT (by omega)).2
  rcases hi with ⟨rfl, rfl⟩ | ⟨rfl, rfl⟩ | ⟨rfl, rfl⟩
  · -- a constructor
    rcases hcase with ⟨z, -⟩ | ⟨-, a, as', ea, hka, hrk9⟩
    · exact absurd z (by decide)
    have hnx : ∃ v, o1.1 = .inl v := by
      cases ho1 : o1.1 with
      | inl v => exact ⟨v, rfl⟩
      | inr k => exact absurd rfl (kx k ho1).1
    obtain ⟨v, hv⟩ := hnx
    have eo : o1 = (.inl v, o1.2) := by rw [← hv]
    rw [eo] at hM
    have hMt := hM.ret
    have hrk : (jm_rk mi = M.1 ∧ M.1 < 12) ∨ (jm_rk mi = 31 ∧ M.1 = 13) := q7.resolve_left (Nat.ne_of_lt hrk9)
    have hh : jm_hh mi = [] := jm_hh_nil h320 M hMs (by rcases hrk with ⟨-, z⟩ | ⟨-, z⟩ <;> omega)
    have hini1 : M.2.1 = true := by
      unfold jm_inv at hchk
      dsimp only at hchk
      rw [ho] at hchk
      have h1 : ((jt_Mt.getD own []).lookup idx).map (fun q => q.1) = some mi := hT
      cases hl : (jt_Mt.getD own []).lookup idx with
      | none => rw [hl] at h1; cases h1
      | some z =>
        rw [hl] at h1 hchk
        obtain ⟨z1, z2⟩ := z
        have h1' : mi = z1 := (Option.some.inj h1).symm
        subst h1'
        have hMl : jt_Ml[mi]? = some M := hMs
        simp only [Option.elim_some, Bool.or_eq_true, decide_eq_true_eq] at hchk
        rcases hchk with z | z
        · exact absurd h320 (by omega)
        · rw [hMl] at z
          exact z
    have hname : (jm_yy mi).name = "<init>" := q2.mp hini1
    have hret : jm_rr mi = none := by
      have hMl : jt_Ml[mi]? = some M := hMs
      have h1 := List.all_eq_true.mp jm_ctor mi (List.mem_range.mpr h320)
      rw [hMl] at h1
      simp only [Option.elim_some, hini1, Bool.not_true, Bool.false_or, decide_eq_true_eq] at h1
      rw [q8, if_pos h1]
    have hno : (Cond.instanceMethod (jm_yy mi)).before args s = true := by
      have := hP.2.1
      rw [if_neg (show ¬ (jt_A.getD mi (0, 999)).2 = 999 from Nat.ne_of_lt hrk9)] at this
      exact hts _ this.1
    have hstk : (F0 m pc lsA (st.map (jw_tv w))).stack = (as'.map (jw_tv w)).reverse ++ .ref (jw_ad w a) :: rest.map (jw_tv w) := by
      show st.map (jw_tv w) = _
      rw [hst, ea, List.map_append, List.reverse_cons, List.map_append, List.append_assoc, List.map_reverse]
      rfl
    have hn1 : (as'.map (jw_tv w)).length = jm_na mi - (if jm_rk mi = 999 then 0 else 1) := by
      rw [if_neg (Nat.ne_of_lt hrk9), List.length_map, ← hlen, ea, List.length_cons]
      rfl
    have hPre : PreS s H (jw_Pc w as h) (.ref (jw_ad w a) :: as'.map (jw_tv w)) := by
      refine ⟨jw_Pc_blind w as h, ?_⟩
      have := jw_pre (as := as) hEE hR hS
      rw [ea] at this ⊢
      exact this
    have hKR' : ∀ (v : Option Value) (st₀ t : State) (L : List Loc), st₀.heap = H → s.WarmedH t.vm → jw_Qc w (.inl _, o1.2) (Value.ref (jw_ad w a) :: as'.map (jw_tv w)).toArray st₀ (.returned v) t → (∀ q ∈ L, w.1 ≤ q.base) → W p l e R s m args below meth c t.heap (locs ++ L) (h.1.length - n0 + (o1.2.1.length - h.1.length)) (jl_sl h - s0 + (jl_sl o1.2 - jl_sl h)) Q (F0 m (pc + 3) lsA (v.toList ++ rest.map (jw_tv w))) := fun v' st₀ t L h0 hW hq hLL => KR v' st₀ t L h0 hW (by rw [eo]; exact hq) hLL
    rcases hlinks with hlk | hlk
    · have hnw : va_Nw (.methodLinkNest (jn_R own) idx (jm_yy mi) "SmokeGates") s := hE.2.1 _ hlk rfl
      have cw := va_cnB (R := R) (rm := jw_rm d (o1.2.1.length - h.1.length) (jl_sl o1.2 - jl_sl h)) (mc := o1.2.1.length - h.1.length) (ms := jl_sl o1.2 - jl_sl h) (bytes := jm_bb mi) (maxL := jm_ml mi) (ret := none) (jm_na mi - (if jm_rk mi = 999 then 0 else 1)) hts (jw_ws_good h320) (ws' := jb) (by unfold jw_ws jm_w; rw [if_pos hh, hret]) rfl rfl hnw (hts _ hP.2.2) ⟨q10, q11, q5⟩ ⟨hfr, jw_arith (by rw [q4]; exact q3) hlo⟩
      exact jw_afterR (va_runIN hFix hMt ⟨cw, hname, hno⟩ hPre rfl hn1 hL.1 hstk hsum hd hfit) hKR'
    · have cb := jw_callB (n := jm_na mi - (if jm_rk mi = 999 then 0 else 1)) (mc := o1.2.1.length - h.1.length) (ms := jl_sl o1.2 - jl_sl h) hts h320 hh hfr hlo (hts _ hlk) rfl
      rw [hret] at cb
      exact jw_afterR (va_runI hFix hMt ⟨cb, hname, hno⟩ hPre rfl hn1 hL.1 hstk hsum hd hfit) hKR'
  · -- a static method
    have hrk9 : jm_rk mi = 999 := by
      rcases hcase with ⟨-, z⟩ | ⟨z, -⟩
      · exact z
      · exact absurd rfl z
    have hlk : Cond.methodLink (jn_R own) idx (jm_yy mi) ∈ jb := by
      unfold jm_inv at hchk
      dsimp only at hchk
      rw [ho] at hchk
      have h1 : ((jt_Mt.getD own []).lookup idx).map (fun q => q.1) = some mi := hT
      cases hl : (jt_Mt.getD own []).lookup idx with
      | none => rw [hl] at h1; cases h1
      | some z =>
        rw [hl] at h1 hchk
        obtain ⟨z1, z2, z3⟩ := z
        have h1' : mi = z1 := (Option.some.inj h1).symm
        subst h1'
        simp only [Option.elim_some, decide_eq_true_eq] at hchk
        have h3 := jb_Mt own _ (jb_lookup hl)
        unfold jw_Mp at h3
        rw [if_neg (show ¬ z3 = 1 by have := hchk; omega)] at h3
        have hy : jb_yx mi = jm_yy mi := if_pos (Nat.lt_trans h320 (by decide))
        rw [← hy]
        exact h3
    have hst2 : Cond.static (jm_yy mi) ∈ jb := by
      have := hP.2.1
      rw [if_pos (show (jt_A.getD mi (0, 999)).2 = 999 from hrk9)] at this
      exact this
    have hstk : (F0 m pc lsA (st.map (jw_tv w))).stack = (as.map (jw_tv w)).reverse ++ rest.map (jw_tv w) := by
      show st.map (jw_tv w) = _
      rw [hst, List.map_append, List.map_reverse]
    have hn1 : (as.map (jw_tv w)).length = jm_na mi - (if jm_rk mi = 999 then 0 else 1) := by
      rw [if_pos hrk9, List.length_map, ← hlen]
      rfl
    have hPre : PreS s H (jw_Pc w as h) (as.map (jw_tv w)) := ⟨jw_Pc_blind w as h, jw_pre (as := as) hEE hR hS⟩
    by_cases hh : jm_hh mi = []
    · have cb := jw_callB (n := jm_na mi - (if jm_rk mi = 999 then 0 else 1)) (mc := o1.2.1.length - h.1.length) (ms := jl_sl o1.2 - jl_sl h) hts h320 hh hfr hlo (hts _ hlk) rfl
      have hrun := vx_runS hFix hM ⟨cb, hts _ hst2⟩ hPre (g := F0 m pc lsA (st.map (jw_tv w))) (locs := locs) (cells := h.1.length - n0) (slots := jl_sl h - s0) (below := below) (meth := meth) (e := e) rfl hn1 hL.1 hstk hsum hd hfit
      exact jw_after hrun KR KX
    · have ew : jm_w mi = Cond.codeWith (jm_yy mi) (jm_bb mi) (jm_ml mi) (jm_rr mi) (jm_hh mi) := if_neg hh
      have cw : vx_CSW R s args (jn_R own) idx (jm_yy mi) (jm_bb mi) (jm_ml mi) (jm_rr mi) (jm_hh mi) (jw_ws mi) (jw_rm d (o1.2.1.length - h.1.length) (jl_sl o1.2 - jl_sl h)) (o1.2.1.length - h.1.length) (jl_sl o1.2 - jl_sl h) (jm_na mi - (if jm_rk mi = 999 then 0 else 1)) := by
        refine ⟨⟨rfl, rfl, hfr, jw_arith (by rw [q4]; exact q3) hlo, pay_in hts (jw_ws_good h320), ?_⟩, ?_, hts _ hP.2.2, ⟨q10, q11⟩, fun sig hsg => ?_, hts _ hlk, hts _ hst2⟩
        · rw [← ew]; exact List.mem_cons_self
        · rw [← ew]; exact hts _ (jm_w_mem h320)
        · have h2 := q5
          rw [hsg] at h2
          exact (Option.some.inj h2).symm
      have hrun := vx_runSX hFix hM cw hPre (g := F0 m pc lsA (st.map (jw_tv w))) (locs := locs) (cells := h.1.length - n0) (slots := jl_sl h - s0) (below := below) (meth := meth) (e := e) rfl hn1 hL.1 hstk hsum hd hfit
      exact jw_after hrun KR KX
  · -- a method of an object
    rcases hcase with ⟨z, -⟩ | ⟨-, a, as', ea, hka, hrk9⟩
    · exact absurd z (by decide)
    have hrk : (jm_rk mi = M.1 ∧ M.1 < 12) ∨ (jm_rk mi = 31 ∧ M.1 = 13) := q7.resolve_left (Nat.ne_of_lt hrk9)
    have hh : jm_hh mi = [] := jm_hh_nil h320 M hMs (by rcases hrk with ⟨-, z⟩ | ⟨-, z⟩ <;> omega)
    have hchk2 : Cond.methodLink (jn_R own) idx (jm_yy mi) ∈ jb ∧ M.2.1 = false := by
      unfold jm_inv at hchk
      dsimp only at hchk
      rw [ho] at hchk
      have h1 : ((jt_Mt.getD own []).lookup idx).map (fun q => q.1) = some mi := hT
      cases hl : (jt_Mt.getD own []).lookup idx with
      | none => rw [hl] at h1; cases h1
      | some z =>
        rw [hl] at h1 hchk
        obtain ⟨z1, z2, z3⟩ := z
        have h1' : mi = z1 := (Option.some.inj h1).symm
        subst h1'
        have hMl : jt_Ml[mi]? = some M := hMs
        simp only [Option.elim_some, Bool.and_eq_true, decide_eq_true_eq] at hchk
        have h3 := jb_Mt own _ (jb_lookup hl)
        unfold jw_Mp at h3
        rw [if_neg (show ¬ z3 = 1 by have := hchk.1; omega)] at h3
        refine ⟨?_, ?_⟩
        · have hy : jb_yx mi = jm_yy mi := if_pos (Nat.lt_trans h320 (by decide))
          rw [← hy]
          exact h3
        · have := hchk.2
          rw [hMl] at this
          simpa using this
    have hP2 := hP.2.1
    rw [if_neg (show ¬ (jt_A.getD mi (0, 999)).2 = 999 from Nat.ne_of_lt hrk9)] at hP2
    have hsel : Cond.selects (jm_yy mi).cls (jm_yy mi) (jm_yy mi) ∈ jb := by
      rcases hP2.2 with z | z
      · have := q2.mpr z
        rw [hchk2.2] at this
        cases this
      · exact z
    rw [q1] at hsel
    have hstk : (F0 m pc lsA (st.map (jw_tv w))).stack = (as'.map (jw_tv w)).reverse ++ .ref (jw_ad w a) :: rest.map (jw_tv w) := by
      show st.map (jw_tv w) = _
      rw [hst, ea, List.map_append, List.reverse_cons, List.map_append, List.append_assoc, List.map_reverse]
      rfl
    have hn1 : (as'.map (jw_tv w)).length = jm_na mi - (if jm_rk mi = 999 then 0 else 1) := by
      rw [if_neg (Nat.ne_of_lt hrk9), List.length_map, ← hlen, ea, List.length_cons]
      rfl
    have cb := jw_callB (n := jm_na mi - (if jm_rk mi = 999 then 0 else 1)) (mc := o1.2.1.length - h.1.length) (ms := jl_sl o1.2 - jl_sl h) hts h320 hh hfr hlo (hts _ hchk2.1) rfl
    have hPre : PreV s H (jn_R M.1) (jw_ad w a) (jw_Pc w as h) (as'.map (jw_tv w)) := by
      refine ⟨jw_Pc_blind w as h, jw_recv hE hR hS hka hrk, ?_⟩
      have := jw_pre (as := as) hEE hR hS
      rw [ea] at this ⊢
      exact this
    have hrun := vx_runV (C := jn_R M.1) hFix hM ⟨cb, hts _ hP2.1, hts _ hsel⟩ hPre (g := F0 m pc lsA (st.map (jw_tv w))) (locs := locs) (cells := h.1.length - n0) (slots := jl_sl h - s0) (below := below) (meth := meth) (e := e) rfl hn1 hL.1 hstk hsum hd hfit
    rw [ea] at KR
    exact jw_after hrun KR KX
end JSM

/-! THE LIGHT MACHINE IS SOUND, 15: a throw; a catch -/
section JSP
variable {w : JW} {p : Program} {l : Launch} {e : Env} {R : Room} {s : State} {m : MethodId} {args : Array Value} {below : List Frame} {meth : Method} {c : Code} {nL n0 s0 d pc len : Nat} {cc : ByteArray} {i : Instr} {ls st : List Value} {h : LH} {Q : State → Prop}
theorem jw_ht_new {T : JTab} {own rt : Nat} {ini : Bool} {k : Nat} (hs : jl_step T own ini rt i len pc ls st h = some (.inr (.inr (.inr k)))) : ∃ idx ci, i = .new idx ∧ T.2.2.1 own idx = some ci ∧ 100 ≤ ci ∧ st = [] ∧ k = ci - 100 := by
  cases i <;> simp only [jl_step, jl_loadI, jl_loadA, jl_storeI, jl_storeA, jl_bin, jl_div, jl_un, jl_get, jl_put, jl_ald, jl_aald, jl_lald, jl_iast, jl_bast, jl_last, jl_aast, jl_alen, jl_newa, jl_anew, jl_mnew, jl_mk, jl_inv, jl_ldc, jl_ldcw, jl_gets, jl_ret, jl_next] at hs
  case new idx =>
    split at hs
    · rename_i ci hT
      split at hs
      · cases hs
      · split at hs
        · rename_i hc
          simp only [Option.some.injEq, Sum.inr.injEq] at hs
          exact ⟨idx, ci, rfl, hT, hc.1, hc.2, hs.symm⟩
        · cases hs
    · cases hs
  all_goals exfalso
  all_goals first
    | (cases hs; done)
    | exact jl_go_inr hs
    | ((repeat' split at hs) <;> first | (cases hs; done) | exact jl_go_inr hs | exact jl_br_inr hs | exact jl_el_inr hs)
theorem jw_k386 : jt_T.2.2.2.1 10 386 = some (.inr 16) ∧ jt_T.2.2.2.1 10 393 = some (.inr 0) := ⟨rfl, rfl⟩
theorem jb_ini0 : Cond.initialized "java/util/NoSuchElementException" ∈ jb ∧ Cond.initialized "java/lang/IllegalArgumentException" ∈ jb := by
  have h1 := List.all_eq_true.mp jb_ini2 "java/util/NoSuchElementException" (by decide)
  have h2 := List.all_eq_true.mp jb_ini2 "java/lang/IllegalArgumentException" (by decide)
  exact ⟨List.mem_filter.mpr ⟨of_decide_eq_true h1, rfl⟩, List.mem_filter.mpr ⟨of_decide_eq_true h2, rfl⟩⟩
theorem jw_ar5 {a b n0 : Nat} (h0 : n0 ≤ a) (h : a + 1 - n0 ≤ b) : a - n0 + 1 ≤ b := by omega
theorem jw_ar6 {a b n0 : Nat} (h0 : n0 ≤ a) (h : a + 6 - n0 ≤ b) : a - n0 + 6 ≤ b := by omega
theorem jl_junk_len {n : Nat} : (jl_junk h n).1.length = h.1.length + 1 := by simp [jl_junk]
theorem jl_junk_sl {n : Nat} : jl_sl (jl_junk h n) = jl_sl h + n := by simp [jl_sl, jl_junk]
set_option maxHeartbeats 4000000 in
theorem jw_ht {M : JMeth} {o : JOut} {k : Nat} (C : jw_Cx w p R s m args meth c cc nL M.1 M.2.1) (hEE : jw_EE w s s.heap) (hl : l.stackTraces = false) (hlocks : meth.locks = false) (hout : ∀ x ∈ c.exceptionTable.toList, False) (hdec : ∀ q ∈ M.2.2.2.1, decode cc q.1 = .ok (q.2.1, q.2.2)) (hthr : M.2.2.2.1.all (jm_thr M) = true)
    (hmem : (pc, i, len) ∈ M.2.2.2.1) (hlok : jl_lok i len = true) (hs : jl_step jt_T M.1 M.2.1 M.2.2.1 i len pc ls st h = some (.inr (.inr (.inr k)))) (ho : o = (.inr k, jl_junk h 6)) (hn0 : n0 ≤ h.1.length) (hs0 : s0 ≤ jl_sl h) (hcap : o.2.1.length - n0 ≤ R.cells ∧ jl_sl o.2 - s0 ≤ R.slots) :
    jw_J w p l e R s m args below meth c nL n0 s0 (vx_MQ below (jw_Qc w o) (jw_XC w o) args s (o.2.1.length - n0) (jl_sl o.2 - s0) (fun q => w.1 ≤ q)) pc ls st h := by
  obtain ⟨hx, hb, hml, hown, hts, hini, hfr, hlo, hE, hw⟩ := id C
  subst ho
  rw [jl_junk_len, jl_junk_sl] at hcap
  obtain ⟨idx, ci, rfl, hT, h100, rfl, rfl⟩ := jw_ht_new hs
  have hlen : len = 3 := by simpa [jl_lok] using hlok
  subst hlen
  have ht := List.all_eq_true.mp hthr (pc, .new idx, 3) hmem
  unfold jm_thr at ht
  dsimp only at ht
  rw [hT] at ht
  simp only [Bool.or_eq_true, Bool.and_eq_true, decide_eq_true_eq] at ht
  rcases ht with ht | ⟨⟨⟨⟨h10, -⟩, hcase⟩, hdup⟩, hathrow⟩
  · exact absurd ht (by omega)
  have d0 : decode cc pc = .ok (.new idx, 3) := hdec (pc, .new idx, 3) hmem
  have d3 : decode cc (pc + 3) = .ok (.dup, 1) := hdec (pc + 3, .dup, 1) (jb_lookup hdup)
  have d10 : decode cc (pc + 10) = .ok (.athrow, 1) := hdec (pc + 10, .athrow, 1) (jb_lookup hathrow)
  rw [h10] at hown
  intro H locs lsA hR hL hS
  have hx9 : ∀ (E : String) (t : State), E = jw_En (ci - 100) → s.vm.Alike t.vm → H.size ≤ t.heap.size → (∀ q : Nat, q < H.size → t.heap[q]? = H[q]?) → jw_XC w (.inr (ci - 100), jl_junk h 6) E s t := by
    intro E t hEn hal h1 h2
    exact ⟨ci - 100, rfl, hEn, hR.junk h2, Nat.le_trans hS.1 h1, fun q q1 q2 => (h2 q (Nat.lt_of_lt_of_le q1 hS.1)).trans (hS.2.1 q q1 q2)⟩
  have hsz : lsA.size = c.maxLocals := by rw [hml]; exact hL.1
  have hrl : (([] : List Value).map fun v => v.category).sum + 82 ≤ R.locals := Nat.le_trans (by decide) hlo
  have hcl := hts _ (jb_Cat hT)
  rcases hcase with ⟨⟨⟨hci, hidx⟩, hld⟩, hin⟩ | ⟨⟨⟨hci, hidx⟩, hld⟩, hin⟩
  · subst hci
    subst hidx
    have d4 := hdec (pc + 4, .ldc_w 386, 3) (jb_lookup hld)
    have d7 := hdec (pc + 7, .invokespecial 388, 3) (jb_lookup hin)
    obtain ⟨tx, hv⟩ := hE.2.2.2.2.2.2.2.2.2.2 10 386 16 jw_k386.1 (by decide)
    obtain ⟨a1, a2⟩ := jw_atw jb_at0 hts hEE.2.1
    rw [h10] at hcl
    refine jx_throw (A := fun q => w.1 ≤ q) hx hb hl hown hcl (hts _ jb_ini0.1) hv a1 (fun q hq => ?_) hEE.2.1.2.2.1 hEE.2.1.2.2.2 hS hsz d0 d3 d4 d7 d10 (fun x hx => (hout x hx).elim) (Nat.lt_of_lt_of_le (by decide) hfr) hrl (jw_ar5 hn0 hcap.1) (jw_ar6 hs0 hcap.2) hlocks (fun t q1 q2 q3 => hx9 jx_N t rfl q1 q2 q3) hS.2.2 ?_ ?_
    · rcases List.mem_cons.mp hq with rfl | hq
      · rfl
      · rcases List.mem_cons.mp hq with rfl | hq
        · rfl
        · exact a2 q hq
    · rw [jl_junk_len]; exact jw_ar5 hn0 (Nat.le_refl _)
    · rw [jl_junk_sl]; exact jw_ar6 hs0 (Nat.le_refl _)
  · subst hci
    subst hidx
    have d4 := hdec (pc + 4, .ldc_w 393, 3) (jb_lookup hld)
    have d7 := hdec (pc + 7, .invokespecial 395, 3) (jb_lookup hin)
    obtain ⟨tx, hv⟩ := hE.2.2.2.2.2.2.2.2.2.2 10 393 0 jw_k386.2 (by decide)
    obtain ⟨a1, a2⟩ := jw_atw jb_at1 hts hEE.2.1
    rw [h10] at hcl
    refine vx_throwSW (A := fun q => w.1 ≤ q) (own := "SmokeGates") (cls := "java/lang/IllegalArgumentException") (names := ["java/lang/RuntimeException", "java/lang/Exception"]) hx hb hl hown (by decide) (by decide) hcl (hts _ jb_ini0.2) hv a1 (fun q hq => ?_) hEE.2.1.2.2.1 hEE.2.1.2.2.2 hS hsz d0 d3 d4 d7 d10 (fun x hx => (hout x hx).elim) (Nat.lt_of_lt_of_le (by decide) hfr) hrl (jw_ar5 hn0 hcap.1) (jw_ar6 hs0 hcap.2) hlocks (fun t q1 q2 q3 => hx9 _ t rfl q1 q2 q3) hS.2.2 ?_ ?_
    · rcases List.mem_cons.mp hq with rfl | hq
      · rfl
      · rcases List.mem_cons.mp hq with rfl | hq
        · rfl
        · exact a2 q hq
    · rw [jl_junk_len]; exact jw_ar5 hn0 (Nat.le_refl _)
    · rw [jl_junk_sl]; exact jw_ar6 hs0 (Nat.le_refl _)
end JSP

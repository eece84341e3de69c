/-! THE LIGHT MACHINE IS SOUND, 14: returns, throws, catches; every method meets its contract -/
section JSO
variable {w : JW} {p : Program} {l : Launch} {e : Env} {R : Room} {s : State} {m : MethodId} {args : Array Value} {below : List Frame} {meth : Method} {c : Code} {nL n0 s0 d own rt pc len : Nat} {ini : Bool} {cc : ByteArray} {i : Instr} {ls st : List Value} {h : LH}
theorem jw_hr {o : JOut} (C : jw_Cx w p R s m args meth c cc nL own ini) (hlocks : meth.locks = false) (hrt : meth.sig.returnType = (if rt = 0 then none else if rt = 1 then some .int else if rt = 2 then some .boolean else if rt = 3 then some .byte else some .char)) {v : Option Value} (hlok : jl_lok i len = true) (hd : decode cc pc = .ok (i, len))
    (hs : jl_step jt_T own ini rt i len pc ls st h = some (.inr (.inl v))) (ho : o = (.inl v, h)) :
    jw_J w p l e R s m args below meth c nL n0 s0 (vx_MQ below (jw_Qc w o) (jw_XC w o) args s (o.2.1.length - n0) (jl_sl o.2 - s0) (fun q => w.1 ≤ q)) pc ls st h := by
  obtain ⟨hx, hb, hml, hown, hts, hini, -, -, hE, hw⟩ := id C
  subst ho
  cases i <;> simp only [jl_step, jl_loadI, jl_loadA, jl_storeI, jl_storeA, jl_bin, jl_div, jl_un, jl_get, jl_put, jl_ald, jl_aald, jl_lald, jl_iast, jl_bast, jl_last, jl_aast, jl_alen, jl_newa, jl_anew, jl_mnew, jl_mk, jl_inv, jl_ldc, jl_ldcw, jl_gets, jl_next] at hs
  case ireturn =>
    simp only [jl_lok, beq_iff_eq] at hlok
    subst hlok
    unfold jl_ret at hs
    split at hs
    · rename_i x
      split at hs
      · rename_i hc
        simp only [Option.some.injEq, Sum.inr.injEq, Sum.inl.injEq] at hs
        subst hs
        intro H locs lsA hR hL hS
        have hq : ∀ t : State, t.heap = H → s.WarmedH t.vm → jw_Qc w (.inl (some (.int x)), h) args s (.returned (some (.int x))) t := fun t ht hW => ⟨some (.int x), rfl, rfl, by rw [ht]; exact hR, hS.F ht⟩
        have key : ∀ ty : FieldType, meth.sig.returnType = some ty → narrow ty (.int x) = .int x → W p l e R s m args below meth c H locs (h.1.length - n0) (jl_sl h - s0) (vx_MQ below (jw_Qc w (.inl (some (.int x)), h)) (jw_XC w (.inl (some (.int x)), h)) args s (h.1.length - n0) (jl_sl h - s0) (fun q => w.1 ≤ q)) (F0 m pc lsA [.int x]) := fun ty hr hn => vx_ret (W.zret hx hb hr hn hq hS.2.2 hd hlocks)
        rcases hc with hc | ⟨hc, h01⟩ | ⟨hc, hb8⟩ | ⟨hc, hc16⟩
        · subst hc
          exact key .int (by rw [hrt]; rfl) rfl
        · subst hc
          refine key .boolean (by rw [hrt]; rfl) ?_
          rcases h01 with rfl | rfl <;> decide
        · subst hc
          refine key .byte (by rw [hrt]; rfl) ?_
          rw [jw_nar_b, vp_nar_byte, hb8]
        · subst hc
          refine key .char (by rw [hrt]; rfl) ?_
          have := pk_nc x
          rw [hc16] at this
          exact this
      · cases hs
    · cases hs
  case return_ =>
    simp only [jl_lok, beq_iff_eq] at hlok
    subst hlok
    split at hs
    · rename_i hc
      simp only [Option.some.injEq, Sum.inr.injEq, Sum.inl.injEq] at hs
      subst hs
      obtain ⟨h0, hst⟩ := hc
      subst hst
      intro H locs lsA hR hL hS
      exact vx_ret (W.vret hx hb (by rw [hrt, if_pos h0]) (fun t ht hW => ⟨none, rfl, rfl, by rw [ht]; exact hR, hS.F ht⟩) hS.2.2 hd hlocks)
    · cases hs
  all_goals exfalso
  all_goals first
    | (cases hs; done)
    | exact jl_go_inr hs
    | ((repeat' split at hs) <;> first | (cases hs; done) | exact jl_go_inr hs | exact jl_br_inr hs | exact jl_el_inr hs)
theorem jw_hx {o : JOut} (hlocks : meth.locks = false) (hout : ∀ x ∈ c.exceptionTable.toList, False) {rest : List Value} {k : Nat} (ho : o = (.inr k, h)) : ∀ (H : Heap) (locs : List Loc) (lsA : Array Slot) (q : Addr) (ce : Cell), jw_Rep w h H → jw_LR w lsA nL ls → va_S (fun q => w.1 ≤ q) s.heap H locs → H[q]? = some ce → ce.vm = .none → s.vm.findClass (jw_En k) = some ce.cls → vx_W p l e R s m args below meth c H locs (h.1.length - n0) (jl_sl h - s0) (vx_MQ below (jw_Qc w o) (jw_XC w o) args s (o.2.1.length - n0) (jl_sl o.2 - s0) (fun q => w.1 ≤ q)) (F0 m pc lsA (rest.map (jw_tv w))) q := by
  subst ho
  intro H locs lsA q ce hR hL hS hce hcv hcl
  exact vx_out (fun x hx => (hout x hx).elim) hlocks hce hcv hcl (fun t ht hal => ⟨k, rfl, rfl, by rw [ht]; exact hR, hS.F ht⟩) hS.2.2 (Nat.le_refl _) (Nat.le_refl _)
theorem jw_Rep.junk {H H1 : Heap} {n : Nat} (hR : jw_Rep w h H) (ho : ∀ q : Nat, q < H.size → H1[q]? = H[q]?) : jw_Rep w (jl_junk h n) H1 := by
  have hkd : ∀ a, a < h.1.length → (jl_junk h n).1[a]? = h.1[a]? := fun a ha => by show (h.1 ++ [(40, n)])[a]? = _; rw [List.getElem?_append_left ha]
  have hlen : (jl_junk h n).1.length = h.1.length + 1 := by simp [jl_junk]
  refine ⟨by rw [hlen]; have := hR.1; omega, fun a h64 hal => ?_, fun hn => ?_, fun a ha => ?_⟩
  · by_cases hl : a < h.1.length
    · have hat := hR.2.1 a h64 hl
      have ek : jl_kd (jl_junk h n) a = jl_kd h a := by unfold jl_kd; rw [hkd a hl]
      have el : jl_ln (jl_junk h n) a = jl_ln h a := by unfold jl_ln; rw [hkd a hl]
      by_cases h40 : jl_kd h a = 40
      · exact Or.inr (Or.inr (by rw [ek]; exact h40))
      · have hq := ho _ (jw_at_lt hat h40)
        have ee : jw_el w (jl_junk h n) a = jw_el w h a := by unfold jw_el; rw [ek, el]; rfl
        have ef : ∀ ci, jw_fv w (jl_junk h n) a ci = jw_fv w h a ci := fun ci => rfl
        unfold jw_at at hat ⊢
        rw [ek, ee, hq, ef]
        rcases hat with ⟨z1, z2⟩ | z | z
        · exact Or.inl ⟨z1, z2.kept hq⟩
        · exact Or.inr (Or.inl z)
        · exact Or.inr (Or.inr z)
    · have ea : a = h.1.length := by rw [hlen] at hal; omega
      subst ea
      refine Or.inr (Or.inr ?_)
      simp [jl_kd, jl_junk]
  · exfalso
    simp [jl_nj, jl_junk] at hn
  · have hl : a < h.1.length := Nat.lt_of_lt_of_le ha hR.1
    rw [hkd a hl]
    exact hR.2.2.2 a ha
/-- the words of a throw -/
theorem jw_atw {L : List Cond} (hL : L.all (fun w => decide (w ∈ lw_tbl) && (goodWord w || jw_dc w)) = true) (hts : ∀ q ∈ jb, q.before args s = true) (hTh : jw_Th w s s.heap) : (∀ q ∈ L, q.before args s = true) ∧ ∀ q ∈ L, vx_ot q = true := by
  have key : ∀ q ∈ L, q ∈ lw_tbl ∧ (goodWord q = true ∨ jw_dc q = true) := fun q hq => by
    have := List.all_eq_true.mp hL q hq
    simp only [Bool.and_eq_true, decide_eq_true_eq, Bool.or_eq_true] at this
    exact this
  have hdc : ∀ q : Cond, jw_dc q = true → q.onTables = true := fun q hq => by cases q <;> simp [jw_dc] at hq <;> rfl
  refine ⟨fun q hq => ?_, fun q hq => ?_⟩
  · obtain ⟨h1, h2 | h2⟩ := key q hq
    · exact hts q (List.mem_filter.mpr ⟨h1, h2⟩)
    · exact va_Nw.use (hdc q h2) (hTh.1 q h1 h2)
  · obtain ⟨h1, h2 | h2⟩ := key q hq
    · unfold vx_ot; rw [h2, Bool.or_true]
    · unfold vx_ot; rw [hdc q h2]; rfl
end JSO

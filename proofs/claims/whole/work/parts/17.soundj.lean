section JSJ
variable {w : JW} {p : Program} {l : Launch} {e : Env} {R : Room} {s : State} {m : MethodId} {args : Array Value} {below : List Frame} {meth : Method} {c : Code} {nL n0 s0 own rt : Nat} {ini : Bool} {Q : State → Prop} {cc : ByteArray} {pc pc' len : Nat} {ls st ls' st' : List Value} {h h' : LH} {i : Instr}
theorem jb_Str' {own idx k : Nat} (hT : jt_T.1 own idx = some (13, k)) : own = 13 ∧ (k = 0 → Cond.fieldLink "java/lang/String" idx "java/lang/String" "value" "[B" ∈ jb) ∧ (k = 1 → Cond.fieldLink "java/lang/String" idx "java/lang/String" "coder" "B" ∈ jb) := by
  have h1 : ((jt_F.getD own []).lookup idx).map (fun q => (q.1, q.2.1)) = some (13, k) := hT
  cases hl : (jt_F.getD own []).lookup idx with
  | none => rw [hl] at h1; cases h1
  | some q =>
    rw [hl] at h1
    obtain ⟨q1, q2, q3⟩ := q
    have e1 : q1 = 13 ∧ q2 = k := by simpa using h1
    obtain ⟨rfl, rfl⟩ := e1
    have hm := jb_lookup hl
    have ho : own < 17 := by
      rcases Nat.lt_or_ge own 17 with q | q
      · exact q
      · rw [show jt_F.getD own [] = [] from by rw [List.getD_eq_getElem?_getD, List.getElem?_eq_none (by simpa [jt_F] using q)]; rfl] at hm
        cases hm
    have h2 := List.all_eq_true.mp (List.all_eq_true.mp jb_F13 own (List.mem_range.mpr ho)) _ hm
    simp only [decide_eq_true_eq] at h2
    have h3 : own = 13 := h2 trivial
    subst h3
    exact ⟨rfl, jb_Str _ hm⟩
set_option maxHeartbeats 4000000 in
theorem jw_step (C : jw_Cx w p R s m args meth c cc nL own ini) (hn0 : n0 ≤ h.1.length) (hs0 : s0 ≤ jl_sl h) (hcap : h'.1.length - n0 ≤ R.cells ∧ jl_sl h' - s0 ≤ R.slots) (hlok : jl_lok i len = true) (hd : decode cc pc = .ok (i, len))
    (hs : jl_step jt_T own ini rt i len pc ls st h = some (.inl (pc', ls', st', h'))) (kk : jw_J w p l e R s m args below meth c nL n0 s0 Q pc' ls' st' h') : jw_J w p l e R s m args below meth c nL n0 s0 Q pc ls st h := by
  have hle := jl_step_le hs
  have hcap0 : h.1.length - n0 ≤ R.cells ∧ jl_sl h - s0 ≤ R.slots := ⟨by have := hle.1; omega, by have := hle.2; omega⟩
  obtain ⟨hx, hb, hml, hown, hts, hini, hfr, hlo, hE, hw⟩ := id C
  cases i <;> simp only [jl_step] at hs <;> first | (cases hs; done) | (simp only [jl_lok, beq_iff_eq] at hlok; subst hlok) | skip
  case aload k => exact jw_loadA hx hb hd (Or.inl ⟨rfl, rfl⟩) hs kk
  case aload_n k => exact jw_loadA hx hb hd (Or.inr ⟨_, rfl, rfl, rfl⟩) hs kk
  case iload k => exact jw_loadI hx hb hd (Or.inl ⟨rfl, rfl⟩) hs kk
  case iload_n k => exact jw_loadI hx hb hd (Or.inr ⟨_, rfl, rfl, rfl⟩) hs kk
  case astore k => exact jw_storeA hx hb hd (Or.inl ⟨rfl, rfl⟩) hs kk
  case astore_n k => exact jw_storeA hx hb hd (Or.inr ⟨_, rfl, rfl, rfl⟩) hs kk
  case istore k => exact jw_storeI hx hb hd (Or.inl ⟨rfl, rfl⟩) hs kk
  case istore_n k => exact jw_storeI hx hb hd (Or.inr ⟨_, rfl, rfl, rfl⟩) hs kk
  case iconst n =>
    obtain ⟨rfl, rfl, rfl, rfl⟩ := jw_nx hs
    intro H locs lsA hR hL hS
    exact lv_iconst hx hb hd rfl (kk H locs lsA hR hL hS)
  case bipush n =>
    obtain ⟨rfl, rfl, rfl, rfl⟩ := jw_nx hs
    intro H locs lsA hR hL hS
    exact lv_bipush hx hb hd rfl (kk H locs lsA hR hL hS)
  case sipush n =>
    obtain ⟨rfl, rfl, rfl, rfl⟩ := jw_nx hs
    intro H locs lsA hR hL hS
    exact lv_sipush hx hb hd rfl (kk H locs lsA hR hL hS)
  case iadd => exact jw_bin _ (fun H locs cells slots pc ls rest x y hd k => lv_iadd hx hb hd k) hd hs kk
  case isub => exact jw_bin _ (fun H locs cells slots pc ls rest x y hd k => lv_isub hx hb hd k) hd hs kk
  case imul => exact jw_bin _ (fun H locs cells slots pc ls rest x y hd k => lv_imul hx hb hd k) hd hs kk
  case iand => exact jw_bin _ (fun H locs cells slots pc ls rest x y hd k => lv_iand hx hb hd k) hd hs kk
  case ior => exact jw_bin _ (fun H locs cells slots pc ls rest x y hd k => lv_ior hx hb hd k) hd hs kk
  case ixor => exact jw_bin _ (fun H locs cells slots pc ls rest x y hd k => lv_ixor hx hb hd k) hd hs kk
  case ishl => exact jw_bin _ (fun H locs cells slots pc ls rest x y hd k => lv_ishl hx hb hd k) hd hs kk
  case ishr => exact jw_bin _ (fun H locs cells slots pc ls rest x y hd k => lv_ishr hx hb hd k) hd hs kk
  case iushr => exact jw_bin _ (fun H locs cells slots pc ls rest x y hd k => lv_iushr hx hb hd rfl k) hd hs kk
  case idiv => exact jw_div _ (fun H locs cells slots pc ls rest x y hd hy k => lv_idiv hx hb hd hy k) hd hs kk
  case irem => exact jw_div _ (fun H locs cells slots pc ls rest x y hd hy k => lv_irem hx hb hd hy k) hd hs kk
  case ineg => exact jw_un _ (fun H locs cells slots pc ls rest x hd k => lv_ineg hx hb hd k) hd hs kk
  case i2b => exact jw_un _ (fun H locs cells slots pc ls rest x hd k => lv_i2b hx hb hd rfl k) hd hs kk
  case i2c => exact jw_un _ (fun H locs cells slots pc ls rest x hd k => lv_i2c hx hb hd rfl k) hd hs kk
  case i2l =>
    split at hs
    · obtain ⟨rfl, rfl, rfl, rfl⟩ := jw_nx hs
      intro H locs lsA hR hL hS
      exact lv_i2l hx hb hd rfl (kk H locs lsA hR hL hS)
    · cases hs
  case lcmp =>
    split at hs
    · obtain ⟨rfl, rfl, rfl, rfl⟩ := jw_nx hs
      intro H locs lsA hR hL hS
      exact W.lcmp hx hb hd (kk H locs lsA hR hL hS)
    · cases hs
  case lconst n =>
    obtain ⟨rfl, rfl, rfl, rfl⟩ := jw_nx hs
    intro H locs lsA hR hL hS
    exact lv_lconst hx hb hd rfl (kk H locs lsA hR hL hS)
  case iinc k n =>
    split at hs
    · rename_i x hx1
      split at hs
      · rename_i hk
        obtain ⟨rfl, rfl, rfl, rfl⟩ := jw_nx hs
        intro H locs lsA hR hL hS
        have hk' : k < nL := by rw [← hL.2.1]; exact hk
        obtain ⟨q, hq⟩ := List.getElem?_of_mem (jw_lv_mem (w := w) hx1 rfl)
        exact lv_iinc hx hb hd (jw_lv_has hL) hq rfl hk' rfl (fun ls' h' => kk H locs ls' hR (jw_LR_set hL hk' rfl (Or.inr rfl) h') hS)
      · cases hs
    · cases hs
  case dup =>
    split at hs
    · split at hs
      · rename_i v st1 hv
        obtain ⟨rfl, rfl, rfl, rfl⟩ := jw_nx hs
        intro H locs lsA hR hL hS
        exact lv_dup hx hb hd (jw_tv_cat1 hw hv) (kk H locs lsA hR hL hS)
      · cases hs
    · cases hs
  case dup2 =>
    split at hs
    · split at hs
      · rename_i v u st1 hv
        obtain ⟨rfl, rfl, rfl, rfl⟩ := jw_nx hs
        intro H locs lsA hR hL hS
        exact lv_dup2_11 hx hb hd (jw_tv_cat1 hw hv.1) (jw_tv_cat1 hw hv.2) (kk H locs lsA hR hL hS)
      · cases hs
    · cases hs
  case pop =>
    split at hs
    · split at hs
      · rename_i v st1 hv
        obtain ⟨rfl, rfl, rfl, rfl⟩ := jw_nx hs
        intro H locs lsA hR hL hS
        exact lv_pop hx hb hd (jw_tv_cat1 hw hv) (kk H locs lsA hR hL hS)
      · cases hs
    · cases hs
  case goto off =>
    obtain ⟨ht, rfl, rfl, rfl⟩ := jw_go hx hb hs
    intro H locs lsA hR hL hS
    exact lv_goto hx hb hd ht (kk H locs lsA hR hL hS)
  case ifCond cd off =>
    split at hs
    · exact jw_ifc hx hb hd hs kk
    · cases hs
  case if_icmp cd off =>
    split at hs
    · exact jw_icmp hx hb hd hs kk
    · cases hs
  case tableswitch d lo hi offs =>
    split at hs
    · split at hs
      · rename_i x st1 hr
        obtain ⟨ht, rfl, rfl, rfl⟩ := jw_go hx hb hs
        intro H locs lsA hR hL hS
        exact lv_tableOut hx hb hd hr ht (kk H locs lsA hR hL hS)
      · rename_i x st1 hr
        cases ho : offs[(x.toInt - lo).toNat]? with
        | none => rw [ho] at hs; cases hs
        | some off =>
          rw [ho] at hs
          obtain ⟨ht, rfl, rfl, rfl⟩ := jw_go hx hb hs
          intro H locs lsA hR hL hS
          exact lv_tableIn hx hb hd (fun q => hr (Or.inl q)) (fun q => hr (Or.inr q)) ho ht (kk H locs lsA hR hL hS)
    · cases hs
  case lookupswitch d ps =>
    split at hs
    · split at hs
      · rename_i x st1 hr
        obtain ⟨ht, rfl, rfl, rfl⟩ := jw_go hx hb hs
        intro H locs lsA hR hL hS
        exact lv_lookup hx hb hd hr rfl ht (kk H locs lsA hR hL hS)
      · cases hs
    · cases hs
  case getfield idx => exact jw_get hx hb hE hown hts (fun ho k ci hT hc => by subst hc; exact ⟨fun q => hts _ ((jb_Str' hT).2.1 q), fun q => hts _ ((jb_Str' hT).2.2 q)⟩) (fun k hT => (jb_Str' hT).1) hd hs kk
  case putfield idx => exact jw_put hx hb hE hown hts hini hd hs kk
  case iaload => exact jw_ald_i hx hb hE hd hs kk
  case baload => exact jw_ald_b hx hb hE hd hs kk
  case aaload => exact jw_aald hx hb hE hd hs kk
  case laload => exact jw_lald hx hb hE hd hs kk
  case iastore => exact jw_iast hx hb hE hd hs kk
  case bastore => exact jw_bast hx hb hE hd hs kk
  case lastore => exact jw_last hx hb hE hd hs kk
  case aastore => exact jw_aast hx hb hE hd hs kk
  case arraylength => exact jw_alen hx hb hE hd hs kk
  case newarray t => exact jw_newa hx hb hE hts (fun t ht => by cases t <;> simp [jl_akd] at ht <;> first | exact hts _ jb_arr_boolean | exact hts _ jb_arr_byte | exact hts _ jb_arr_int | exact hts _ jb_arr_long) hn0 hs0 hcap hd hs kk
  case anewarray idx => exact jw_anew hx hb hE hown hts hn0 hs0 hcap hd hs kk
  case multianewarray idx d => exact jw_mnew hx hb hE hown hts (hts _ jb_arr_int) hn0 hs0 hcap hd hs kk
  case new idx => exact jw_mk hx hb hE hown hts hn0 hs0 hcap hd hs kk
  case invokespecial idx => exact jw_inv0 C hcap0 (Or.inl ⟨rfl, rfl⟩) hd hs kk
  case invokestatic idx => exact jw_inv0 C hcap0 (Or.inr (Or.inl ⟨rfl, rfl⟩)) hd hs kk
  case invokevirtual idx => exact jw_inv0 C hcap0 (Or.inr (Or.inr ⟨rfl, rfl⟩)) hd hs kk
  case ldc idx => exact jw_ldc C hd hs kk
  case ldc_w idx => exact jw_ldcw C hd hs kk
  case getstatic idx => exact jw_gets C hd hs kk
  case ireturn =>
    unfold jl_ret at hs
    split at hs
    · split at hs <;> cases hs
    · cases hs
  case return_ => split at hs <;> cases hs
end JSJ

/-! THE LIGHT MACHINE IS SOUND, 7: arrays of arrays; arraycopy; Math; constants -/
section JSG
variable {w : JW} {p : Program} {l : Launch} {e : Env} {R : Room} {s : State} {m : MethodId} {args : Array Value} {below : List Frame} {meth : Method} {c : Code} {nL n0 s0 : Nat} {Q : State → Prop} {cc : ByteArray} {pc pc' : Nat} {ls st ls' st' : List Value} {h h' : LH}
theorem jw_outer (c : ClassId) (N h0 : Nat) : ∀ i : Nat, Jvm.Free.Multi.outerC c N h0 i = arrV c N (fun j => va_rf (if j < i then some (h0 + 1 + j) else none))
  | 0 => by
    show ({ cls := c, slots := Array.replicate N .null, vm := .none } : Cell) = _
    rw [arrV_new]
    refine congrArg (arrV c N) (funext fun j => ?_)
    simp [va_rf]
  | i + 1 => by
    show (Jvm.Free.Multi.outerC c N h0 i).setSlot i (.ref (h0 + 1 + i)) = _
    rw [jw_outer c N h0 i, arrV_store]
    refine congrArg (arrV c N) (funext fun j => ?_)
    by_cases e : j = i
    · subst e
      simp [updV, va_rf]
    · by_cases h : j < i
      · simp [updV, e, h, Nat.lt_succ_of_lt h]
      · simp [updV, e, h, show ¬ j < i + 1 by omega]
theorem jl_new2_sl {n k : Nat} : jl_sl (jl_new2 h n k) = jl_sl h + (n + n * k) := by
  simp [jl_sl, jl_new2, List.map_replicate, List.sum_replicate_nat]
theorem jl_new2_len {n k : Nat} : (jl_new2 h n k).1.length = h.1.length + (1 + n) := by simp [jl_new2]; omega
theorem jl_new2_kd0 {n k : Nat} : jl_kd (jl_new2 h n k) h.1.length = 24 ∧ jl_ln (jl_new2 h n k) h.1.length = n := by
  simp [jl_kd, jl_ln, jl_new2]
theorem jl_new2_kdj {n k j : Nat} (hj : j < n) : jl_kd (jl_new2 h n k) (h.1.length + 1 + j) = 20 ∧ jl_ln (jl_new2 h n k) (h.1.length + 1 + j) = k := by
  have : (jl_new2 h n k).1[h.1.length + 1 + j]? = some (20, k) := by
    show (h.1 ++ ((24, n) :: List.replicate n (20, k)))[h.1.length + 1 + j]? = _
    rw [List.getElem?_append_right (by omega), show h.1.length + 1 + j - h.1.length = j + 1 by omega, List.getElem?_cons_succ, List.getElem?_replicate, if_pos hj]
  simp [jl_kd, jl_ln, this]
theorem jw_mnew (hx : p.tables.exec = Jvm.exec) (hb : c.code = cc) (hE : jw_E w s s.heap) {own idx dim : Nat} (hown : s.vm.findClass (jn_R own) = some m.cls) (hts : ∀ q ∈ jb, q.before args s = true) (harr : (Cond.arrayClass .int).before args s = true) (hn0 : n0 ≤ h.1.length) (hs0 : s0 ≤ jl_sl h) (hcap : h'.1.length - n0 ≤ R.cells ∧ jl_sl h' - s0 ≤ R.slots)
    (hd : decode cc pc = .ok (.multianewarray idx dim, 4)) (hs : jl_mnew jt_T own idx dim ls st h (pc + 4) = some (.inl (pc', ls', st', h'))) (kk : jw_J w p l e R s m args below meth c nL n0 s0 Q pc' ls' st' h') : jw_J w p l e R s m args below meth c nL n0 s0 Q pc ls st h := by
  unfold jl_mnew at hs
  split at hs
  · rename_i k n st1
    split at hs
    · rename_i hc
      obtain ⟨hn, hk, hn1, hk1, rfl, hT, hnj⟩ := hc
      obtain ⟨rfl, rfl, rfl, rfl⟩ := jw_nx hs
      rw [jl_new2_sl, jl_new2_len] at hcap
      intro H locs lsA hR hL hS T hTh X
      have hcl : (Cond.classLink (jn_R own) idx ("[" ++ (FieldType.array FieldType.int).toString)).before args s = true := hts _ (jb_Cat hT)
      have hover : (Cond.arrayOver (.array .int)).before args s = true := hE.2.2.2.1
      obtain ⟨vm₁, cA, comp, -, fA, fC, hO, -, X', step⟩ := X.multianewarray2F hx hown hcl hover harr (g := F0 m pc lsA (.int k :: .int n :: st1.map (jw_tv w))) rfl (by rw [hb]; exact hd) rfl hn hk (by omega) (by simp [componentBytes]; omega) (by omega) rfl rfl (by omega) (by omega)
      have eA : cA = w.2.2.2.2.1 24 := Option.some.inj (fA.symm.trans (hE.1.2 4 _ rfl).2)
      have eC : comp = w.2.2.2.2.1 20 := Option.some.inj (fC.symm.trans (hE.1.2 0 _ rfl).2)
      generalize hF : Jvm.Free.Multi.fill (T.setVm vm₁) cA comp n.toNatClampNeg k.toNatClampNeg (defaultValue .int) n.toNatClampNeg = F at X' step
      have hTH : (T.setVm vm₁).heap = H := hTh
      obtain ⟨f1, f2, -, -⟩ := Jvm.Free.Multi.fill_facts (T.setVm vm₁) cA comp n.toNatClampNeg k.toNatClampNeg (defaultValue .int) n.toNatClampNeg
      rw [hF, hTH] at f1 f2
      have hold : ∀ x : Nat, x < H.size → F.heap[x]? = H[x]? := fun x hx => by
        have := Jvm.Free.Multi.fill_old (T.setVm vm₁) cA comp n.toNatClampNeg k.toNatClampNeg (defaultValue .int) (a := x) (by rw [hTH]; exact hx) n.toNatClampNeg
        rw [hF, hTH] at this
        exact this
      have hrow : ∀ j : Nat, j < n.toNatClampNeg → F.heap[H.size + 1 + j]? = some (Jvm.Free.Multi.innerC comp k.toNatClampNeg (defaultValue .int)) := fun j hj => by
        have := Jvm.Free.Multi.fill_inner (T.setVm vm₁) cA comp n.toNatClampNeg k.toNatClampNeg (defaultValue .int) n.toNatClampNeg j hj
        rw [hF, hTH] at this
        exact this
      rw [jw_outer] at f2
      have hRn : jw_Rep w (jl_new2 h n.toNatClampNeg k.toNatClampNeg) F.heap := by
        refine hR.more hnj (more := (24, n.toNatClampNeg) :: List.replicate n.toNatClampNeg (20, k.toNatClampNeg)) rfl (by rw [f1]; simp; omega) hold (fun b hb => ?_) (fun j hj => ?_)
        · have h1 : ¬ h.1.length ≤ b := by omega
          have h2 : ¬ b = h.1.length := by omega
          have h3 : ¬ h.1.length < b := by omega
          exact ⟨funext fun j => by simp [jl_new2, h1], funext fun j => by simp [jl_new2, h2, h3], funext fun j => by simp [jl_new2, h1]⟩
        · refine Or.inr (Or.inl ?_)
          cases j with
          | zero =>
            have ea : jw_ad w (h.1.length + 0) = H.size := jw_ad_new hR hnj 0
            rw [ea, show h.1.length + 0 = h.1.length from rfl, jl_new2_kd0.1]
            refine ⟨by omega, by omega, ?_⟩
            unfold jw_el
            rw [jl_new2_kd0.1, jl_new2_kd0.2, if_neg (by omega), if_neg (by omega), vp_cell_q, f2, eA]
            congr 2
            funext j
            by_cases hj : j < n.toNatClampNeg
            · have e2 : jw_ad w (h.1.length + 1 + j) = H.size + 1 + j := by
                have e3 := jw_ad_new hR hnj (1 + j)
                rw [← Nat.add_assoc, ← Nat.add_assoc] at e3
                exact e3
              simp [jl_new2, hj, va_rf, e2]
            · simp [jl_new2, hj, va_rf]
          | succ j =>
            have hj' : j < n.toNatClampNeg := by simp at hj; exact hj
            have ea : jw_ad w (h.1.length + (j + 1)) = H.size + (j + 1) := jw_ad_new hR hnj (j + 1)
            rw [ea, show h.1.length + (j + 1) = h.1.length + 1 + j by omega, (jl_new2_kdj hj').1]
            refine ⟨by omega, by omega, ?_⟩
            unfold jw_el
            rw [(jl_new2_kdj hj').1, (jl_new2_kdj hj').2, if_pos (by omega), show H.size + (j + 1) = H.size + 1 + j by omega, hrow j hj', eC]
            show some ({ cls := _, slots := Array.replicate k.toNatClampNeg (defaultValue .int), vm := .none } : Cell) = _
            rw [arrV_new, vp_cell_i]
            congr 2
            funext i
            simp [jl_new2, defaultValue]
            omega
      have k9 := kk F.heap locs lsA hRn hL (hS.more (by rw [f1]; omega) hold)
      rw [jl_new2_sl, jl_new2_len] at k9
      have ea : jw_ad w h.1.length = H.size := jw_ad_new hR hnj 0
      rw [List.map_cons, show jw_tv w (.ref h.1.length) = .ref H.size by rw [← ea]; rfl] at k9
      rw [show h.1.length + (1 + n.toNatClampNeg) - n0 = h.1.length - n0 + 1 + n.toNatClampNeg by omega, show jl_sl h + (n.toNatClampNeg + n.toNatClampNeg * k.toNatClampNeg) - s0 = jl_sl h - s0 + n.toNatClampNeg + n.toNatClampNeg * k.toNatClampNeg by omega] at k9
      obtain ⟨t, a1, b1⟩ := k9 F rfl X'
      refine ⟨t, step t ?_, b1⟩
      rw [hTh]
      exact a1
    · cases hs
  · cases hs
theorem jw_copy_at {H : Heap} {a b sp dp n : Nat} {H1 : Heap} (hR : jw_Rep w h H) (hk : jl_kd h b = 20) (h64 : 64 ≤ b) (hz : H1.size = H.size) (oq : ∀ q : Nat, q ≠ jw_ad w b → H1[q]? = H[q]?) (e1 : H1[jw_ad w b]? = some (vp_cell (w.2.2.2.2.1 20) (jl_ln h b, .inl (va_cpy (h.2.1 a) (h.2.1 b) sp dp n)))) : jw_Rep w (jl_copy h a b sp dp n) H1 := by
  refine hR.upd h64 rfl hz oq (Or.inr (Or.inl ⟨(show 20 ≤ jl_kd h b by omega), (show jl_kd h b ≤ 25 by omega), ?_⟩)) (fun z hzb => ⟨funext fun j => by simp [jl_copy, hzb], rfl, rfl⟩)
  have he : jw_el w (jl_copy h a b sp dp n) b = (jl_ln h b, .inl ((jl_copy h a b sp dp n).2.1 b)) := if_pos (show jl_kd h b ≤ 22 by omega)
  show H1[jw_ad w b]? = some (vp_cell (w.2.2.2.2.1 (jl_kd h b)) (jw_el w (jl_copy h a b sp dp n) b))
  rw [he, e1, hk]
  congr 2
  refine congrArg (Prod.mk _) (congrArg Sum.inl ?_)
  show va_cpy (h.2.1 a) (h.2.1 b) sp dp n = (jl_copy h a b sp dp n).2.1 b
  funext j
  simp [jl_copy, va_cpy]
/-- System.arraycopy -/
theorem jw_acopy (hx : p.tables.exec = Jvm.exec) (hb : c.code = cc) (hE : jw_E w s s.heap) (hml : c.maxLocals = nL) {own : String} {idx : Nat} (hown : s.vm.findClass own = some m.cls) (hlink : (Cond.methodLink own idx arraycopyName).before args s = true) (hnat : (Cond.native arraycopyName).before args s = true) (hstat : (Cond.static arraycopyName).before args s = true) (hini : (Cond.initialized "java/lang/System").before args s = true) (hfr : 8 ≤ R.frames) (hlo : 300 ≤ R.locals)
    {a b : Nat} {sp dp n : Int32} (ha : jl_kd h a = 20) (hb20 : jl_kd h b = 20) (h64 : 64 ≤ b) (h1 : ¬ sp < 0) (h2 : ¬ dp < 0) (h3 : ¬ n < 0) (h4 : sp.toNatClampNeg + n.toNatClampNeg ≤ jl_ln h a) (h5 : dp.toNatClampNeg + n.toNatClampNeg ≤ jl_ln h b) (hst : (st.map (fun v => (jw_tv w v).category)).sum ≤ 8)
    (hd : decode cc pc = .ok (.invokestatic idx, 3)) (kk : jw_J w p l e R s m args below meth c nL n0 s0 Q (pc + 3) ls st (jl_copy h a b sp.toNatClampNeg dp.toNatClampNeg n.toNatClampNeg)) : jw_J w p l e R s m args below meth c nL n0 s0 Q pc ls (.int n :: .int dp :: .ref b :: .int sp :: .ref a :: st) h := by
  have nn : ∀ z : Int32, ¬ z < 0 → z.toInt = (z.toNatClampNeg : Int) := by
    intro z hz
    have hz0 : (0 : Int) ≤ z.toInt := by
      have := Int32.not_lt.mp hz
      simpa using Int32.le_iff_toInt_le.mp this
    show z.toInt = ((z.toInt.toNat : Nat) : Int)
    omega
  intro H locs lsA hR hL hS T hT X
  have hc0 := hR.arr hE.2.2.2.2 (a := a) (by omega) (by omega)
  have he0 : jw_el w h a = (jl_ln h a, .inl (h.2.1 a)) := if_pos (by omega)
  rw [he0, ha] at hc0
  have hc1 := hR.arr hE.2.2.2.2 (a := b) (by omega) (by omega)
  have he1 : jw_el w h b = (jl_ln h b, .inl (h.2.1 b)) := if_pos (by omega)
  rw [he1, hb20] at hc1
  obtain ⟨-, k0, hk0, cm0, hkk0⟩ := (hE.1.2 0 _ rfl).1 (jl_ln h a) (fun j => .int (h.2.1 a j))
  obtain ⟨-, k1, hk1, cm1, hkk1⟩ := (hE.1.2 0 _ rfl).1 (jl_ln h b) (fun j => .int (h.2.1 b j))
  obtain ⟨vm', X', step⟩ := X.arraycopy hx hown hlink hnat hstat hini (src := jw_ad w a) (dst := jw_ad w b) (cs := vp_cell (w.2.2.2.2.1 20) (jl_ln h a, .inl (h.2.1 a))) (cd := vp_cell (w.2.2.2.2.1 20) (jl_ln h b, .inl (h.2.1 b))) (srcPos := sp) (destPos := dp) (n := n) (by rw [hT]; exact hc0) (by rw [hT]; exact hc1)
    (fun _ h => by cases h) (fun _ h => by cases h) (fun h => by cases h) (fun h => by cases h) hk0 hk1 hkk0 hkk1 (by simp [refKind]) h1 h2 h3
    (by rw [nn sp h1, nn n h3]; show ¬ _ > ((arrV _ (jl_ln h a) (fun j => .int (h.2.1 a j))).slots.size : Int); rw [arrV_size]; omega)
    (by rw [nn dp h2, nn n h3]; show ¬ _ > ((arrV _ (jl_ln h b) (fun j => .int (h.2.1 b j))).slots.size : Int); rw [arrV_size]; omega)
    (fun vm₁ _ i hi => by
      have e : (vp_cell (w.2.2.2.2.1 20) (jl_ln h a, .inl (h.2.1 a))).slots.getD (sp.toNatClampNeg + i) .null = .int (h.2.1 a (sp.toNatClampNeg + i)) := by
        show (arrV _ (jl_ln h a) (fun j => .int (h.2.1 a j))).slots.getD _ _ = _
        rw [Array.getD_eq_getD_getElem?, arrV_read _ _ (by omega)]
        rfl
      refine ⟨?_, ?_⟩
      · rw [e]
        rfl
      · rw [e]
        exact trivial)
    (g := F0 m pc lsA (.int n :: .int dp :: .ref (jw_ad w b) :: .int sp :: .ref (jw_ad w a) :: st.map (jw_tv w))) rfl (by rw [hml]; exact hL.1) (rest := st.map (jw_tv w)) rfl (by rw [hb]; exact hd) (by omega) (by
      show 2 * 0 + ((st.map (jw_tv w)).map fun v => v.category).sum + _ ≤ _
      rw [List.map_map]
      have hw : nativeFrameWords "java/lang/System" "arraycopy" 5 + 11 ≤ 200 := by decide
      have : (st.map ((fun v => v.category) ∘ jw_tv w)).sum ≤ 8 := hst
      omega)
  have e1 : copied (vp_cell (w.2.2.2.2.1 20) (jl_ln h a, .inl (h.2.1 a))) (vp_cell (w.2.2.2.2.1 20) (jl_ln h b, .inl (h.2.1 b))) sp dp n = vp_cell (w.2.2.2.2.1 20) (jl_ln h b, .inl (va_cpy (h.2.1 a) (h.2.1 b) sp.toNatClampNeg dp.toNatClampNeg n.toNatClampNeg)) := va_copied (fun z => .int z) _ _ (h.2.1 a) (h.2.1 b) h4
  rw [e1] at X' step
  have hl : jw_ad w b < H.size := (Array.getElem?_eq_some_iff.mp hc1).1
  have hheap : ((T.setVm vm').setCell (jw_ad w b) (vp_cell (w.2.2.2.2.1 20) (jl_ln h b, .inl (va_cpy (h.2.1 a) (h.2.1 b) sp.toNatClampNeg dp.toNatClampNeg n.toNatClampNeg)))).heap = H.setIfInBounds (jw_ad w b) (vp_cell (w.2.2.2.2.1 20) (jl_ln h b, .inl (va_cpy (h.2.1 a) (h.2.1 b) sp.toNatClampNeg dp.toNatClampNeg n.toNatClampNeg))) := by rw [← hT]; rfl
  have oq : ∀ q : Nat, q ≠ jw_ad w b → (H.setIfInBounds (jw_ad w b) (vp_cell (w.2.2.2.2.1 20) (jl_ln h b, .inl (va_cpy (h.2.1 a) (h.2.1 b) sp.toNatClampNeg dp.toNatClampNeg n.toNatClampNeg))))[q]? = H[q]? := fun q hq => by simp [Array.getElem?_setIfInBounds, Ne.symm hq]
  obtain ⟨t, a1, b1⟩ := kk _ _ lsA (jw_copy_at hR hb20 h64 (by simp) oq (show (H.setIfInBounds (jw_ad w b) _)[jw_ad w b]? = some _ by simp [Array.getElem?_setIfInBounds, hl])) hL ⟨by simp; exact hS.1, fun q g1 g2 => by
      rw [oq q (fun e => g2 (by rw [e]; exact jw_ge_base h64))]
      exact hS.2.1 q g1 g2, fun q hq => by
      rcases List.mem_append.mp hq with h | h
      · exact hS.2.2 q h
      · obtain ⟨z, -, hz⟩ := List.mem_map.mp h
        rw [← hz]
        exact jw_ge_base h64⟩ _ hheap X'
  exact ⟨t, step t a1, b1⟩
end JSG

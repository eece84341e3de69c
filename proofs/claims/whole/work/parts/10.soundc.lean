/-! THE LIGHT MACHINE IS SOUND, 3: reads of the heap -/
theorem va_P1 {D : va_G} {cl : List vw_C} {x : Nat × va_E} {H : Heap} (h : va_at D cl x H) : va_P D cl [x] H := fun k q hk => by
  cases k with
  | zero => cases hk; exact h
  | succ k => simp at hk
section JSC
variable {w : JW} {p : Program} {l : Launch} {e : Env} {R : Room} {s : State} {m : MethodId} {args : Array Value} {below : List Frame} {meth : Method} {c : Code} {nL n0 s0 : Nat} {Q : State → Prop} {cc : ByteArray} {pc pc' : Nat} {ls st ls' st' : List Value} {h h' : LH}
theorem jw_ald_i (hx : p.tables.exec = Jvm.exec) (hb : c.code = cc) (hE : jw_E w s s.heap) (hd : decode cc pc = .ok (.iaload, 1)) (hs : jl_ald (fun k => k == 20 || k == 30) ls st h (pc + 1) = some (.inl (pc', ls', st', h'))) (kk : jw_J w p l e R s m args below meth c nL n0 s0 Q pc' ls' st' h') : jw_J w p l e R s m args below meth c nL n0 s0 Q pc ls st h := by
  unfold jl_ald at hs
  split at hs
  · rename_i i a st1
    split at hs
    · rename_i hc
      obtain ⟨hk, hi⟩ := hc
      obtain ⟨rfl, rfl, rfl, rfl⟩ := jw_nx hs
      intro H locs lsA hR hL hS
      have k := kk H locs lsA hR hL hS
      simp only [Bool.or_eq_true, beq_iff_eq] at hk
      rcases hk with hk | hk
      · have hc := hR.arr hE.2.2.2.2 (a := a) (by omega) (by omega)
        have he : jw_el w h a = (jl_ln h a, .inl (h.2.1 a)) := if_pos (by omega)
        rw [he, hk] at hc
        exact va_iald hx hb hE.1 (va_P1 (x := (jw_ad w a, .inl (w.2.2.2.2.1 20, jl_ln h a, .inl (h.2.1 a)))) hc) 0 0 rfl rfl (jw_in hi).1 hd k
      · obtain ⟨h64, g1, g2, g3⟩ := hR.ext hk (by omega) (by omega)
        obtain ⟨x1, x2, x3⟩ := hE.2.2.2.2.2.2.2.1 a _ g1
        rw [g2] at k
        show W p l e R s m args below meth c H locs _ _ Q (F0 m pc lsA (.int i :: .ref (jw_ad w a) :: st1.map (jw_tv w)))
        rw [g3]
        exact va_sld (A := fun q => w.1 ≤ q) hx hb x1 x3 (Nat.not_le.mpr x2) hS (jw_in hi).1 hd k
    · cases hs
  · cases hs
theorem jw_ald_b (hx : p.tables.exec = Jvm.exec) (hb : c.code = cc) (hE : jw_E w s s.heap) (hd : decode cc pc = .ok (.baload, 1)) (hs : jl_ald (fun k => k == 21 || k == 22 || k == 32) ls st h (pc + 1) = some (.inl (pc', ls', st', h'))) (kk : jw_J w p l e R s m args below meth c nL n0 s0 Q pc' ls' st' h') : jw_J w p l e R s m args below meth c nL n0 s0 Q pc ls st h := by
  unfold jl_ald at hs
  split at hs
  · rename_i i a st1
    split at hs
    · rename_i hc
      obtain ⟨hk, hi⟩ := hc
      obtain ⟨rfl, rfl, rfl, rfl⟩ := jw_nx hs
      intro H locs lsA hR hL hS
      have k := kk H locs lsA hR hL hS
      simp only [Bool.or_eq_true, beq_iff_eq] at hk
      rcases hk with (hk | hk) | hk
      · have hc := hR.arr hE.2.2.2.2 (a := a) (by omega) (by omega)
        have he : jw_el w h a = (jl_ln h a, .inl (h.2.1 a)) := if_pos (by omega)
        rw [he, hk] at hc
        exact va_bald hx hb hE.1 (va_P1 (x := (jw_ad w a, .inl (w.2.2.2.2.1 21, jl_ln h a, .inl (h.2.1 a)))) hc) 0 1 rfl rfl (jw_in hi).1 hd k
      · have hc := hR.arr hE.2.2.2.2 (a := a) (by omega) (by omega)
        have he : jw_el w h a = (jl_ln h a, .inl (h.2.1 a)) := if_pos (by omega)
        rw [he, hk] at hc
        exact va_zald hx hb hE.1 (va_P1 (x := (jw_ad w a, .inl (w.2.2.2.2.1 22, jl_ln h a, .inl (h.2.1 a)))) hc) 0 2 rfl rfl (jw_in hi).1 hd k
      · obtain ⟨h64, g1, g2, g3⟩ := hR.ext hk (by omega) (by omega)
        obtain ⟨cell, y1, y2, y3, y4, -, y6, y7⟩ := hE.2.2.2.2.2.2.1 a _ g1
        obtain ⟨-, j1, j2⟩ := jw_in hi
        rw [g2] at k
        have hcell : H[w.2.1 a]? = some cell := by rw [hS.2.1 _ (Array.getElem?_eq_some_iff.mp y1).1 y7]; exact y1
        show W p l e R s m args below meth c H locs _ _ Q (F0 m pc lsA (.int i :: .ref (jw_ad w a) :: st1.map (jw_tv w)))
        rw [g3]
        exact W.bald hx hb hcell y2 y3 (fun q => q.elim j1 (fun z => absurd (Nat.lt_of_lt_of_le j2 y4) (Nat.not_lt.mpr z))) (y6 _ j2) rfl rfl hd k
    · cases hs
  · cases hs
theorem jw_aald (hx : p.tables.exec = Jvm.exec) (hb : c.code = cc) (hE : jw_E w s s.heap) (hd : decode cc pc = .ok (.aaload, 1)) (hs : jl_aald ls st h (pc + 1) = some (.inl (pc', ls', st', h'))) (kk : jw_J w p l e R s m args below meth c nL n0 s0 Q pc' ls' st' h') : jw_J w p l e R s m args below meth c nL n0 s0 Q pc ls st h := by
  unfold jl_aald at hs
  split at hs
  · rename_i i a st1
    split at hs
    · rename_i hc
      obtain ⟨hk, hi⟩ := hc
      obtain ⟨rfl, rfl, rfl, rfl⟩ := jw_nx hs
      intro H locs lsA hR hL hS
      have k := kk H locs lsA hR hL hS
      obtain ⟨-, j1, j2⟩ := jw_in hi
      have hc := hR.arr hE.2.2.2.2 (a := a) (by omega) (by omega)
      have he : jw_el w h a = (jl_ln h a, .inr (.inr (.inr (.inr (fun k => (h.2.2.1 a k).map (jw_ad w)))))) := by
        unfold jw_el
        rw [if_neg (by omega), if_neg (by omega)]
      rw [he, vp_cell_q] at hc
      have hv : (arrV (w.2.2.2.2.1 (jl_kd h a)) (jl_ln h a) (fun j => va_rf ((h.2.2.1 a j).map (jw_ad w)))).slots[i.toNatClampNeg]? = some (jw_tv w (jl_rv (h.2.2.1 a i.toNatClampNeg))) := by
        rw [jw_tv_rv]
        simp [arrV, j2]
      have hn : ¬ (i < 0 ∨ (arrV (w.2.2.2.2.1 (jl_kd h a)) (jl_ln h a) (fun j => va_rf ((h.2.2.1 a j).map (jw_ad w)))).slots.size ≤ i.toNatClampNeg) := by
        rw [arrV_size]
        exact (jw_in hi).1
      rcases hk with hk | hk
      · exact W.aald (ty := .array .int) hx hb hc (by rw [hk]; exact (hE.1.2 4 _ rfl).1 _ _) rfl (fun q => by cases q) hn hv rfl rfl hd k
      · exact W.aald (ty := .object "SmokeGates$History") hx hb hc (by rw [hk]; exact (hE.1.2 5 _ rfl).1 _ _) rfl (fun q => by cases q) hn hv rfl rfl hd k
    · cases hs
  · cases hs
theorem jw_lald (hx : p.tables.exec = Jvm.exec) (hb : c.code = cc) (hE : jw_E w s s.heap) (hd : decode cc pc = .ok (.laload, 1)) (hs : jl_lald ls st h (pc + 1) = some (.inl (pc', ls', st', h'))) (kk : jw_J w p l e R s m args below meth c nL n0 s0 Q pc' ls' st' h') : jw_J w p l e R s m args below meth c nL n0 s0 Q pc ls st h := by
  unfold jl_lald at hs
  split at hs
  · rename_i i a st1
    split at hs
    · rename_i hc
      obtain ⟨hk, hi⟩ := hc
      obtain ⟨rfl, rfl, rfl, rfl⟩ := jw_nx hs
      intro H locs lsA hR hL hS
      have k := kk H locs lsA hR hL hS
      have hc := hR.arr hE.2.2.2.2 (a := a) (by omega) (by omega)
      have he : jw_el w h a = (jl_ln h a, .inr (.inl (h.2.2.2 a))) := by
        unfold jw_el
        rw [if_neg (by omega), if_pos hk]
      rw [he, hk] at hc
      exact va_lald hx hb hE.1 (va_P1 (x := (jw_ad w a, .inl (w.2.2.2.2.1 23, jl_ln h a, .inr (.inl (h.2.2.2 a))))) hc) 0 3 rfl rfl (jw_in hi).1 hd k
    · cases hs
  · cases hs
theorem jw_ty_at {kd : Nat} (h1 : 20 ≤ kd) (h2 : kd ≤ 25) (w : JW) : ∃ (i : Nat) (ty : FieldType), (jw_tys w)[i]? = some (w.2.2.2.2.1 kd, ty) := by
  have : kd = 20 ∨ kd = 21 ∨ kd = 22 ∨ kd = 23 ∨ kd = 24 ∨ kd = 25 := by omega
  rcases this with rfl | rfl | rfl | rfl | rfl | rfl
  · exact ⟨0, _, rfl⟩
  · exact ⟨1, _, rfl⟩
  · exact ⟨2, _, rfl⟩
  · exact ⟨3, _, rfl⟩
  · exact ⟨4, _, rfl⟩
  · exact ⟨5, _, rfl⟩
theorem jw_el_1 (w : JW) (h : LH) (a : Nat) : (jw_el w h a).1 = jl_ln h a := by
  unfold jw_el
  split
  · rfl
  · split <;> rfl
theorem jw_alen (hx : p.tables.exec = Jvm.exec) (hb : c.code = cc) (hE : jw_E w s s.heap) (hd : decode cc pc = .ok (.arraylength, 1)) (hs : jl_alen ls st h (pc + 1) = some (.inl (pc', ls', st', h'))) (kk : jw_J w p l e R s m args below meth c nL n0 s0 Q pc' ls' st' h') : jw_J w p l e R s m args below meth c nL n0 s0 Q pc ls st h := by
  unfold jl_alen at hs
  split at hs
  · rename_i a st1
    split at hs
    · rename_i hk
      obtain ⟨rfl, rfl, rfl, rfl⟩ := jw_nx hs
      intro H locs lsA hR hL hS
      have k := kk H locs lsA hR hL hS
      rcases hk with hk | hk | hk
      · have hc := hR.arr hE.2.2.2.2 (a := a) hk.1 hk.2
        obtain ⟨t0, ty, ht⟩ := jw_ty_at hk.1 hk.2 w
        exact va_alen hx hb hE.1 (va_P1 (x := (jw_ad w a, .inl (w.2.2.2.2.1 (jl_kd h a), jw_el w h a))) hc) 0 t0 rfl ht (by rw [jw_el_1]) hd k
      · obtain ⟨h64, g1, g2, g3⟩ := hR.ext hk (by omega) (by omega)
        obtain ⟨x1, x2, x3⟩ := hE.2.2.2.2.2.2.2.1 a _ g1
        show W p l e R s m args below meth c H locs _ _ Q (F0 m pc lsA (.ref (jw_ad w a) :: st1.map (jw_tv w)))
        rw [g3]
        exact va_slen (A := fun q => w.1 ≤ q) hx hb x1 x3 (Nat.not_le.mpr x2) hS hd k
      · obtain ⟨h64, g1, g2, g3⟩ := hR.ext hk (by omega) (by omega)
        obtain ⟨cell, y1, y2, y3, y4, y5, y6, y7⟩ := hE.2.2.2.2.2.2.1 a _ g1
        have hcell : H[w.2.1 a]? = some cell := by rw [hS.2.1 _ (Array.getElem?_eq_some_iff.mp y1).1 y7]; exact y1
        show W p l e R s m args below meth c H locs _ _ Q (F0 m pc lsA (.ref (jw_ad w a) :: st1.map (jw_tv w)))
        rw [g3]
        exact W.alen hx hb hcell y2 y5 rfl rfl hd k
    · cases hs
  · cases hs
theorem jb_Fat {o i ci k : Nat} (h : jt_T.1 o i = some (ci, k)) (hc : ci < 12) : Cond.fieldLink (jn_R o) i (jn_R ci) (jn_T ci k).2.1 (jn_T ci k).2.2.1 ∈ jb := by
  have h1 : ((jt_F.getD o []).lookup i).map (fun q => (q.1, q.2.1)) = some (ci, k) := h
  cases hl : (jt_F.getD o []).lookup i with
  | none => rw [hl] at h1; cases h1
  | some q =>
    rw [hl] at h1
    obtain ⟨q1, q2, q3⟩ := q
    cases h1
    exact jb_F o _ (jb_lookup hl) hc
theorem jn_T_1 (ci k : Nat) (hk : k < jn_N ci) : (jn_T ci k).1 = jn_R ci := by
  unfold jn_T
  have : (jn_flds.getD ci [])[k]? = some (jn_flds.getD ci [])[k] := List.getElem?_eq_getElem hk
  simp only [this]
theorem jw_get (hx : p.tables.exec = Jvm.exec) (hb : c.code = cc) (hE : jw_E w s s.heap) {own idx : Nat} (hown : s.vm.findClass (jn_R own) = some m.cls) (hts : ∀ q ∈ jb, q.before args s = true) (hstr : own = 13 → ∀ k : Nat, ∀ ci : Nat, jt_T.1 13 idx = some (ci, k) → ci = 13 → (k = 0 → (Cond.fieldLink "java/lang/String" idx "java/lang/String" "value" "[B").before args s = true) ∧ (k = 1 → (Cond.fieldLink "java/lang/String" idx "java/lang/String" "coder" "B").before args s = true)) (h13 : ∀ k : Nat, jt_T.1 own idx = some (13, k) → own = 13)
    (hd : decode cc pc = .ok (.getfield idx, 3)) (hs : jl_get jt_T own idx ls st h (pc + 3) = some (.inl (pc', ls', st', h'))) (kk : jw_J w p l e R s m args below meth c nL n0 s0 Q pc' ls' st' h') : jw_J w p l e R s m args below meth c nL n0 s0 Q pc ls st h := by
  unfold jl_get at hs
  split at hs
  · rename_i a st1 ci k hT
    split at hs
    · rename_i hci
      subst hci
      have ho := h13 k hT
      subst ho
      obtain ⟨f1, f2⟩ := hstr rfl k 13 hT rfl
      split at hs
      · rename_i hk
        split at hs
        · rename_i hk0
          obtain ⟨rfl, rfl, rfl, rfl⟩ := jw_nx hs
          intro H locs lsA hR hL hS
          have k9 := kk H locs lsA hR hL hS
          obtain ⟨h64, g1, g2, g3⟩ := hR.ext hk (by omega) (by omega)
          obtain ⟨x1, x2, x3, x4⟩ := hE.2.2.2.2.2.1 a _ g1
          show W p l e R s m args below meth c H locs _ _ Q (F0 m pc lsA (.ref (jw_ad w a) :: st1.map (jw_tv w)))
          rw [g3]
          have ea : jw_ad w (a + 21) = w.2.1 (a + 21) := if_pos x4
          have k9' : W p l e R s m args below meth c H locs (h.1.length - n0) (jl_sl h - s0) Q (F0 m (pc + 3) lsA (.ref (w.2.1 (a + 21)) :: st1.map (jw_tv w))) := by
            rw [← ea]
            exact k9
          exact vk_getf (A := fun q => w.1 ≤ q) hx hb x3 hS hown (f1 hk0) (fun _ h => h) hd k9'
        · split at hs
          · rename_i hk1
            obtain ⟨rfl, rfl, rfl, rfl⟩ := jw_nx hs
            intro H locs lsA hR hL hS
            have k9 := kk H locs lsA hR hL hS
            obtain ⟨h64, g1, g2, g3⟩ := hR.ext hk (by omega) (by omega)
            obtain ⟨x1, x2, x3, x4⟩ := hE.2.2.2.2.2.1 a _ g1
            show W p l e R s m args below meth c H locs _ _ Q (F0 m pc lsA (.ref (jw_ad w a) :: st1.map (jw_tv w)))
            rw [g3]
            exact vk_getf (A := fun q => w.1 ≤ q) hx hb x2 hS hown (f2 hk1) (fun _ h => h) hd k9
          · cases hs
      · cases hs
    · split at hs
      · rename_i hk
        obtain ⟨hk1, hk2, hk3⟩ := hk
        obtain ⟨rfl, rfl, rfl, rfl⟩ := jw_nx hs
        intro H locs lsA hR hL hS
        have k9 := kk H locs lsA hR hL hS
        have hob := hR.obj hE.2.2.2.2 (a := a) (by omega)
        rw [hk1] at hob
        obtain ⟨cell, q1, q2, q3, q4⟩ := hob
        have hk4 : k < jn_N ci := hk3
        obtain ⟨hS9, hfc, kC, hkC, hkind⟩ := hE.1.1 ci _ (jn_cl_at hk2)
        obtain ⟨cf, kf, fi, f, hi, hsl⟩ := hS9 k hk4
        have hlink := hts _ (jb_Fat hT hk2)
        have hi' : s.fieldFound? (jn_R ci) (jn_T ci k).2.1 (jn_T ci k).2.2.1 = some (cf, kf, fi, f) := by
          have e1 := jn_T_1 ci k hk4
          rw [← e1]
          exact hi
        refine W.getf hx hb hown hlink hi' (u_facts hfc hkC (u_lays hts (jb_L ci hk2) hk4) hi).1 q1 (by rw [q3]; exact fun h => by cases h) (v := jw_fv w h a ci k) ?_ rfl rfl hd ?_
        · rw [hsl, q4 k hk4]
        · have ev : jw_tv w (if (jt_ft ci k).1 = 3 then jl_rv (h.2.2.1 a k) else .int (h.2.1 a k)) = jw_fv w h a ci k := by
            unfold jw_fv
            by_cases h3 : (jt_ft ci k).1 = 3
            · rw [if_pos h3, if_pos h3, jw_tv_rv]
            · rw [if_neg h3, if_neg h3]
              rfl
          rw [← ev]
          exact k9
      · cases hs
  · cases hs
end JSC

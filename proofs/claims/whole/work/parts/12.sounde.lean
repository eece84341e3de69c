/-! THE LIGHT MACHINE IS SOUND, 5: fields written, references laid, cells made -/
section JSE
variable {w : JW} {p : Program} {l : Launch} {e : Env} {R : Room} {s : State} {m : MethodId} {args : Array Value} {below : List Frame} {meth : Method} {c : Code} {nL n0 s0 : Nat} {Q : State → Prop} {cc : ByteArray} {pc pc' : Nat} {ls st ls' st' : List Value} {h h' : LH}
/-- a field is written: what the heap is then -/
theorem jw_upd_f {H H1 : Heap} {a ci k : Nat} {cell : Cell} {v : Value} (hR : jw_Rep w h H) (h64 : 64 ≤ a) (hk : jl_kd h a = ci) (hc : ci < 12) (hkN : k < jn_N ci) (hsh : h'.1 = h.1) (hsame : ∀ b, b ≠ a → h'.2.1 b = h.2.1 b ∧ h'.2.2.1 b = h.2.2.1 b ∧ h'.2.2.2 b = h.2.2.2 b)
    (q2 : cell.cls = w.2.2.2.1.1 ci) (q3 : cell.vm = .none) (q4 : ∀ j, j < jn_N ci → cell.slots[w.2.2.2.1.2 ci j]? = some (jw_fv w h a ci j)) (hap : ∀ x y, x < jn_N ci → y < jn_N ci → x ≠ y → w.2.2.2.1.2 ci x ≠ w.2.2.2.1.2 ci y)
    (hv : ∀ j, j < jn_N ci → updV (jw_fv w h a ci) k v j = jw_fv w h' a ci j) (e1 : H1[jw_ad w a]? = some (cell.setSlot (w.2.2.2.1.2 ci k) v)) (z : H1.size = H.size) (oq : ∀ q, q ≠ jw_ad w a → H1[q]? = H[q]?) : jw_Rep w h' H1 := by
  have hk' : jl_kd h' a = ci := by unfold jl_kd; rw [hsh]; exact hk
  refine hR.upd h64 hsh z oq (Or.inl ?_) hsame
  rw [hk']
  refine ⟨hc, _, e1, q2, q3, fun j hj => ?_⟩
  rw [t_set q4 hap hkN v j hj, hv j hj]
theorem jw_fits_ref {ty : FieldType} (h : (∃ C, ty = .object C) ∨ (∃ t, ty = .array t)) (b : Nat) : narrow ty (.ref b) = .ref b ∧ fits ty (.ref b) = true := by
  rcases h with ⟨C, rfl⟩ | ⟨t, rfl⟩ <;> exact ⟨rfl, rfl⟩
theorem jw_put (hx : p.tables.exec = Jvm.exec) (hb : c.code = cc) (hE : jw_E w s s.heap) {own idx : Nat} {ini : Bool} (hown : s.vm.findClass (jn_R own) = some m.cls) (hts : ∀ q ∈ jb, q.before args s = true) (hini : ini = true → meth.name = "<init>")
    (hd : decode cc pc = .ok (.putfield idx, 3)) (hs : jl_put jt_T own ini idx ls st h (pc + 3) = some (.inl (pc', ls', st', h'))) (kk : jw_J w p l e R s m args below meth c nL n0 s0 Q pc' ls' st' h') : jw_J w p l e R s m args below meth c nL n0 s0 Q pc ls st h := by
  have key : ∀ {a ci k : Nat} {v : Value} {st1 : List Value} (hT : jt_T.1 own idx = some (ci, k)) (hk : jl_kd h a = ci) (hc : ci < 12) (h64 : 64 ≤ a) (hkN : k < jn_N ci) (hfin : (jt_ft ci k).2 = false ∨ (ini = true ∧ own = ci)) (hnf : narrow (jn_ty ci k) (jw_tv w v) = jw_tv w v ∧ fits (jn_ty ci k) (jw_tv w v) = true) (hsh : h'.1 = h.1) (hsame : ∀ b, b ≠ a → h'.2.1 b = h.2.1 b ∧ h'.2.2.1 b = h.2.2.1 b ∧ h'.2.2.2 b = h.2.2.2 b)
      (hv : ∀ j, j < jn_N ci → updV (jw_fv w h a ci) k (jw_tv w v) j = jw_fv w h' a ci j) (k9 : jw_J w p l e R s m args below meth c nL n0 s0 Q (pc + 3) ls st1 h'), jw_J w p l e R s m args below meth c nL n0 s0 Q pc ls (v :: .ref a :: st1) h := by
    intro a ci k v st1 hT hk hc h64 hkN hfin hnf hsh hsame hv k9 H locs lsA hR hL hS
    have hob := hR.obj hE.2.2.2.2 (a := a) (by omega)
    rw [hk] at hob
    obtain ⟨cell, q1, q2, q3, q4⟩ := hob
    obtain ⟨hS9, hfc, kC, hkC, hkind⟩ := hE.1.1 ci _ (jn_cl_at hc)
    obtain ⟨cf, kf, fi, f, hi, hsl⟩ := hS9 k hkN
    have hap := va_apart (own := jn_R own) (ty := jn_ty ci) hts (jb_L ci hc) (fun k hk => (jn_ty_ok hc hk).1) (jn_nm hc) hE.1 (jn_cl_at hc)
    have hlink := hts _ (jb_Fat hT hc)
    have hi' : s.fieldFound? (jn_R ci) (jn_T ci k).2.1 (jn_T ci k).2.2.1 = some (cf, kf, fi, f) := by
      have e1 := jn_T_1 ci k hkN
      rw [← e1]
      exact hi
    have hst := (u_facts hfc hkC (u_lays hts (jb_L ci hc) hkN) hi).1
    have hsz : jl_sl h' = jl_sl h := by unfold jl_sl; rw [hsh]
    have fin : ∀ (H1 : Heap), H1[jw_ad w a]? = some (cell.setSlot f.slot (jw_tv w v)) → H1.size = H.size → (∀ q, q ≠ jw_ad w a → H1[q]? = H[q]?) → W p l e R s m args below meth c H1 (locs ++ [⟨jw_ad w a, f.slot⟩]) (h.1.length - n0) (jl_sl h - s0) Q (F0 m (pc + 3) lsA (st1.map (jw_tv w))) := by
      intro H1 e1 z oq
      rw [hsl] at e1 ⊢
      have k := k9 H1 (locs ++ [⟨jw_ad w a, (w.2.2.2.1.2 ci) k⟩]) lsA (jw_upd_f hR h64 hk hc hkN hsh hsame q2 q3 q4 hap hv e1 z oq) hL (hS.put z oq (jw_ge_base h64))
      rw [hsh, hsz] at k
      exact k
    have hlay := hts _ (jb_L ci hc _ (u_in_lay hkN))
    unfold u_lay at hlay
    by_cases hf : (jn_T ci k).2.2.2 = true
    · rw [if_pos hf] at hlay
      have hfin2 : ini = true ∧ own = ci := by
        rcases hfin with q | q
        · rw [jn_fin hc hkN, hf] at q; cases q
        · exact q
      have hcf : m.cls = cf := by
        obtain ⟨_, _, c', _, _, _, -, -, hf', -, -, -, hown2, -⟩ := Cond.laysFinal_spec hlay
        have e1 : c' = cf := by have := hi.symm.trans hf'; simp at this; exact this.1.symm
        rw [jn_T_1 ci k hkN, ← hfin2.2] at hown2
        rw [← e1]; exact Option.some.inj (hown.symm.trans hown2)
      have h6 := u_fits hfc hkC hkind (Or.inr hlay) hi (jn_ty_ok hc hkN).1 hnf.1 hnf.2
      exact W.putFinK hx hb hown hlink hi' hst hcf (hini hfin2.1) (by rw [q2]; exact h6) q1 q3 (by rw [hsl]; exact k2_hasslot (q4 k hkN)) rfl rfl hd fin
    · rw [if_neg hf] at hlay
      have h6 := u_store hfc hkC hkind hlay hi (jn_ty_ok hc hkN).1 hnf.1 hnf.2
      exact W.putK hx hb (f := f) ⟨hown, hlink, ⟨_, _, _, hi'⟩, hst⟩ (by rw [q2]; exact h6) q1 q3 (by rw [hsl]; exact k2_hasslot (q4 k hkN)) rfl rfl hd fin
  unfold jl_put at hs
  split at hs
  · rename_i x a st1 ci k hT
    split at hs
    · rename_i hk
      obtain ⟨z1, z2, z3, z4, z5⟩ := hk
      have z5' : jt_ft ci k = (0, false) := z5
      obtain ⟨rfl, rfl, rfl, rfl⟩ := jw_nx hs
      have hty := (jn_ty_ok z2 z4).2
      rw [z5'] at hty
      simp at hty
      refine key hT z1 z2 z3 z4 (Or.inl (by rw [z5'])) ?_ rfl (fun b e => jl_setI_ne e) ?_ kk
      · rw [hty]; exact ⟨rfl, rfl⟩
      · intro j hj
        by_cases ej : j = k
        · subst ej
          simp [updV, jw_fv, z5', jl_setI, jw_tv]
        · simp [updV, jw_fv, jl_setI, ej]
    · split at hs
      · rename_i hk
        obtain ⟨z1, z2, z3, z4, z5, z6⟩ := hk
        have z5' : jt_ft ci k = (1, false) := z5
        obtain ⟨rfl, rfl, rfl, rfl⟩ := jw_nx hs
        have hty := (jn_ty_ok z2 z4).2
        rw [z5'] at hty
        simp at hty
        refine key hT z1 z2 z3 z4 (Or.inl (by rw [z5'])) ?_ rfl (fun b e => jl_setI_ne e) ?_ kk
        · rw [hty]
          rcases z6 with rfl | rfl
          · exact ⟨(by decide : narrow .boolean (.int 0) = .int 0), (by decide : fits .boolean (.int 0) = true)⟩
          · exact ⟨(by decide : narrow .boolean (.int 1) = .int 1), (by decide : fits .boolean (.int 1) = true)⟩
        · intro j hj
          by_cases ej : j = k
          · subst ej
            simp [updV, jw_fv, z5', jl_setI, jw_tv]
          · simp [updV, jw_fv, jl_setI, ej]
      · cases hs
  · rename_i b a st1 ci k hT
    split at hs
    · rename_i hk
      obtain ⟨z1, z2, z3, z4, z5, z6⟩ := hk
      have z5' : (jt_ft ci k).1 = 3 := z5
      obtain ⟨rfl, rfl, rfl, rfl⟩ := jw_nx hs
      have hty := (jn_ty_ok z2 z4).2
      rw [z5'] at hty
      simp at hty
      refine key hT z1 z2 z3 z4 z6 (jw_fits_ref hty _) rfl (fun b e => jl_setP_ne e) ?_ kk
      intro j hj
      by_cases ej : j = k
      · subst ej
        simp [updV, jw_fv, z5', jl_setP, jw_tv, va_rf]
      · simp [updV, jw_fv, jl_setP, ej]
    · cases hs
  · cases hs
theorem jw_aast (hx : p.tables.exec = Jvm.exec) (hb : c.code = cc) (hE : jw_E w s s.heap) (hd : decode cc pc = .ok (.aastore, 1)) (hs : jl_aast ls st h (pc + 1) = some (.inl (pc', ls', st', h'))) (kk : jw_J w p l e R s m args below meth c nL n0 s0 Q pc' ls' st' h') : jw_J w p l e R s m args below meth c nL n0 s0 Q pc ls st h := by
  unfold jl_aast at hs
  split at hs
  · rename_i v i a st1
    split at hs
    · rename_i hc
      obtain ⟨hk, h64, hi, hv2, hv64⟩ := hc
      obtain ⟨rfl, rfl, rfl, rfl⟩ := jw_nx hs
      intro H locs lsA hR hL hS
      have hc := hR.arr hE.2.2.2.2 (a := a) (by omega) (by omega)
      have he : jw_el w h a = (jl_ln h a, .inr (.inr (.inr (.inr (fun k => (h.2.2.1 a k).map (jw_ad w)))))) := (if_neg (by omega)).trans (if_neg (by omega))
      rw [he, vp_cell_q] at hc
      have hob := hR.obj hE.2.2.2.2 (a := v) (by omega)
      rw [hv2] at hob
      obtain ⟨cv, u1, u2, u3, u4⟩ := hob
      obtain ⟨-, hfc, kC, hkC, hkind⟩ := hE.1.1 2 _ (jn_cl_at (by omega))
      obtain ⟨kA, comp, r1, r2, r3, r4⟩ := (hE.1.2 5 _ rfl).2
      have ecomp : comp = w.2.2.2.1.1 2 := Option.some.inj (r3.symm.trans (show s.vm.findClass "SmokeGates$History" = some (w.2.2.2.1.1 2) from hfc))
      obtain ⟨-, j1, j2⟩ := jw_in hi
      refine W.aast hx hb hc (fun q z => by cases z) (fun z => by cases z) (by rw [hk]; exact r1) r2 rfl (kcomp := kC) (by rw [ecomp]; exact hkC) ⟨j1, by rw [arrV_size]; exact j2⟩ u1 (fun q z => by rw [u3] at z; cases z) (by rw [u2]; exact hkC) (by rw [u2, ecomp]; exact Vm.assignable_self _ _) rfl rfl hd fun H1 e1 z oq => ?_
      rw [arrV_store] at e1
      refine kk H1 _ lsA (hR.upd h64 rfl z oq (Or.inr (Or.inl ⟨(show 20 ≤ jl_kd h a by omega), (show jl_kd h a ≤ 25 by omega), ?_⟩)) (fun b e => jl_setP_ne e)) hL (hS.put z oq (jw_ge_base h64))
      have he2 : jw_el w (jl_setP h a i.toNatClampNeg (some v)) a = (jl_ln h a, .inr (.inr (.inr (.inr (fun k => ((jl_setP h a i.toNatClampNeg (some v)).2.2.1 a k).map (jw_ad w)))))) := (if_neg (show ¬ jl_kd h a ≤ 22 by omega)).trans (if_neg (show ¬ jl_kd h a = 23 by omega))
      show H1[jw_ad w a]? = some (vp_cell (w.2.2.2.2.1 (jl_kd h a)) (jw_el w (jl_setP h a i.toNatClampNeg (some v)) a))
      rw [he2, e1, vp_cell_q]
      congr 2
      funext j
      by_cases ej : j = i.toNatClampNeg <;> simp [updV, jl_setP, ej, va_rf]
    · cases hs
  · cases hs
end JSE

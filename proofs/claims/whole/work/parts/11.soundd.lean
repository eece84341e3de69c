/-! THE LIGHT MACHINE IS SOUND, 4: writes -/
noncomputable def jn_ok (ci k : Nat) : Bool := match parseFieldDescriptor (jn_T ci k).2.2.1 with
  | some .int => decide ((jt_ft ci k).1 = 0)
  | some .boolean => decide ((jt_ft ci k).1 = 1)
  | some (.object _) => decide ((jt_ft ci k).1 = 3)
  | some (.array _) => decide ((jt_ft ci k).1 = 3)
  | _ => false
set_option maxRecDepth 100000 in
theorem jn_ok_all : (List.range 12).all (fun c => (List.range (jn_N c)).all (fun k => jn_ok c k && decide ((jt_ft c k).2 = (jn_T c k).2.2.2))) = true := by decide +kernel
set_option maxRecDepth 100000 in
theorem jn_nm_all : (List.range 12).all (fun c => (List.range (jn_N c)).all (fun a => (List.range (jn_N c)).all (fun b => decide (a = b) || decide ((jn_T c a).2.1 ≠ (jn_T c b).2.1)))) = true := by decide +kernel
theorem jn_nm {c : Nat} (hc : c < 12) : ∀ a, a < jn_N c → ∀ b, b < jn_N c → a ≠ b → (jn_T c a).2.1 ≠ (jn_T c b).2.1 := by
  intro a ha b hb hab
  have h1 := List.all_eq_true.mp jn_nm_all c (List.mem_range.mpr hc)
  have h2 := List.all_eq_true.mp (List.all_eq_true.mp h1 a (List.mem_range.mpr ha)) b (List.mem_range.mpr hb)
  simp only [Bool.or_eq_true, decide_eq_true_eq] at h2
  exact h2.elim (fun q => absurd q hab) id
noncomputable def jn_ty (ci k : Nat) : FieldType := (parseFieldDescriptor (jn_T ci k).2.2.1).getD .int
theorem jn_fin {c k : Nat} (hc : c < 12) (hk : k < jn_N c) : (jt_ft c k).2 = (jn_T c k).2.2.2 := by
  have h1 := List.all_eq_true.mp (List.all_eq_true.mp jn_ok_all c (List.mem_range.mpr hc)) k (List.mem_range.mpr hk)
  simp only [Bool.and_eq_true, decide_eq_true_eq] at h1
  exact h1.2
theorem jn_ty_ok {c k : Nat} (hc : c < 12) (hk : k < jn_N c) : parseFieldDescriptor (jn_T c k).2.2.1 = some (jn_ty c k) ∧ ((jn_ty c k = .int ∧ (jt_ft c k).1 = 0) ∨ (jn_ty c k = .boolean ∧ (jt_ft c k).1 = 1) ∨ ((∃ C, jn_ty c k = .object C) ∧ (jt_ft c k).1 = 3) ∨ ((∃ t, jn_ty c k = .array t) ∧ (jt_ft c k).1 = 3)) := by
  have h1 := List.all_eq_true.mp (List.all_eq_true.mp jn_ok_all c (List.mem_range.mpr hc)) k (List.mem_range.mpr hk)
  simp only [Bool.and_eq_true] at h1
  have h2 := h1.1
  unfold jn_ok at h2
  unfold jn_ty
  cases hp : parseFieldDescriptor (jn_T c k).2.2.1 with
  | none => rw [hp] at h2; cases h2
  | some ty =>
    rw [hp] at h2
    refine ⟨rfl, ?_⟩
    cases ty <;> simp at h2 ⊢ <;> exact h2
theorem jw_ad_ne {w : JW} {a b : Nat} (ha : 64 ≤ a) (hb : 64 ≤ b) (hab : b ≠ a) : jw_ad w b ≠ jw_ad w a := by
  unfold jw_ad
  rw [if_neg (by omega), if_neg (by omega)]
  omega
theorem jw_at_congr {w : JW} {h h' : LH} {b : Nat} {H H' : Heap} (h1 : h'.1 = h.1) (h2 : h'.2.1 b = h.2.1 b) (h3 : h'.2.2.1 b = h.2.2.1 b) (h4 : h'.2.2.2 b = h.2.2.2 b) (hq : H'[jw_ad w b]? = H[jw_ad w b]?) (hat : jw_at w h b H) : jw_at w h' b H' := by
  have ek : jl_kd h' b = jl_kd h b := by unfold jl_kd; rw [h1]
  have el : jl_ln h' b = jl_ln h b := by unfold jl_ln; rw [h1]
  have ee : jw_el w h' b = jw_el w h b := by unfold jw_el; rw [ek, el, h2, h3, h4]
  have ef : ∀ ci, jw_fv w h' b ci = jw_fv w h b ci := fun ci => funext fun k => by unfold jw_fv; rw [h2, h3]
  unfold jw_at at hat ⊢
  rw [ek, ee, hq, ef]
  rcases hat with ⟨z1, z2⟩ | z | z
  · exact Or.inl ⟨z1, z2.kept hq⟩
  · exact Or.inr (Or.inl z)
  · exact Or.inr (Or.inr z)
theorem jw_Rep.upd {w : JW} {h h' : LH} {H H' : Heap} (hR : jw_Rep w h H) {a : Nat} (h64 : 64 ≤ a) (hsh : h'.1 = h.1) (hsz : H'.size = H.size) (hoth : ∀ q : Nat, q ≠ jw_ad w a → H'[q]? = H[q]?) (hat : jw_at w h' a H')
    (hsame : ∀ b, b ≠ a → h'.2.1 b = h.2.1 b ∧ h'.2.2.1 b = h.2.2.1 b ∧ h'.2.2.2 b = h.2.2.2 b) : jw_Rep w h' H' := by
  refine ⟨by rw [hsh]; exact hR.1, fun b hb hbl => ?_, fun hn => ?_, fun b hb => ?_⟩
  · by_cases e : b = a
    · rw [e]; exact hat
    · obtain ⟨q1, q2, q3⟩ := hsame b e
      exact jw_at_congr hsh q1 q2 q3 (hoth _ (jw_ad_ne h64 hb e)) (hR.2.1 b hb (by rw [← hsh]; exact hbl))
  · rw [hsz, hsh]
    exact hR.2.2.1 (by unfold jl_nj at hn ⊢; rw [← hsh]; exact hn)
  · rw [hsh, (hsame b (by omega)).1]
    exact hR.2.2.2 b hb
theorem jl_setI_ne {h : LH} {a k b : Nat} {x : Int32} (e : b ≠ a) : (jl_setI h a k x).2.1 b = h.2.1 b ∧ (jl_setI h a k x).2.2.1 b = h.2.2.1 b ∧ (jl_setI h a k x).2.2.2 b = h.2.2.2 b :=
  ⟨funext fun j => by simp [jl_setI, e], rfl, rfl⟩
theorem jl_setP_ne {h : LH} {a k b : Nat} {x : Option Nat} (e : b ≠ a) : (jl_setP h a k x).2.1 b = h.2.1 b ∧ (jl_setP h a k x).2.2.1 b = h.2.2.1 b ∧ (jl_setP h a k x).2.2.2 b = h.2.2.2 b :=
  ⟨rfl, funext fun j => by simp [jl_setP, e], rfl⟩
theorem jl_setL_ne {h : LH} {a k b : Nat} {x : Int64} (e : b ≠ a) : (jl_setL h a k x).2.1 b = h.2.1 b ∧ (jl_setL h a k x).2.2.1 b = h.2.2.1 b ∧ (jl_setL h a k x).2.2.2 b = h.2.2.2 b :=
  ⟨rfl, rfl, funext fun j => by simp [jl_setL, e]⟩
section JSD
variable {w : JW} {p : Program} {l : Launch} {e : Env} {R : Room} {s : State} {m : MethodId} {args : Array Value} {below : List Frame} {meth : Method} {c : Code} {nL n0 s0 : Nat} {Q : State → Prop} {cc : ByteArray} {pc pc' : Nat} {ls st ls' st' : List Value} {h h' : LH}
theorem jw_ge_base {a : Nat} (h : 64 ≤ a) : w.1 ≤ jw_ad w a := by
  unfold jw_ad
  rw [if_neg (by omega)]
  omega
/-- a store into an array of numbers -/
theorem jw_upd_i {H H1 : Heap} {a i : Nat} {x : Int32} (hR : jw_Rep w h H) (h64 : 64 ≤ a) (hk : 20 ≤ jl_kd h a) (hk2 : jl_kd h a ≤ 22) (e1 : H1[jw_ad w a]? = some (arrV (w.2.2.2.2.1 (jl_kd h a)) (jl_ln h a) (updV (fun j => .int (h.2.1 a j)) i (.int x)))) (z : H1.size = H.size) (oq : ∀ q, q ≠ jw_ad w a → H1[q]? = H[q]?) : jw_Rep w (jl_setI h a i x) H1 := by
  refine hR.upd h64 rfl z oq (Or.inr (Or.inl ⟨hk, (show jl_kd h a ≤ 25 by omega), ?_⟩)) (fun b e => jl_setI_ne e)
  have he : jw_el w (jl_setI h a i x) a = (jl_ln h a, .inl ((jl_setI h a i x).2.1 a)) := if_pos (show jl_kd h a ≤ 22 from hk2)
  show H1[jw_ad w a]? = some (vp_cell (w.2.2.2.2.1 (jl_kd h a)) (jw_el w (jl_setI h a i x) a))
  rw [he, e1, vp_cell_i]
  congr 2
  funext j
  by_cases ej : j = i <;> simp [updV, jl_setI, ej]
theorem jw_iast (hx : p.tables.exec = Jvm.exec) (hb : c.code = cc) (hE : jw_E w s s.heap) (hd : decode cc pc = .ok (.iastore, 1)) (hs : jl_iast ls st h (pc + 1) = some (.inl (pc', ls', st', h'))) (kk : jw_J w p l e R s m args below meth c nL n0 s0 Q pc' ls' st' h') : jw_J w p l e R s m args below meth c nL n0 s0 Q pc ls st h := by
  unfold jl_iast at hs
  split at hs
  · rename_i x i a st1
    split at hs
    · rename_i hc
      obtain ⟨hk, h64, hi⟩ := hc
      obtain ⟨rfl, rfl, rfl, rfl⟩ := jw_nx hs
      intro H locs lsA hR hL hS
      have hc := hR.arr hE.2.2.2.2 (a := a) (by omega) (by omega)
      have he : jw_el w h a = (jl_ln h a, .inl (h.2.1 a)) := if_pos (by omega)
      rw [he, vp_cell_i] at hc
      refine W.iast hx hb hc (by rw [hk]; exact (hE.1.2 0 _ rfl).1 _ _) (fun q => by cases q) (by rw [arrV_size]; exact (jw_in hi).1) rfl rfl hd fun H1 e1 z oq => ?_
      rw [arrV_store] at e1
      exact kk H1 _ lsA (jw_upd_i hR h64 (by omega) (by omega) e1 z oq) hL (hS.put z oq (jw_ge_base h64))
    · cases hs
  · cases hs
theorem jw_nar_b (x : Int32) : narrow .byte (.int x) = .int (vp_nar .byte x) := by
  rw [vp_nar_byte]; rfl
theorem jw_nar_z (x : Int32) : narrow .boolean (.int x) = .int (vp_nar .boolean x) := rfl
theorem jw_bast (hx : p.tables.exec = Jvm.exec) (hb : c.code = cc) (hE : jw_E w s s.heap) (hd : decode cc pc = .ok (.bastore, 1)) (hs : jl_bast ls st h (pc + 1) = some (.inl (pc', ls', st', h'))) (kk : jw_J w p l e R s m args below meth c nL n0 s0 Q pc' ls' st' h') : jw_J w p l e R s m args below meth c nL n0 s0 Q pc ls st h := by
  unfold jl_bast at hs
  split at hs
  · rename_i x i a st1
    split at hs
    · rename_i hc
      obtain ⟨hk, h64, hi⟩ := hc
      obtain ⟨rfl, rfl, rfl, rfl⟩ := jw_nx hs
      intro H locs lsA hR hL hS
      have hc := hR.arr hE.2.2.2.2 (a := a) (by omega) (by omega)
      have he : jw_el w h a = (jl_ln h a, .inl (h.2.1 a)) := if_pos (by omega)
      rw [he, vp_cell_i] at hc
      refine W.bast hx hb hc (by rw [hk]; exact (hE.1.2 1 _ rfl).1 _ _) (fun q => by cases q) (by rw [arrV_size]; exact (jw_in hi).1) rfl rfl hd fun H1 e1 z oq => ?_
      rw [jw_nar_b, arrV_store] at e1
      exact kk H1 _ lsA (jw_upd_i hR h64 (by omega) (by omega) e1 z oq) hL (hS.put z oq (jw_ge_base h64))
    · split at hs
      · rename_i hc
        obtain ⟨hk, h64, hi⟩ := hc
        obtain ⟨rfl, rfl, rfl, rfl⟩ := jw_nx hs
        intro H locs lsA hR hL hS
        have hc := hR.arr hE.2.2.2.2 (a := a) (by omega) (by omega)
        have he : jw_el w h a = (jl_ln h a, .inl (h.2.1 a)) := if_pos (by omega)
        rw [he, vp_cell_i] at hc
        refine W.zast hx hb hc (by rw [hk]; exact (hE.1.2 2 _ rfl).1 _ _) (fun q => by cases q) (by rw [arrV_size]; exact (jw_in hi).1) rfl rfl hd fun H1 e1 z oq => ?_
        rw [jw_nar_z, arrV_store] at e1
        exact kk H1 _ lsA (jw_upd_i hR h64 (by omega) (by omega) e1 z oq) hL (hS.put z oq (jw_ge_base h64))
      · cases hs
  · cases hs
theorem jw_last (hx : p.tables.exec = Jvm.exec) (hb : c.code = cc) (hE : jw_E w s s.heap) (hd : decode cc pc = .ok (.lastore, 1)) (hs : jl_last ls st h (pc + 1) = some (.inl (pc', ls', st', h'))) (kk : jw_J w p l e R s m args below meth c nL n0 s0 Q pc' ls' st' h') : jw_J w p l e R s m args below meth c nL n0 s0 Q pc ls st h := by
  unfold jl_last at hs
  split at hs
  · rename_i x i a st1
    split at hs
    · rename_i hc
      obtain ⟨hk, h64, hi⟩ := hc
      obtain ⟨rfl, rfl, rfl, rfl⟩ := jw_nx hs
      intro H locs lsA hR hL hS
      have hc := hR.arr hE.2.2.2.2 (a := a) (by omega) (by omega)
      have he : jw_el w h a = (jl_ln h a, .inr (.inl (h.2.2.2 a))) := by
        unfold jw_el
        rw [if_neg (by omega), if_pos hk]
      rw [he, vp_cell_l] at hc
      refine W.last hx hb hc (by rw [hk]; exact (hE.1.2 3 _ rfl).1 _ _) (fun q => by cases q) (by rw [arrV_size]; exact (jw_in hi).1) rfl rfl hd fun H1 e1 z oq => ?_
      rw [arrV_store] at e1
      refine kk H1 _ lsA (hR.upd h64 rfl z oq (Or.inr (Or.inl ⟨(show 20 ≤ jl_kd h a by omega), (show jl_kd h a ≤ 25 by omega), ?_⟩)) (fun b e => jl_setL_ne e)) hL (hS.put z oq (jw_ge_base h64))
      have he2 : jw_el w (jl_setL h a i.toNatClampNeg x) a = (jl_ln h a, .inr (.inl ((jl_setL h a i.toNatClampNeg x).2.2.2 a))) := (if_neg (show ¬ jl_kd h a ≤ 22 by omega)).trans (if_pos (show jl_kd h a = 23 from hk))
      show H1[jw_ad w a]? = some (vp_cell (w.2.2.2.2.1 (jl_kd h a)) (jw_el w (jl_setL h a i.toNatClampNeg x) a))
      rw [he2, e1, vp_cell_l]
      congr 2
      funext j
      by_cases ej : j = i.toNatClampNeg <;> simp [updV, jl_setL, ej]
    · cases hs
  · cases hs
end JSD

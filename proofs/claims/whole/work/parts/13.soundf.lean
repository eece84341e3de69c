/-! THE LIGHT MACHINE IS SOUND, 6: cells made; arraycopy; constants -/
section JSF
variable {w : JW} {p : Program} {l : Launch} {e : Env} {R : Room} {s : State} {m : MethodId} {args : Array Value} {below : List Frame} {meth : Method} {c : Code} {nL n0 s0 : Nat} {Q : State → Prop} {cc : ByteArray} {pc pc' : Nat} {ls st ls' st' : List Value} {h h' : LH}
theorem jw_at_lt {H : Heap} {a : Nat} (hat : jw_at w h a H) (hk : jl_kd h a ≠ 40) : jw_ad w a < H.size := by
  rcases hat with ⟨-, cell, z, -⟩ | ⟨-, -, z⟩ | z
  · exact (Array.getElem?_eq_some_iff.mp z).1
  · exact (Array.getElem?_eq_some_iff.mp z).1
  · exact absurd z hk
/-- cells are made behind the others: what was there stays -/
theorem jw_Rep.more {H H1 : Heap} {more : List (Nat × Nat)} (hR : jw_Rep w h H) (hnj : jl_nj h = true) (hsh : h'.1 = h.1 ++ more) (hz : H1.size = H.size + more.length) (ho : ∀ q : Nat, q < H.size → H1[q]? = H[q]?)
    (hsame : ∀ b, b < h.1.length → h'.2.1 b = h.2.1 b ∧ h'.2.2.1 b = h.2.2.1 b ∧ h'.2.2.2 b = h.2.2.2 b) (hnew : ∀ j, j < more.length → jw_at w h' (h.1.length + j) H1) : jw_Rep w h' H1 := by
  have hsz := hR.2.2.1 hnj
  have hkd : ∀ a, a < h.1.length → h'.1[a]? = h.1[a]? := fun a ha => by rw [hsh, List.getElem?_append_left ha]
  refine ⟨by rw [hsh, List.length_append]; have := hR.1; omega, fun a h64 hal => ?_, fun _ => ?_, fun a ha => ?_⟩
  · by_cases hl : a < h.1.length
    · have hat := hR.2.1 a h64 hl
      obtain ⟨q1, q2, q3⟩ := hsame a hl
      have ek : jl_kd h' a = jl_kd h a := by unfold jl_kd; rw [hkd a hl]
      have el : jl_ln h' a = jl_ln h a := by unfold jl_ln; rw [hkd a hl]
      by_cases h40 : jl_kd h a = 40
      · exact Or.inr (Or.inr (by rw [ek]; exact h40))
      · have hq := ho _ (jw_at_lt hat h40)
        have ee : jw_el w h' a = jw_el w h a := by unfold jw_el; rw [ek, el, q1, q2, q3]
        have ef : ∀ ci, jw_fv w h' a ci = jw_fv w h a ci := fun ci => funext fun k => by unfold jw_fv; rw [q1, q2]
        unfold jw_at at hat ⊢
        rw [ek, ee, hq, ef]
        rcases hat with ⟨z1, z2⟩ | z | z
        · exact Or.inl ⟨z1, z2.kept hq⟩
        · exact Or.inr (Or.inl z)
        · exact Or.inr (Or.inr z)
    · obtain ⟨j, rfl⟩ : ∃ j, a = h.1.length + j := ⟨a - h.1.length, by omega⟩
      rw [hsh, List.length_append] at hal
      exact hnew j (by omega)
  · rw [hz, hsz, hsh, List.length_append]
    have := hR.1
    omega
  · have hl : a < h.1.length := Nat.lt_of_lt_of_le ha hR.1
    rw [hkd a hl, (hsame a hl).1]
    exact hR.2.2.2 a ha
theorem jw_ad_new {H : Heap} (hR : jw_Rep w h H) (hnj : jl_nj h = true) (j : Nat) : jw_ad w (h.1.length + j) = H.size + j := by
  unfold jw_ad
  have h1 := hR.1
  rw [if_neg (by omega), hR.2.2.1 hnj]
  omega
theorem jl_new_same {kd n b : Nat} (hb : b < h.1.length) : (jl_new h kd n).2.1 b = h.2.1 b ∧ (jl_new h kd n).2.2.1 b = h.2.2.1 b ∧ (jl_new h kd n).2.2.2 b = h.2.2.2 b := by
  have : ¬ b = h.1.length := by omega
  exact ⟨funext fun j => by simp [jl_new, this], funext fun j => by simp [jl_new, this], funext fun j => by simp [jl_new, this]⟩
theorem jl_new_kd {kd n : Nat} : jl_kd (jl_new h kd n) h.1.length = kd ∧ jl_ln (jl_new h kd n) h.1.length = n := by
  simp [jl_kd, jl_ln, jl_new]
theorem jl_new_sl {kd n : Nat} : jl_sl (jl_new h kd n) = jl_sl h + n := by simp [jl_sl, jl_new]
theorem jl_new_len {kd n : Nat} : (jl_new h kd n).1.length = h.1.length + 1 := by simp [jl_new]
theorem jb_Cat {o i ci : Nat} (h : jt_T.2.2.1 o i = some ci) : Cond.classLink (jn_R o) i (if ci < 12 then jn_R ci else jw_Cn ci) ∈ jb := by
  have h1 : ((jt_C.getD o []).lookup i).map (fun q => q.1) = some ci := h
  cases hl : (jt_C.getD o []).lookup i with
  | none => rw [hl] at h1; cases h1
  | some q =>
    rw [hl] at h1
    obtain ⟨q1, q2⟩ := q
    cases h1
    exact jb_C o _ (jb_lookup hl)
theorem va_S.more {A : Nat → Prop} {H0 H H1 : Heap} {locs : List Loc} (hS : va_S A H0 H locs) (hz : H.size ≤ H1.size) (ho : ∀ q : Nat, q < H.size → H1[q]? = H[q]?) : va_S A H0 H1 locs :=
  ⟨Nat.le_trans hS.1 hz, fun q h1 h2 => (ho q (Nat.lt_of_lt_of_le h1 hS.1)).trans (hS.2.1 q h1 h2), hS.2.2⟩
theorem jw_mk (hx : p.tables.exec = Jvm.exec) (hb : c.code = cc) (hE : jw_E w s s.heap) {own idx : Nat} (hown : s.vm.findClass (jn_R own) = some m.cls) (hts : ∀ q ∈ jb, q.before args s = true) (hn0 : n0 ≤ h.1.length) (hs0 : s0 ≤ jl_sl h) (hcap : h'.1.length - n0 ≤ R.cells ∧ jl_sl h' - s0 ≤ R.slots)
    (hd : decode cc pc = .ok (.new idx, 3)) (hs : jl_mk jt_T own idx ls st h (pc + 3) = some (.inl (pc', ls', st', h'))) (kk : jw_J w p l e R s m args below meth c nL n0 s0 Q pc' ls' st' h') : jw_J w p l e R s m args below meth c nL n0 s0 Q pc ls st h := by
  unfold jl_mk at hs
  split at hs
  · rename_i ci hT
    split at hs
    · rename_i hc
      obtain ⟨hc, hnj⟩ := hc
      obtain ⟨rfl, rfl, rfl, rfl⟩ := jw_nx hs
      have hN : (jt_T.2.2.2.2.2.1 ci) = jn_N ci := rfl
      rw [hN] at kk hcap
      rw [jl_new_sl, jl_new_len] at hcap
      intro H locs lsA hR hL hS
      have hcl := hts _ (jb_Cat hT)
      rw [if_pos hc] at hcl
      have hKn := hE.1.1 ci _ (jn_cl_at hc)
      refine W.newcK hx hb hown hcl (hts _ (jb_N ci hc).1) (hts _ (jb_N ci hc).2) rfl hd (by omega) (by omega) hKn.2.1 rfl fun H1 kC hkC e1 z1 o1 => ?_
      have k := kk H1 locs lsA (hR.more hnj (more := [(ci, jn_N ci)]) rfl (by rw [z1]; rfl) o1 (fun b hb => jl_new_same hb) (fun j hj => ?_)) hL (hS.more (by omega) o1)
      · rw [jl_new_sl, jl_new_len] at k
        have ea : jw_ad w h.1.length = H.size := jw_ad_new hR hnj 0
        rw [List.map_cons, show jw_tv w (.ref h.1.length) = .ref H.size by rw [← ea]; rfl] at k
        rw [show h.1.length + 1 - n0 = h.1.length - n0 + 1 by omega, show jl_sl h + jn_N ci - s0 = jl_sl h - s0 + jn_N ci by omega] at k
        exact k
      · have hj0 : j = 0 := by simp at hj; exact hj
        subst hj0
        have ea : jw_ad w (h.1.length + 0) = H.size := jw_ad_new hR hnj 0
        refine Or.inl ?_
        rw [ea]
        show (jl_kd (jl_new h ci (jn_N ci)) h.1.length < 12 ∧ _)
        rw [show h.1.length + 0 = h.1.length from rfl, jl_new_kd.1]
        refine ⟨hc, (u_born (jn_ty ci) hts (jb_L ci hc) hKn hkC e1 (fun k hk => (jn_ty_ok hc hk).1)).to (fun k hk => ?_)⟩
        have hty := (jn_ty_ok hc hk).2
        unfold jw_fv
        rcases hty with ⟨q, r⟩ | ⟨q, r⟩ | ⟨⟨C, q⟩, r⟩ | ⟨⟨C, q⟩, r⟩ <;> rw [q, r] <;> simp [jl_new, defaultValue, va_rf]
    · split at hs <;> cases hs
  · cases hs
theorem jw_newa (hx : p.tables.exec = Jvm.exec) (hb : c.code = cc) (hE : jw_E w s s.heap) (hts : ∀ q ∈ jb, q.before args s = true) (harr : ∀ t : ArrayType, jl_akd t < 900 → (Cond.arrayClass (newarray.typeOf t)).before args s = true) (hn0 : n0 ≤ h.1.length) (hs0 : s0 ≤ jl_sl h) (hcap : h'.1.length - n0 ≤ R.cells ∧ jl_sl h' - s0 ≤ R.slots) {t : ArrayType}
    (hd : decode cc pc = .ok (.newarray t, 2)) (hs : jl_newa t ls st h (pc + 2) = some (.inl (pc', ls', st', h'))) (kk : jw_J w p l e R s m args below meth c nL n0 s0 Q pc' ls' st' h') : jw_J w p l e R s m args below meth c nL n0 s0 Q pc ls st h := by
  unfold jl_newa at hs
  split at hs
  · rename_i n st1
    split at hs
    · rename_i hc
      obtain ⟨hn, hsm, hk, hnj⟩ := hc
      obtain ⟨rfl, rfl, rfl, rfl⟩ := jw_nx hs
      rw [jl_new_sl, jl_new_len] at hcap
      intro H locs lsA hR hL hS
      have hbytes : n.toNatClampNeg * componentBytes (newarray.typeOf t) ≤ 536870912 := by
        cases t <;> simp [jl_akd] at hk <;> simp [newarray.typeOf, componentBytes] <;> omega
      refine va_newaK hx hb (harr t hk) rfl hd rfl hn rfl hbytes (by omega) (by omega) rfl fun H1 cA e1 z1 o1 hAr hNm => ?_
      have hcy : cA = w.2.2.2.2.1 (jl_akd t) := by
        cases t <;> simp [jl_akd] at hk
        · exact Option.some.inj (hNm.symm.trans (hE.1.2 2 _ rfl).2)
        · exact Option.some.inj (hNm.symm.trans (hE.1.2 1 _ rfl).2)
        · exact Option.some.inj (hNm.symm.trans (hE.1.2 0 _ rfl).2)
        · exact Option.some.inj (hNm.symm.trans (hE.1.2 3 _ rfl).2)
      have hkd : 20 ≤ jl_akd t ∧ jl_akd t ≤ 23 := by cases t <;> simp [jl_akd] at hk ⊢
      have k := kk H1 locs lsA (hR.more hnj (more := [(jl_akd t, n.toNatClampNeg)]) rfl (by rw [z1]; rfl) o1 (fun b hb => jl_new_same hb) (fun j hj => ?_)) hL (hS.more (by omega) o1)
      · rw [jl_new_sl, jl_new_len] at k
        have ea : jw_ad w h.1.length = H.size := jw_ad_new hR hnj 0
        rw [List.map_cons, show jw_tv w (.ref h.1.length) = .ref H.size by rw [← ea]; rfl] at k
        rw [show h.1.length + 1 - n0 = h.1.length - n0 + 1 by omega, show jl_sl h + n.toNatClampNeg - s0 = jl_sl h - s0 + n.toNatClampNeg by omega] at k
        exact k
      · have hj0 : j = 0 := by simp at hj; exact hj
        subst hj0
        have ea : jw_ad w (h.1.length + 0) = H.size := jw_ad_new hR hnj 0
        refine Or.inr (Or.inl ?_)
        rw [ea, show h.1.length + 0 = h.1.length from rfl, jl_new_kd.1, e1, hcy]
        refine ⟨hkd.1, by omega, ?_⟩
        unfold jw_el
        rw [jl_new_kd.1, jl_new_kd.2]
        cases t <;> simp [jl_akd] at hk <;> simp [jl_akd, jl_new, vp_cell, newarray.typeOf, defaultValue]
    · cases hs
  · cases hs
theorem jw_anew (hx : p.tables.exec = Jvm.exec) (hb : c.code = cc) (hE : jw_E w s s.heap) {own idx : Nat} (hown : s.vm.findClass (jn_R own) = some m.cls) (hts : ∀ q ∈ jb, q.before args s = true) (hn0 : n0 ≤ h.1.length) (hs0 : s0 ≤ jl_sl h) (hcap : h'.1.length - n0 ≤ R.cells ∧ jl_sl h' - s0 ≤ R.slots)
    (hd : decode cc pc = .ok (.anewarray idx, 3)) (hs : jl_anew jt_T own idx ls st h (pc + 3) = some (.inl (pc', ls', st', h'))) (kk : jw_J w p l e R s m args below meth c nL n0 s0 Q pc' ls' st' h') : jw_J w p l e R s m args below meth c nL n0 s0 Q pc ls st h := by
  unfold jl_anew at hs
  split at hs
  · rename_i n st1
    split at hs
    · rename_i hc
      obtain ⟨hn, hsm, hT, hnj⟩ := hc
      obtain ⟨rfl, rfl, rfl, rfl⟩ := jw_nx hs
      rw [jl_new_sl, jl_new_len] at hcap
      intro H locs lsA hR hL hS
      have hcl : (Cond.classLink (jn_R own) idx "SmokeGates$History").before args s = true := hts _ (jb_Cat hT)
      refine W.anew hx hb hown hcl (va_AO.use hE.2.2.1) rfl hd rfl hn (by omega) (by omega) (by omega) fun cA kA comp f1 f2 f3 f4 => ?_
      have hcy : cA = w.2.2.2.2.1 25 := by
        obtain ⟨_, _, -, -, -, r4⟩ := (hE.1.2 5 _ rfl).2
        exact Option.some.inj (f1.symm.trans r4)
      have o1 : ∀ q : Nat, q < H.size → (H.push { cls := cA, slots := Array.replicate n.toNatClampNeg .null, vm := .none })[q]? = H[q]? := fun q hq => by rw [Array.getElem?_push, if_neg (Nat.ne_of_lt hq)]
      have k := kk _ locs lsA (hR.more hnj (H1 := H.push { cls := cA, slots := Array.replicate n.toNatClampNeg .null, vm := .none }) (more := [(25, n.toNatClampNeg)]) rfl (by simp) o1 (fun b hb => jl_new_same hb) (fun j hj => ?_)) hL (hS.more (by simp) o1)
      · rw [jl_new_sl, jl_new_len] at k
        have ea : jw_ad w h.1.length = H.size := jw_ad_new hR hnj 0
        rw [List.map_cons, show jw_tv w (.ref h.1.length) = .ref H.size by rw [← ea]; rfl] at k
        rw [show h.1.length + 1 - n0 = h.1.length - n0 + 1 by omega, show jl_sl h + n.toNatClampNeg - s0 = jl_sl h - s0 + n.toNatClampNeg by omega] at k
        exact k
      · have hj0 : j = 0 := by simp at hj; exact hj
        subst hj0
        have ea : jw_ad w (h.1.length + 0) = H.size := jw_ad_new hR hnj 0
        refine Or.inr (Or.inl ?_)
        rw [ea, show h.1.length + 0 = h.1.length from rfl, jl_new_kd.1]
        refine ⟨by omega, by omega, ?_⟩
        unfold jw_el
        rw [jl_new_kd.1, jl_new_kd.2, arrV_new, hcy]
        simp [jl_new, vp_cell, va_rf]
    · cases hs
  · cases hs
end JSF

/-! PLAIN LEAN, 56: the class takes its other town -/
def jSwT (h : LH) (t u : Nat) : LH := jl_setP (jl_setP (jl_setP h 85 1 (some u)) 90 1 (some u)) 64 10 (some t)
theorem jh_P_sw : jh_P.all (fun q => decide (¬ (q.1 = 85 ∧ q.2.1 = 1)) && decide (¬ (q.1 = 90 ∧ q.2.1 = 1)) && decide (¬ (q.1 = 64 ∧ q.2.1 = 10))) = true := by decide +kernel
theorem jh_J_sw : jh_J.all (fun q => decide (¬ q.1 = 85) && decide (¬ q.1 = 90) && decide (¬ q.1 = 64)) = true := by decide +kernel
section
variable {t u l m b c : Nat} {h : LH} {I J K : Nat → Nat → Int32} {Q : Type}
theorem jSwT_pt {a k : Nat} (h1 : ¬ (a = 85 ∧ k = 1)) (h2 : ¬ (a = 90 ∧ k = 1)) (h3 : ¬ (a = 64 ∧ k = 10)) : (jSwT h t u).2.2.1 a k = h.2.2.1 a k := by
  show (if a = 64 ∧ k = 10 then some t else if a = 90 ∧ k = 1 then some u else if a = 85 ∧ k = 1 then some u else h.2.2.1 a k) = _
  rw [if_neg h3, if_neg h2, if_neg h1]
theorem jLay_sw (hL : jLay t u l m b c h) : jLay u t l m b c (jSwT h t u) := by
  obtain ⟨a1, a2, a3, a4, a5, a6, a7, p1, p2, p3, p4, p5, p6, p7, p8⟩ := hL
  refine ⟨a1, fun q hq => ?_, fun q hq i hi => ?_, fun i hi => ?_, by omega, a6, a7, rfl, rfl, rfl, ?_, ?_, ?_, ?_, ?_⟩
  · have := List.all_eq_true.mp jh_P_sw q hq
    simp only [Bool.and_eq_true, decide_eq_true_eq] at this
    rw [jSwT_pt this.1.1 this.1.2 this.2]; exact a2 q hq
  · have := List.all_eq_true.mp jh_J_sw q hq
    simp only [Bool.and_eq_true, decide_eq_true_eq] at this
    rw [jSwT_pt (fun z => this.1.1 z.1) (fun z => this.1.2 z.1) (fun z => this.2 z.1)]; exact a3 q hq i hi
  · rw [jSwT_pt (by omega) (by omega) (by omega)]; exact a4 i hi
  · rw [jSwT_pt (by omega) (by omega) (by omega)]; exact p4
  · rw [jSwT_pt (by omega) (by omega) (by omega)]; exact p5
  · rw [jSwT_pt (by omega) (by omega) (by omega)]; exact p6
  · rw [jSwT_pt (by omega) (by omega) (by omega)]; exact p7
  · rw [jSwT_pt (by omega) (by omega) (by omega)]; exact p8
theorem jStr_sw (hS : jStr h J) : jStr (jSwT h t u) J := hS
theorem c_swT (hL : jLay t u l m b c h) {X : LH → Option Q} : (jf_pr (jz_I h J) 85 6 1 u fun h13 => jf_gr h13 64 10 3 fun v14 => jf_gr h13 64 10 10 fun v15 => jf_pr h13 v14 6 1 v15 fun h16 => jf_pr h16 64 10 10 t fun h17 => X h17) = X (jz_I (jSwT h t u) J) := by
  have k85 := lk_85 hL
  have k90 := lk_90 hL
  have k64 := lk_64 hL
  have q3 : h.2.2.1 64 3 = some 90 := jLay_pt hL (by unfold jh_P; simp)
  have q10 : h.2.2.1 64 10 = some u := hL.2.2.2.2.2.2.2.2.2.1
  have p3 : (jl_setP (jz_I h J) 85 1 (some u)).2.2.1 64 3 = some 90 := by
    show (if 64 = 85 ∧ 3 = 1 then some u else h.2.2.1 64 3) = some 90
    rw [if_neg (by omega)]; exact q3
  have p10 : (jl_setP (jz_I h J) 85 1 (some u)).2.2.1 64 10 = some u := by
    show (if 64 = 85 ∧ 10 = 1 then some u else h.2.2.1 64 10) = some u
    rw [if_neg (by omega)]; exact q10
  have e1 : jf_pr (jz_I h J) 85 6 1 u = fun K : LH → Option Q => K (jl_setP (jz_I h J) 85 1 (some u)) := funext fun K => if_pos ⟨k85, by decide⟩
  rw [e1]
  show jf_gr (jl_setP (jz_I h J) 85 1 (some u)) 64 10 3 _ = _
  unfold jf_gr
  rw [if_pos (show jl_kd (jl_setP (jz_I h J) 85 1 (some u)) 64 = 10 from k64), p3, Option.bind_some, if_pos (show jl_kd (jl_setP (jz_I h J) 85 1 (some u)) 64 = 10 from k64), p10, Option.bind_some]
  unfold jf_pr
  rw [if_pos (show jl_kd (jl_setP (jz_I h J) 85 1 (some u)) 90 = 6 ∧ 64 ≤ 90 from ⟨k90, by decide⟩)]
  exact if_pos (show jl_kd (jl_setP (jl_setP (jz_I h J) 85 1 (some u)) 90 1 (some u)) 64 = 10 ∧ 64 ≤ 64 from ⟨k64, by decide⟩)
end

/-! PLAIN LEAN, 57: the class takes its other law -/
def jSwL (h : LH) (l m : Nat) : LH := jl_setP (jl_setP (jl_setP h 85 2 (some m)) 90 2 (some m)) 64 11 (some l)
theorem jh_P_sl : jh_P.all (fun q => decide (¬ (q.1 = 85 ∧ q.2.1 = 2)) && decide (¬ (q.1 = 90 ∧ q.2.1 = 2)) && decide (¬ (q.1 = 64 ∧ q.2.1 = 11))) = true := by decide +kernel
section
variable {t u l m b c : Nat} {h : LH} {I J K : Nat → Nat → Int32} {Q : Type}
theorem jSwL_pt {a k : Nat} (h1 : ¬ (a = 85 ∧ k = 2)) (h2 : ¬ (a = 90 ∧ k = 2)) (h3 : ¬ (a = 64 ∧ k = 11)) : (jSwL h l m).2.2.1 a k = h.2.2.1 a k := by
  show (if a = 64 ∧ k = 11 then some l else if a = 90 ∧ k = 2 then some m else if a = 85 ∧ k = 2 then some m else h.2.2.1 a k) = _
  rw [if_neg h3, if_neg h2, if_neg h1]
theorem jLay_sl (hL : jLay t u l m b c h) : jLay t u m l b c (jSwL h l m) := by
  obtain ⟨a1, a2, a3, a4, a5, a6, a7, p1, p2, p3, p4, p5, p6, p7, p8⟩ := hL
  refine ⟨a1, fun q hq => ?_, fun q hq i hi => ?_, fun i hi => ?_, a5, by omega, a7, ?_, ?_, ?_, rfl, rfl, rfl, ?_, ?_⟩
  · have := List.all_eq_true.mp jh_P_sl q hq
    simp only [Bool.and_eq_true, decide_eq_true_eq] at this
    rw [jSwL_pt this.1.1 this.1.2 this.2]; exact a2 q hq
  · have := List.all_eq_true.mp jh_J_sw q hq
    simp only [Bool.and_eq_true, decide_eq_true_eq] at this
    rw [jSwL_pt (fun z => this.1.1 z.1) (fun z => this.1.2 z.1) (fun z => this.2 z.1)]; exact a3 q hq i hi
  · rw [jSwL_pt (by omega) (by omega) (by omega)]; exact a4 i hi
  · rw [jSwL_pt (by omega) (by omega) (by omega)]; exact p1
  · rw [jSwL_pt (by omega) (by omega) (by omega)]; exact p2
  · rw [jSwL_pt (by omega) (by omega) (by omega)]; exact p3
  · rw [jSwL_pt (by omega) (by omega) (by omega)]; exact p7
  · rw [jSwL_pt (by omega) (by omega) (by omega)]; exact p8
theorem jStr_sl (hS : jStr h J) : jStr (jSwL h l m) J := hS
theorem c_swL (hL : jLay t u l m b c h) {X : LH → Option Q} : (jf_pr (jz_I h J) 85 6 2 m fun h13 => jf_gr h13 64 10 3 fun v14 => jf_gr h13 64 10 11 fun v15 => jf_pr h13 v14 6 2 v15 fun h16 => jf_pr h16 64 10 11 l fun h17 => X h17) = X (jz_I (jSwL h l m) J) := by
  have k85 := lk_85 hL
  have k90 := lk_90 hL
  have k64 := lk_64 hL
  have q3 : h.2.2.1 64 3 = some 90 := jLay_pt hL (by unfold jh_P; simp)
  have q10 : h.2.2.1 64 11 = some m := hL.2.2.2.2.2.2.2.2.2.2.2.2.1
  have p3 : (jl_setP (jz_I h J) 85 2 (some m)).2.2.1 64 3 = some 90 := by
    show (if 64 = 85 ∧ 3 = 2 then some m else h.2.2.1 64 3) = some 90
    rw [if_neg (by omega)]; exact q3
  have p10 : (jl_setP (jz_I h J) 85 2 (some m)).2.2.1 64 11 = some m := by
    show (if 64 = 85 ∧ 11 = 2 then some m else h.2.2.1 64 11) = some m
    rw [if_neg (by omega)]; exact q10
  have e1 : jf_pr (jz_I h J) 85 6 2 m = fun K : LH → Option Q => K (jl_setP (jz_I h J) 85 2 (some m)) := funext fun K => if_pos ⟨k85, by decide⟩
  rw [e1]
  show jf_gr (jl_setP (jz_I h J) 85 2 (some m)) 64 10 3 _ = _
  unfold jf_gr
  rw [if_pos (show jl_kd (jl_setP (jz_I h J) 85 2 (some m)) 64 = 10 from k64), p3, Option.bind_some, if_pos (show jl_kd (jl_setP (jz_I h J) 85 2 (some m)) 64 = 10 from k64), p10, Option.bind_some]
  unfold jf_pr
  rw [if_pos (show jl_kd (jl_setP (jz_I h J) 85 2 (some m)) 90 = 6 ∧ 64 ≤ 90 from ⟨k90, by decide⟩)]
  exact if_pos (show jl_kd (jl_setP (jl_setP (jz_I h J) 85 2 (some m)) 90 2 (some m)) 64 = 10 ∧ 64 ≤ 64 from ⟨k64, by decide⟩)
end

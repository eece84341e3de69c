/-! PLAIN LEAN, 58: the class takes its other book -/
def jSwB (h : LH) (b c : Nat) : LH := jl_setP (jl_setP h 64 12 (some c)) 64 13 (some b)
theorem jh_P_sb : jh_P.all (fun q => decide (¬ (q.1 = 64 ∧ q.2.1 = 12)) && decide (¬ (q.1 = 64 ∧ q.2.1 = 13))) = true := by decide +kernel
section
variable {t u l m b c : Nat} {h : LH} {I J K : Nat → Nat → Int32} {Q : Type}
theorem jSwB_pt {a k : Nat} (h1 : ¬ (a = 64 ∧ k = 12)) (h2 : ¬ (a = 64 ∧ k = 13)) : (jSwB h b c).2.2.1 a k = h.2.2.1 a k := by
  show (if a = 64 ∧ k = 13 then some b else if a = 64 ∧ k = 12 then some c else h.2.2.1 a k) = _
  rw [if_neg h2, if_neg h1]
theorem jLay_sb (hL : jLay t u l m b c h) : jLay t u l m c b (jSwB h b c) := by
  obtain ⟨a1, a2, a3, a4, a5, a6, a7, p1, p2, p3, p4, p5, p6, p7, p8⟩ := hL
  refine ⟨a1, fun q hq => ?_, fun q hq i hi => ?_, fun i hi => ?_, a5, a6, by omega, ?_, ?_, ?_, ?_, ?_, ?_, rfl, rfl⟩
  · have := List.all_eq_true.mp jh_P_sb q hq
    simp only [Bool.and_eq_true, decide_eq_true_eq] at this
    rw [jSwB_pt this.1 this.2]; exact a2 q hq
  · have := List.all_eq_true.mp jh_J_sw q hq
    simp only [Bool.and_eq_true, decide_eq_true_eq] at this
    rw [jSwB_pt (fun z => this.2 z.1) (fun z => this.2 z.1)]; exact a3 q hq i hi
  · rw [jSwB_pt (by omega) (by omega)]; exact a4 i hi
  · rw [jSwB_pt (by omega) (by omega)]; exact p1
  · rw [jSwB_pt (by omega) (by omega)]; exact p2
  · rw [jSwB_pt (by omega) (by omega)]; exact p3
  · rw [jSwB_pt (by omega) (by omega)]; exact p4
  · rw [jSwB_pt (by omega) (by omega)]; exact p5
  · rw [jSwB_pt (by omega) (by omega)]; exact p6
theorem jStr_sb (hS : jStr h J) : jStr (jSwB h b c) J := hS
theorem c_swB (hL : jLay t u l m b c h) {X : LH → Option Q} : (jf_pr (jz_I h J) 64 10 12 c fun h13 => jf_pr h13 64 10 13 b fun h14 => X h14) = X (jz_I (jSwB h b c) J) := by
  have k64 := lk_64 hL
  unfold jf_pr
  rw [if_pos (show jl_kd (jz_I h J) 64 = 10 ∧ 64 ≤ 64 from ⟨k64, by decide⟩)]
  exact if_pos (show jl_kd (jl_setP (jz_I h J) 64 12 (some c)) 64 = 10 ∧ 64 ≤ 64 from ⟨k64, by decide⟩)
end

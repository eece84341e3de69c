/-! PLAIN LEAN: the checking loop -/
section
variable {L S : Nat} {xs : Nat → Int32}
theorem x_all (hL : L ≤ 3072) : ∀ M i N A h I, L < i + 6 + 6 * M → i ≤ 3078 → jInv L xs S N A h I → ∀ F, M < F → jW (F_Chk_law2_l23 F 63 64 205 717 (nI i) (jz_I h I)) (fun q => q.1 = 1 ∧ q.2.1.length ≤ 718 + N + M ∧ jl_sl q.2 ≤ S + 6 * (N + M)) := by
  intro M
  induction M with
  | zero => ?_
  | succ M ih => ?_
  all_goals
    intro i N A h I hi hi3 hX F hF
    obtain ⟨F, rfl⟩ : ∃ F', F = F' + 1 := ⟨F - 1, by omega⟩
    have hO := hX.2.2.1
    by_cases hc : ¬ i + 6 ≤ L
    case pos =>
      show jW (F_Chk_law2_c23 (F_Chk_law2_l23 F) 63 64 205 717 (nI i) (jz_I h I)) _
      unfold F_Chk_law2_c23
      rw [al_63 hO, if_pos ((sub_6 hL (by omega)).mpr (by omega))]
      have h4 := hO.2.2.2.1
      have h5 := hO.2.2.2.2
      exact jW_s ⟨rfl, by show h.1.length ≤ _; omega, by show jl_sl h ≤ _; omega⟩
    have hc : i + 6 ≤ L := Decidable.not_not.mp hc
  · omega
  · show jW (F_Chk_law2_c23 (F_Chk_law2_l23 F) 63 64 205 717 (nI i) (jz_I h I)) _
    refine x_core hX hL hc (fun h' I' A' hX' => ?_)
    rw [show nI i + (6 : Int32) = nI (i + 6) from kn_add i 6]
    obtain ⟨q, e, q1, q2, q3⟩ := ih (i + 6) (N + 1) A' h' I' (by omega) (by omega) hX' F (by omega)
    exact ⟨q, e, q1, by omega, by omega⟩
end

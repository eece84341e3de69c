/-! THE LIGHT MACHINE IS SOUND, 9: every step within a method -/
/-- the heap only grows -/
def jl_le (h h' : LH) : Prop := h.1.length ≤ h'.1.length ∧ jl_sl h ≤ jl_sl h'
theorem jl_le.rf {h : LH} : jl_le h h := ⟨Nat.le_refl _, Nat.le_refl _⟩
theorem jl_le.tr {h h' h'' : LH} (a : jl_le h h') (b : jl_le h' h'') : jl_le h h'' := ⟨Nat.le_trans a.1 b.1, Nat.le_trans a.2 b.2⟩
theorem jl_le.eq {h h' : LH} (e : h'.1 = h.1) : jl_le h h' := ⟨by rw [e]; exact Nat.le_refl _, by unfold jl_sl; rw [e]; exact Nat.le_refl _⟩
theorem jl_le.new {h : LH} {kd n : Nat} : jl_le h (jl_new h kd n) := ⟨by rw [jl_new_len]; omega, by rw [jl_new_sl]; omega⟩
theorem jl_le.new2 {h : LH} {n k : Nat} : jl_le h (jl_new2 h n k) := ⟨by rw [jl_new2_len]; omega, by rw [jl_new2_sl]; omega⟩
theorem jl_le.junk {h : LH} {n : Nat} : jl_le h (jl_junk h n) := ⟨by simp [jl_junk], by simp [jl_sl, jl_junk]⟩
theorem jl_go_le {pc pc' : Nat} {off : Int} {ls st ls' st' : List Value} {h h' : LH} (hs : jl_go pc off ls st h = some (.inl (pc', ls', st', h'))) : jl_le h h' := by
  unfold jl_go at hs
  split at hs
  · simp only [Option.some.injEq, Sum.inl.injEq, Prod.mk.injEq] at hs
    rw [hs.2.2.2]
    exact jl_le.rf
  · cases hs
theorem jl_br_le {b : Bool} {len pc pc' : Nat} {off : Int} {ls st ls' st' : List Value} {h h' : LH} (hs : jl_br b pc off len ls st h = some (.inl (pc', ls', st', h'))) : jl_le h h' := by
  obtain ⟨-, -, q, -⟩ := jw_br hs
  rw [q]
  exact jl_le.rf
theorem jl_step_le {T : JTab} {own rt : Nat} {ini : Bool} {i : Instr} {len pc pc' : Nat} {ls st ls' st' : List Value} {h h' : LH} (hs : jl_step T own ini rt i len pc ls st h = some (.inl (pc', ls', st', h'))) : jl_le h h' := by
  cases i <;> simp only [jl_step, jl_loadI, jl_loadA, jl_storeI, jl_storeA, jl_bin, jl_div, jl_un, jl_get, jl_put, jl_ald, jl_aald, jl_lald, jl_iast, jl_bast, jl_last, jl_aast, jl_alen, jl_newa, jl_anew, jl_mnew, jl_mk, jl_inv, jl_ldc, jl_ldcw, jl_gets, jl_ret] at hs <;>
    first
    | (cases hs; done)
    | exact jl_go_le hs
    | exact jl_br_le hs
    | (repeat' split at hs) <;> first
      | (cases hs; done)
      | exact jl_go_le hs
      | exact jl_br_le hs
      | (obtain ⟨-, -, -, rfl⟩ := jw_nx hs; first | exact jl_le.rf | exact jl_le.eq rfl | exact jl_le.new | exact jl_le.new2)
      | (rename_i q; cases ho : q with
          | none => rw [ho] at hs; cases hs
          | some off => rw [ho] at hs; exact jl_go_le hs)
      | (obtain ⟨-, -, -, rfl⟩ := jw_nx hs; exact jl_le.rf)
      | (simp only [Option.elim] at hs; split at hs <;> first | (cases hs; done) | exact jl_go_le hs)

/-! PLAIN LEAN: the blocks of the checking loop -/
theorem al_63 {L S N : Nat} {xs : Nat → Int32} {h : LH} {I : Nat → Nat → Int32} {Q : Type} (hO : jOut L xs S N h I) {K : Int32 → Option Q} : jf_al (jz_I h I) 63 K = K (nI L) := by
  exact (if_pos (Or.inr (Or.inl hO.1.1))).trans (congrArg K (congrArg nI hO.1.2.1))
theorem sub_6 {L i : Nat} (hL : L ≤ 3072) (hi : i ≤ 10000) : nI L - (6 : Int32) < nI i ↔ L < i + 6 := by
  show nI L - nI 6 < nI i ↔ _
  rw [Int32.lt_iff_toInt_lt, kn_ti (by omega), Int32.toInt_sub, kn_ti (by omega), kn_ti (by omega)]
  rw [Int.bmod_eq_of_le (by omega) (by omega)]
  omega
section
variable {h : LH} {I : Nat → Nat → Int32} {A : JA} {N L S i : Nat} {xs : Nat → Int32} {P : Int32 × LH → Prop} {k23 : Nat → Nat → Nat → Nat → Int32 → LH → Option (Int32 × LH)}
theorem bk_feed (hX : jInv L xs S N A h I) (hL : L ≤ 3072) (hi : i + 6 ≤ L) (hK : ∀ h' I' A', jInv L xs S (N + 1) A' h' I' → jW (k23 63 64 205 717 (nI i + (6 : Int32)) (jz_I h' I')) P) : jW (F_Chk_law2_b212 k23 63 64 205 717 (nI i) (jz_I h I)) P := by
  obtain ⟨t0, u0, l0, m0, b0, c0, hL0, -⟩ := hX.2.2.2
  have hO0 := hX.2.2.1
  obtain ⟨v, I1, I2, A', e1, hO, e2, hX'⟩ := x_oneN hX (x_feed hX.1 (xs (i + 1)) (xs (i + 2)) (xs (i + 3)) (xs (i + 4)) (xs (i + 5)))
  have e1 : F_SG_feed 64 (xs (i + 1)) (xs (i + 2)) (xs (i + 3)) (xs (i + 4)) (xs (i + 5)) (jz_I h I) = some (v, jz_I h I1) := e1
  have e2 : F_Mod_feed 205 (xs (i + 1)) (xs (i + 2)) (xs (i + 3)) (xs (i + 4)) (xs (i + 5)) (jz_I h I1) = some (v, jz_I h I2) := e2
  unfold F_Chk_law2_b212
  simp only [rd_1 hO0 hi hL, rd_2 hO0 hi hL, rd_3 hO0 hi hL, rd_4 hO0 hi hL, rd_5 hO0 hi hL, dK_64 hL0, e1, kq_bi, rd_1 hO hi hL, rd_2 hO hi hL, rd_3 hO hi hL, rd_4 hO hi hL, rd_5 hO hi hL, dK_205 hL0, e2, if_true]
  exact hK _ _ _ hX'
theorem bk_town (hX : jInv L xs S N A h I) (hL : L ≤ 3072) (hi : i + 6 ≤ L) (hK : ∀ h' I' A', jInv L xs S (N + 1) A' h' I' → jW (k23 63 64 205 717 (nI i + (6 : Int32)) (jz_I h' I')) P) : jW (F_Chk_law2_b285 k23 63 64 205 717 (nI i) (jz_I h I)) P := by
  obtain ⟨t0, u0, l0, m0, b0, c0, hL0, -⟩ := hX.2.2.2
  have hO0 := hX.2.2.1
  have c1 : ∀ x g, F_SG_town 64 (xs (i + 1)) (jz_I h I) = some (jo_i (x, g)) → F_Chk_town 64 (xs (i + 1)) 717 (jz_I h I) = jf_ls g 717 (0 : Int32) x.toInt64 (fun h3 => some ((0 : Int32), h3)) := fun x g e => by
    unfold F_Chk_town
    rw [dK_64 hL0, e]
    rfl
  have c2 : ∀ k g, k < 2 → ¬ cdI k = 0 → F_SG_town 64 (xs (i + 1)) (jz_I h I) = some (.inr k, g) → F_Chk_town 64 (xs (i + 1)) 717 (jz_I h I) = some (nI (cdI k), g) := fun k g hk hk0 e => by
    unfold F_Chk_town
    rw [dK_64 hL0, e]
    rcases (show k = 0 ∨ k = 1 by omega) with rfl | rfl
    · exact absurd rfl hk0
    · rfl
  obtain ⟨v2, v5, h1, I1, I2, A', e1, hO, ⟨t, u, l, m, b, c, hL1⟩, e2, e3, e4, hX'⟩ := x_one (Chk := fun g => F_Chk_town 64 (xs (i + 1)) 717 g) (f := fun v => v.toInt64) hX (x_town hX.1 (xs (i + 1))) c1 c2 cdI_2
  have e1 : F_Chk_town 64 (xs (i + 1)) 717 (jz_I h I) = some (v2, jz_I h1 I1) := e1
  have e2 : F_Mod_town 205 (xs (i + 1)) (jz_I h1 I1) = some (v5, jz_I h1 I2) := e2
  unfold F_Chk_law2_b285
  simp only [rd_1 hO0 hi hL, e1, kq_bi, rd_1 hO hi hL, dK_205 hL1, e2]
  have key := x_tl (P := P) (kk := fun g => k23 63 64 205 717 (nI i + (6 : Int32)) g) (E := fun g => jf_rz (0 : Int32) (some ((0 : Int32), g))) hX' e3 e4 (hK _ _ _ hX')
  rw [dK_205 hL1] at key
  exact key
theorem bk_law (hX : jInv L xs S N A h I) (hL : L ≤ 3072) (hi : i + 6 ≤ L) (hK : ∀ h' I' A', jInv L xs S (N + 1) A' h' I' → jW (k23 63 64 205 717 (nI i + (6 : Int32)) (jz_I h' I')) P) : jW (F_Chk_law2_b341 k23 63 64 205 717 (nI i) (jz_I h I)) P := by
  obtain ⟨t0, u0, l0, m0, b0, c0, hL0, -⟩ := hX.2.2.2
  have hO0 := hX.2.2.1
  have c1 : ∀ x g, F_SG_law 64 (xs (i + 1)) (jz_I h I) = some (jo_i (x, g)) → F_Chk_law 64 (xs (i + 1)) 717 (jz_I h I) = jf_ls g 717 (0 : Int32) x.toInt64 (fun h3 => some ((0 : Int32), h3)) := fun x g e => by
    unfold F_Chk_law
    rw [dK_64 hL0, e]
    rfl
  have c2 : ∀ k g, k < 2 → ¬ cdI k = 0 → F_SG_law 64 (xs (i + 1)) (jz_I h I) = some (.inr k, g) → F_Chk_law 64 (xs (i + 1)) 717 (jz_I h I) = some (nI (cdI k), g) := fun k g hk hk0 e => by
    unfold F_Chk_law
    rw [dK_64 hL0, e]
    rcases (show k = 0 ∨ k = 1 by omega) with rfl | rfl
    · exact absurd rfl hk0
    · rfl
  obtain ⟨v2, v5, h1, I1, I2, A', e1, hO, ⟨t, u, l, m, b, c, hL1⟩, e2, e3, e4, hX'⟩ := x_one (Chk := fun g => F_Chk_law 64 (xs (i + 1)) 717 g) (f := fun v => v.toInt64) hX (x_lawC hX.1 (xs (i + 1))) c1 c2 cdI_2
  have e1 : F_Chk_law 64 (xs (i + 1)) 717 (jz_I h I) = some (v2, jz_I h1 I1) := e1
  have e2 : F_Mod_law 205 (xs (i + 1)) (jz_I h1 I1) = some (v5, jz_I h1 I2) := e2
  unfold F_Chk_law2_b341
  simp only [rd_1 hO0 hi hL, e1, kq_bi, rd_1 hO hi hL, dK_205 hL1, e2]
  have key := x_tl (P := P) (kk := fun g => k23 63 64 205 717 (nI i + (6 : Int32)) g) (E := fun g => jf_rz (0 : Int32) (some ((0 : Int32), g))) hX' e3 e4 (hK _ _ _ hX')
  rw [dK_205 hL1] at key
  exact key
theorem bk_work (hX : jInv L xs S N A h I) (hL : L ≤ 3072) (hi : i + 6 ≤ L) (hK : ∀ h' I' A', jInv L xs S (N + 1) A' h' I' → jW (k23 63 64 205 717 (nI i + (6 : Int32)) (jz_I h' I')) P) : jW (F_Chk_law2_b397 k23 63 64 205 717 (nI i) (jz_I h I)) P := by
  obtain ⟨t0, u0, l0, m0, b0, c0, hL0, -⟩ := hX.2.2.2
  have hO0 := hX.2.2.1
  have c1 : ∀ x g, F_SG_work 64 (xs (i + 1)) (jz_I h I) = some (jo_i (x, g)) → F_Chk_work 64 (xs (i + 1)) 717 (jz_I h I) = jf_ls g 717 (0 : Int32) x.toInt64 (fun h3 => some ((0 : Int32), h3)) := fun x g e => by
    unfold F_Chk_work
    rw [dK_64 hL0, e]
    rfl
  have c2 : ∀ k g, k < 2 → ¬ cdI k = 0 → F_SG_work 64 (xs (i + 1)) (jz_I h I) = some (.inr k, g) → F_Chk_work 64 (xs (i + 1)) 717 (jz_I h I) = some (nI (cdI k), g) := fun k g hk hk0 e => by
    unfold F_Chk_work
    rw [dK_64 hL0, e]
    rcases (show k = 0 ∨ k = 1 by omega) with rfl | rfl
    · exact absurd rfl hk0
    · rfl
  obtain ⟨v2, v5, h1, I1, I2, A', e1, hO, ⟨t, u, l, m, b, c, hL1⟩, e2, e3, e4, hX'⟩ := x_one (Chk := fun g => F_Chk_work 64 (xs (i + 1)) 717 g) (f := fun v => v.toInt64) hX (x_workC hX.1 (xs (i + 1))) c1 c2 cdI_2
  have e1 : F_Chk_work 64 (xs (i + 1)) 717 (jz_I h I) = some (v2, jz_I h1 I1) := e1
  have e2 : F_Mod_work 205 (xs (i + 1)) (jz_I h1 I1) = some (v5, jz_I h1 I2) := e2
  unfold F_Chk_law2_b397
  simp only [rd_1 hO0 hi hL, e1, kq_bi, rd_1 hO hi hL, dK_205 hL1, e2]
  have key := x_tl (P := P) (kk := fun g => k23 63 64 205 717 (nI i + (6 : Int32)) g) (E := fun g => jf_rz (0 : Int32) (some ((0 : Int32), g))) hX' e3 e4 (hK _ _ _ hX')
  rw [dK_205 hL1] at key
  exact key
theorem bk_book (hX : jInv L xs S N A h I) (hL : L ≤ 3072) (hi : i + 6 ≤ L) (hK : ∀ h' I' A', jInv L xs S (N + 1) A' h' I' → jW (k23 63 64 205 717 (nI i + (6 : Int32)) (jz_I h' I')) P) : jW (F_Chk_law2_b453 k23 63 64 205 717 (nI i) (jz_I h I)) P := by
  obtain ⟨t0, u0, l0, m0, b0, c0, hL0, -⟩ := hX.2.2.2
  have hO0 := hX.2.2.1
  have c1 : ∀ x g, F_SG_book 64 (xs (i + 1)) (jz_I h I) = some (jo_i (x, g)) → F_Chk_book 64 (xs (i + 1)) 717 (jz_I h I) = jf_ls g 717 (0 : Int32) x.toInt64 (fun h3 => some ((0 : Int32), h3)) := fun x g e => by
    unfold F_Chk_book
    rw [dK_64 hL0, e]
    rfl
  have c2 : ∀ k g, k < 2 → ¬ cdI k = 0 → F_SG_book 64 (xs (i + 1)) (jz_I h I) = some (.inr k, g) → F_Chk_book 64 (xs (i + 1)) 717 (jz_I h I) = some (nI (cdI k), g) := fun k g hk hk0 e => by
    unfold F_Chk_book
    rw [dK_64 hL0, e]
    rcases (show k = 0 ∨ k = 1 by omega) with rfl | rfl
    · exact absurd rfl hk0
    · rfl
  obtain ⟨v2, v5, h1, I1, I2, A', e1, hO, ⟨t, u, l, m, b, c, hL1⟩, e2, e3, e4, hX'⟩ := x_one (Chk := fun g => F_Chk_book 64 (xs (i + 1)) 717 g) (f := fun v => v.toInt64) hX (x_bookC hX.1 (xs (i + 1))) c1 c2 cdI_2
  have e1 : F_Chk_book 64 (xs (i + 1)) 717 (jz_I h I) = some (v2, jz_I h1 I1) := e1
  have e2 : F_Mod_book 205 (xs (i + 1)) (jz_I h1 I1) = some (v5, jz_I h1 I2) := e2
  unfold F_Chk_law2_b453
  simp only [rd_1 hO0 hi hL, e1, kq_bi, rd_1 hO hi hL, dK_205 hL1, e2]
  have key := x_tl (P := P) (kk := fun g => k23 63 64 205 717 (nI i + (6 : Int32)) g) (E := fun g => jf_rz (0 : Int32) (some ((0 : Int32), g))) hX' e3 e4 (hK _ _ _ hX')
  rw [dK_205 hL1] at key
  exact key
theorem bk_fault (hX : jInv L xs S N A h I) (hL : L ≤ 3072) (hi : i + 6 ≤ L) (hK : ∀ h' I' A', jInv L xs S (N + 1) A' h' I' → jW (k23 63 64 205 717 (nI i + (6 : Int32)) (jz_I h' I')) P) : jW (F_Chk_law2_b509 k23 63 64 205 717 (nI i) (jz_I h I)) P := by
  obtain ⟨t0, u0, l0, m0, b0, c0, hL0, -⟩ := hX.2.2.2
  obtain ⟨v, I1, I2, A', e1, hO, e2, hX'⟩ := x_oneN hX (x_fault hX.1)
  have e1 : F_SG_fault 64 (jz_I h I) = some (v, jz_I h I1) := e1
  have e2 : F_Mod_fault 205 (jz_I h I1) = some (v, jz_I h I2) := e2
  unfold F_Chk_law2_b509
  simp only [dK_64 hL0, e1, kq_bi, dK_205 hL0, e2, if_true]
  exact hK _ _ _ hX'
theorem bk_undo (hX : jInv L xs S N A h I) (hL : L ≤ 3072) (hi : i + 6 ≤ L) (hK : ∀ h' I' A', jInv L xs S (N + 1) A' h' I' → jW (k23 63 64 205 717 (nI i + (6 : Int32)) (jz_I h' I')) P) : jW (F_Chk_law2_b522 k23 63 64 205 717 (nI i) (jz_I h I)) P := by
  obtain ⟨t0, u0, l0, m0, b0, c0, hL0, -⟩ := hX.2.2.2
  obtain ⟨v, I1, I2, A', e1, hO, e2, hX'⟩ := x_oneN hX (x_undo hX.1)
  have e1 : F_SG_undo 64 (jz_I h I) = some (v, jz_I h I1) := e1
  have e2 : F_Mod_undo 205 (jz_I h I1) = some (v, jz_I h I2) := e2
  unfold F_Chk_law2_b522
  simp only [dK_64 hL0, e1, kq_bi, dK_205 hL0, e2, if_true]
  exact hK _ _ _ hX'
theorem bk_told (hX : jInv L xs S N A h I) (hL : L ≤ 3072) (hi : i + 6 ≤ L) (hK : ∀ h' I' A', jInv L xs S (N + 1) A' h' I' → jW (k23 63 64 205 717 (nI i + (6 : Int32)) (jz_I h' I')) P) : jW (F_Chk_law2_b535 k23 63 64 205 717 (nI i) (jz_I h I)) P := by
  obtain ⟨t0, u0, l0, m0, b0, c0, hL0, -⟩ := hX.2.2.2
  have hO0 := hX.2.2.1
  have c1 : ∀ x g, F_SG_told 64 (xs (i + 1)) (jz_I h I) = some (jo_i (x, g)) → F_Chk_told 64 (xs (i + 1)) 717 (jz_I h I) = jf_ls g 717 (0 : Int32) x.toInt64 (fun h3 => some ((0 : Int32), h3)) := fun x g e => by
    unfold F_Chk_told
    rw [dK_64 hL0, e]
    rfl
  have c2 : ∀ k g, k < 2 → ¬ cdI k = 0 → F_SG_told 64 (xs (i + 1)) (jz_I h I) = some (.inr k, g) → F_Chk_told 64 (xs (i + 1)) 717 (jz_I h I) = some (nI (cdI k), g) := fun k g hk hk0 e => by
    unfold F_Chk_told
    rw [dK_64 hL0, e]
    rcases (show k = 0 ∨ k = 1 by omega) with rfl | rfl
    · exact absurd rfl hk0
    · rfl
  obtain ⟨v2, v5, h1, I1, I2, A', e1, hO, ⟨t, u, l, m, b, c, hL1⟩, e2, e3, e4, hX'⟩ := x_one (Chk := fun g => F_Chk_told 64 (xs (i + 1)) 717 g) (f := fun v => v.toInt64) hX (x_told hX.1 (xs (i + 1))) c1 c2 cdI_2
  have e1 : F_Chk_told 64 (xs (i + 1)) 717 (jz_I h I) = some (v2, jz_I h1 I1) := e1
  have e2 : F_Mod_told 205 (xs (i + 1)) (jz_I h1 I1) = some (v5, jz_I h1 I2) := e2
  unfold F_Chk_law2_b535
  simp only [rd_1 hO0 hi hL, e1, kq_bi, rd_1 hO hi hL, dK_205 hL1, e2]
  have key := x_tl (P := P) (kk := fun g => k23 63 64 205 717 (nI i + (6 : Int32)) g) (E := fun g => jf_rz (0 : Int32) (some ((0 : Int32), g))) hX' e3 e4 (hK _ _ _ hX')
  rw [dK_205 hL1] at key
  exact key
theorem bk_gate (hX : jInv L xs S N A h I) (hL : L ≤ 3072) (hi : i + 6 ≤ L) (hK : ∀ h' I' A', jInv L xs S (N + 1) A' h' I' → jW (k23 63 64 205 717 (nI i + (6 : Int32)) (jz_I h' I')) P) : jW (F_Chk_law2_b591 k23 63 64 205 717 (nI i) (jz_I h I)) P := by
  obtain ⟨t0, u0, l0, m0, b0, c0, hL0, -⟩ := hX.2.2.2
  have hO0 := hX.2.2.1
  have c1 : ∀ x g, F_SG_gate 64 (xs (i + 1)) (xs (i + 2)) (jz_I h I) = some (jo_i (x, g)) → F_Chk_gate 64 (xs (i + 1)) (xs (i + 2)) 717 (jz_I h I) = jf_ls g 717 (0 : Int32) x.toInt64 (fun h3 => some ((0 : Int32), h3)) := fun x g e => by
    unfold F_Chk_gate
    rw [dK_64 hL0, e]
    rfl
  have c2 : ∀ k g, k < 2 → ¬ cdB k = 0 → F_SG_gate 64 (xs (i + 1)) (xs (i + 2)) (jz_I h I) = some (.inr k, g) → F_Chk_gate 64 (xs (i + 1)) (xs (i + 2)) 717 (jz_I h I) = some (nI (cdB k), g) := fun k g hk hk0 e => by
    unfold F_Chk_gate
    rw [dK_64 hL0, e]
    rcases (show k = 0 ∨ k = 1 by omega) with rfl | rfl
    · rfl
    · rfl
  obtain ⟨v2, v5, h1, I1, I2, A', e1, hO, ⟨t, u, l, m, b, c, hL1⟩, e2, e3, e4, hX'⟩ := x_one (Chk := fun g => F_Chk_gate 64 (xs (i + 1)) (xs (i + 2)) 717 g) (f := fun v => v.toInt64) hX (x_gate hX.1 (xs (i + 1)) (xs (i + 2))) c1 c2 cdB_2
  have e1 : F_Chk_gate 64 (xs (i + 1)) (xs (i + 2)) 717 (jz_I h I) = some (v2, jz_I h1 I1) := e1
  have e2 : F_Mod_gate 205 (xs (i + 1)) (xs (i + 2)) (jz_I h1 I1) = some (v5, jz_I h1 I2) := e2
  unfold F_Chk_law2_b591
  simp only [rd_1 hO0 hi hL, rd_2 hO0 hi hL, e1, kq_bi, rd_1 hO hi hL, rd_2 hO hi hL, dK_205 hL1, e2]
  have key := x_tl (P := P) (kk := fun g => k23 63 64 205 717 (nI i + (6 : Int32)) g) (E := fun g => jf_rz (0 : Int32) (some ((0 : Int32), g))) hX' e3 e4 (hK _ _ _ hX')
  rw [dK_205 hL1] at key
  exact key
theorem bk_wood (hX : jInv L xs S N A h I) (hL : L ≤ 3072) (hi : i + 6 ≤ L) (hK : ∀ h' I' A', jInv L xs S (N + 1) A' h' I' → jW (k23 63 64 205 717 (nI i + (6 : Int32)) (jz_I h' I')) P) : jW (F_Chk_law2_b659 k23 63 64 205 717 (nI i) (jz_I h I)) P := by
  obtain ⟨t0, u0, l0, m0, b0, c0, hL0, -⟩ := hX.2.2.2
  have hO0 := hX.2.2.1
  have c1 : ∀ x g, F_SG_wood 64 (xs (i + 1)) (xs (i + 2)) (jz_I h I) = some (jo_i (x, g)) → F_Chk_wood 64 (xs (i + 1)) (xs (i + 2)) 717 (jz_I h I) = jf_ls g 717 (0 : Int32) x.toInt64 (fun h3 => some ((0 : Int32), h3)) := fun x g e => by
    unfold F_Chk_wood
    rw [dK_64 hL0, e]
    rfl
  have c2 : ∀ k g, k < 2 → ¬ cdB k = 0 → F_SG_wood 64 (xs (i + 1)) (xs (i + 2)) (jz_I h I) = some (.inr k, g) → F_Chk_wood 64 (xs (i + 1)) (xs (i + 2)) 717 (jz_I h I) = some (nI (cdB k), g) := fun k g hk hk0 e => by
    unfold F_Chk_wood
    rw [dK_64 hL0, e]
    rcases (show k = 0 ∨ k = 1 by omega) with rfl | rfl
    · rfl
    · rfl
  obtain ⟨v2, v5, h1, I1, I2, A', e1, hO, ⟨t, u, l, m, b, c, hL1⟩, e2, e3, e4, hX'⟩ := x_one (Chk := fun g => F_Chk_wood 64 (xs (i + 1)) (xs (i + 2)) 717 g) (f := fun v => v.toInt64) hX (x_wood hX.1 (xs (i + 1)) (xs (i + 2))) c1 c2 cdB_2
  have e1 : F_Chk_wood 64 (xs (i + 1)) (xs (i + 2)) 717 (jz_I h I) = some (v2, jz_I h1 I1) := e1
  have e2 : F_Mod_wood 205 (xs (i + 1)) (xs (i + 2)) (jz_I h1 I1) = some (v5, jz_I h1 I2) := e2
  unfold F_Chk_law2_b659
  simp only [rd_1 hO0 hi hL, rd_2 hO0 hi hL, e1, kq_bi, rd_1 hO hi hL, rd_2 hO hi hL, dK_205 hL1, e2]
  have key := x_tl (P := P) (kk := fun g => k23 63 64 205 717 (nI i + (6 : Int32)) g) (E := fun g => jf_rz (0 : Int32) (some ((0 : Int32), g))) hX' e3 e4 (hK _ _ _ hX')
  rw [dK_205 hL1] at key
  exact key
theorem bk_comer (hX : jInv L xs S N A h I) (hL : L ≤ 3072) (hi : i + 6 ≤ L) (hK : ∀ h' I' A', jInv L xs S (N + 1) A' h' I' → jW (k23 63 64 205 717 (nI i + (6 : Int32)) (jz_I h' I')) P) : jW (F_Chk_law2_b727 k23 63 64 205 717 (nI i) (jz_I h I)) P := by
  obtain ⟨t0, u0, l0, m0, b0, c0, hL0, -⟩ := hX.2.2.2
  have hO0 := hX.2.2.1
  have c1 : ∀ x g, F_SG_comer 64 (xs (i + 1)) (xs (i + 2)) (jz_I h I) = some (jo_i (x, g)) → F_Chk_comer 64 (xs (i + 1)) (xs (i + 2)) 717 (jz_I h I) = jf_ls g 717 (0 : Int32) x.toInt64 (fun h3 => some ((0 : Int32), h3)) := fun x g e => by
    unfold F_Chk_comer
    rw [dK_64 hL0, e]
    rfl
  have c2 : ∀ k g, k < 2 → ¬ cdB k = 0 → F_SG_comer 64 (xs (i + 1)) (xs (i + 2)) (jz_I h I) = some (.inr k, g) → F_Chk_comer 64 (xs (i + 1)) (xs (i + 2)) 717 (jz_I h I) = some (nI (cdB k), g) := fun k g hk hk0 e => by
    unfold F_Chk_comer
    rw [dK_64 hL0, e]
    rcases (show k = 0 ∨ k = 1 by omega) with rfl | rfl
    · rfl
    · rfl
  obtain ⟨v2, v5, h1, I1, I2, A', e1, hO, ⟨t, u, l, m, b, c, hL1⟩, e2, e3, e4, hX'⟩ := x_one (Chk := fun g => F_Chk_comer 64 (xs (i + 1)) (xs (i + 2)) 717 g) (f := fun v => v.toInt64) hX (x_comer hX.1 (xs (i + 1)) (xs (i + 2))) c1 c2 cdB_2
  have e1 : F_Chk_comer 64 (xs (i + 1)) (xs (i + 2)) 717 (jz_I h I) = some (v2, jz_I h1 I1) := e1
  have e2 : F_Mod_comer 205 (xs (i + 1)) (xs (i + 2)) (jz_I h1 I1) = some (v5, jz_I h1 I2) := e2
  unfold F_Chk_law2_b727
  simp only [rd_1 hO0 hi hL, rd_2 hO0 hi hL, e1, kq_bi, rd_1 hO hi hL, rd_2 hO hi hL, dK_205 hL1, e2]
  have key := x_tl (P := P) (kk := fun g => k23 63 64 205 717 (nI i + (6 : Int32)) g) (E := fun g => jf_rz (0 : Int32) (some ((0 : Int32), g))) hX' e3 e4 (hK _ _ _ hX')
  rw [dK_205 hL1] at key
  exact key
theorem bk_log (hX : jInv L xs S N A h I) (hL : L ≤ 3072) (hi : i + 6 ≤ L) (hK : ∀ h' I' A', jInv L xs S (N + 1) A' h' I' → jW (k23 63 64 205 717 (nI i + (6 : Int32)) (jz_I h' I')) P) : jW (F_Chk_law2_b795 k23 63 64 205 717 (nI i) (jz_I h I)) P := by
  obtain ⟨t0, u0, l0, m0, b0, c0, hL0, -⟩ := hX.2.2.2
  have hO0 := hX.2.2.1
  have c1 : ∀ x g, F_SG_log 64 (xs (i + 1)) (xs (i + 2)) (xs (i + 3)) (jz_I h I) = some (jo_i (x, g)) → F_Chk_log 64 (xs (i + 1)) (xs (i + 2)) (xs (i + 3)) 717 (jz_I h I) = jf_ls g 717 (0 : Int32) x.toInt64 (fun h3 => some ((0 : Int32), h3)) := fun x g e => by
    unfold F_Chk_log
    rw [dK_64 hL0, e]
    rfl
  have c2 : ∀ k g, k < 2 → ¬ cdB k = 0 → F_SG_log 64 (xs (i + 1)) (xs (i + 2)) (xs (i + 3)) (jz_I h I) = some (.inr k, g) → F_Chk_log 64 (xs (i + 1)) (xs (i + 2)) (xs (i + 3)) 717 (jz_I h I) = some (nI (cdB k), g) := fun k g hk hk0 e => by
    unfold F_Chk_log
    rw [dK_64 hL0, e]
    rcases (show k = 0 ∨ k = 1 by omega) with rfl | rfl
    · rfl
    · rfl
  obtain ⟨v2, v5, h1, I1, I2, A', e1, hO, ⟨t, u, l, m, b, c, hL1⟩, e2, e3, e4, hX'⟩ := x_one (Chk := fun g => F_Chk_log 64 (xs (i + 1)) (xs (i + 2)) (xs (i + 3)) 717 g) (f := fun v => v.toInt64) hX (x_log hX.1 (xs (i + 1)) (xs (i + 2)) (xs (i + 3))) c1 c2 cdB_2
  have e1 : F_Chk_log 64 (xs (i + 1)) (xs (i + 2)) (xs (i + 3)) 717 (jz_I h I) = some (v2, jz_I h1 I1) := e1
  have e2 : F_Mod_log 205 (xs (i + 1)) (xs (i + 2)) (xs (i + 3)) (jz_I h1 I1) = some (v5, jz_I h1 I2) := e2
  unfold F_Chk_law2_b795
  simp only [rd_1 hO0 hi hL, rd_2 hO0 hi hL, rd_3 hO0 hi hL, e1, kq_bi, rd_1 hO hi hL, rd_2 hO hi hL, rd_3 hO hi hL, dK_205 hL1, e2]
  have key := x_tl (P := P) (kk := fun g => k23 63 64 205 717 (nI i + (6 : Int32)) g) (E := fun g => jf_rz (0 : Int32) (some ((0 : Int32), g))) hX' e3 e4 (hK _ _ _ hX')
  rw [dK_205 hL1] at key
  exact key
theorem bk_would (hX : jInv L xs S N A h I) (hL : L ≤ 3072) (hi : i + 6 ≤ L) (hK : ∀ h' I' A', jInv L xs S (N + 1) A' h' I' → jW (k23 63 64 205 717 (nI i + (6 : Int32)) (jz_I h' I')) P) : jW (F_Chk_law2_b875 k23 63 64 205 717 (nI i) (jz_I h I)) P := by
  obtain ⟨t0, u0, l0, m0, b0, c0, hL0, -⟩ := hX.2.2.2
  have hO0 := hX.2.2.1
  have c1 : ∀ x g, F_SG_would 64 (xs (i + 1)) (xs (i + 2)) (xs (i + 3)) (jz_I h I) = some (jo_i (x, g)) → F_Chk_would 64 (xs (i + 1)) (xs (i + 2)) (xs (i + 3)) 717 (jz_I h I) = jf_ls g 717 (0 : Int32) (if x = 0 then (0 : Int64) else (1 : Int64)) (fun h3 => some ((0 : Int32), h3)) := fun x g e => by
    unfold F_Chk_would
    rw [dK_64 hL0, e]
    show (if x = 0 then _ else _) = jf_ls g 717 (0 : Int32) (if x = 0 then (0 : Int64) else (1 : Int64)) _
    split <;> rfl
  have c2 : ∀ k g, k < 2 → ¬ cdB k = 0 → F_SG_would 64 (xs (i + 1)) (xs (i + 2)) (xs (i + 3)) (jz_I h I) = some (.inr k, g) → F_Chk_would 64 (xs (i + 1)) (xs (i + 2)) (xs (i + 3)) 717 (jz_I h I) = some (nI (cdB k), g) := fun k g hk hk0 e => by
    unfold F_Chk_would
    rw [dK_64 hL0, e]
    rcases (show k = 0 ∨ k = 1 by omega) with rfl | rfl
    · rfl
    · rfl
  obtain ⟨v2, v5, h1, I1, I2, A', e1, hO, ⟨t, u, l, m, b, c, hL1⟩, e2, e3, e4, hX'⟩ := x_one (Chk := fun g => F_Chk_would 64 (xs (i + 1)) (xs (i + 2)) (xs (i + 3)) 717 g) (f := fun v => if v = 0 then (0 : Int64) else (1 : Int64)) hX (x_would hX.1 (xs (i + 1)) (xs (i + 2)) (xs (i + 3))) c1 c2 cdB_2
  have e1 : F_Chk_would 64 (xs (i + 1)) (xs (i + 2)) (xs (i + 3)) 717 (jz_I h I) = some (v2, jz_I h1 I1) := e1
  have e2 : F_Mod_would 205 (xs (i + 1)) (xs (i + 2)) (xs (i + 3)) (jz_I h1 I1) = some (v5, jz_I h1 I2) := e2
  unfold F_Chk_law2_b875
  simp only [rd_1 hO0 hi hL, rd_2 hO0 hi hL, rd_3 hO0 hi hL, e1, kq_bi, rd_1 hO hi hL, rd_2 hO hi hL, rd_3 hO hi hL, dK_205 hL1, e2]
  have key := x_tl (P := P) (kk := fun g => k23 63 64 205 717 (nI i + (6 : Int32)) g) (E := fun g => jf_rz (0 : Int32) (some ((0 : Int32), g))) hX' e3 e4 (hK _ _ _ hX')
  rw [dK_205 hL1] at key
  by_cases z : v5 = 0
  · simp only [if_pos z] at key ⊢
    exact key
  · simp only [if_neg z] at key ⊢
    exact key
theorem bk_when (hX : jInv L xs S N A h I) (hL : L ≤ 3072) (hi : i + 6 ≤ L) (hK : ∀ h' I' A', jInv L xs S (N + 1) A' h' I' → jW (k23 63 64 205 717 (nI i + (6 : Int32)) (jz_I h' I')) P) : jW (F_Chk_law2_b962 k23 63 64 205 717 (nI i) (jz_I h I)) P := by
  obtain ⟨t0, u0, l0, m0, b0, c0, hL0, -⟩ := hX.2.2.2
  have hO0 := hX.2.2.1
  have c1 : ∀ x g, F_SG_when 64 (xs (i + 1)) (xs (i + 2)) (jz_I h I) = some (jo_i (x, g)) → F_Chk_when 64 (xs (i + 1)) (xs (i + 2)) 717 (jz_I h I) = jf_ls g 717 (0 : Int32) x.toInt64 (fun h3 => some ((0 : Int32), h3)) := fun x g e => by
    unfold F_Chk_when
    rw [dK_64 hL0, e]
    rfl
  have c2 : ∀ k g, k < 2 → ¬ cdB k = 0 → F_SG_when 64 (xs (i + 1)) (xs (i + 2)) (jz_I h I) = some (.inr k, g) → F_Chk_when 64 (xs (i + 1)) (xs (i + 2)) 717 (jz_I h I) = some (nI (cdB k), g) := fun k g hk hk0 e => by
    unfold F_Chk_when
    rw [dK_64 hL0, e]
    rcases (show k = 0 ∨ k = 1 by omega) with rfl | rfl
    · rfl
    · rfl
  obtain ⟨v2, v5, h1, I1, I2, A', e1, hO, ⟨t, u, l, m, b, c, hL1⟩, e2, e3, e4, hX'⟩ := x_one (Chk := fun g => F_Chk_when 64 (xs (i + 1)) (xs (i + 2)) 717 g) (f := fun v => v.toInt64) hX (x_when hX.1 (xs (i + 1)) (xs (i + 2))) c1 c2 cdB_2
  have e1 : F_Chk_when 64 (xs (i + 1)) (xs (i + 2)) 717 (jz_I h I) = some (v2, jz_I h1 I1) := e1
  have e2 : F_Mod_when 205 (xs (i + 1)) (xs (i + 2)) (jz_I h1 I1) = some (v5, jz_I h1 I2) := e2
  unfold F_Chk_law2_b962
  simp only [rd_1 hO0 hi hL, rd_2 hO0 hi hL, e1, kq_bi, rd_1 hO hi hL, rd_2 hO hi hL, dK_205 hL1, e2]
  have key := x_tl (P := P) (kk := fun g => k23 63 64 205 717 (nI i + (6 : Int32)) g) (E := fun g => jf_rz (0 : Int32) (some ((0 : Int32), g))) hX' e3 e4 (hK _ _ _ hX')
  rw [dK_205 hL1] at key
  exact key
theorem bk_shut (hX : jInv L xs S N A h I) (hL : L ≤ 3072) (hi : i + 6 ≤ L) (hK : ∀ h' I' A', jInv L xs S (N + 1) A' h' I' → jW (k23 63 64 205 717 (nI i + (6 : Int32)) (jz_I h' I')) P) : jW (F_Chk_law2_b1030 k23 63 64 205 717 (nI i) (jz_I h I)) P := by
  obtain ⟨t0, u0, l0, m0, b0, c0, hL0, -⟩ := hX.2.2.2
  have hO0 := hX.2.2.1
  have c1 : ∀ x g, F_SG_shut 64 (xs (i + 1)) (xs (i + 2)) (jz_I h I) = some (jo_i (x, g)) → F_Chk_shut 64 (xs (i + 1)) (xs (i + 2)) 717 (jz_I h I) = jf_ls g 717 (0 : Int32) x.toInt64 (fun h3 => some ((0 : Int32), h3)) := fun x g e => by
    unfold F_Chk_shut
    rw [dK_64 hL0, e]
    rfl
  have c2 : ∀ k g, k < 2 → ¬ cdB k = 0 → F_SG_shut 64 (xs (i + 1)) (xs (i + 2)) (jz_I h I) = some (.inr k, g) → F_Chk_shut 64 (xs (i + 1)) (xs (i + 2)) 717 (jz_I h I) = some (nI (cdB k), g) := fun k g hk hk0 e => by
    unfold F_Chk_shut
    rw [dK_64 hL0, e]
    rcases (show k = 0 ∨ k = 1 by omega) with rfl | rfl
    · rfl
    · rfl
  obtain ⟨v2, v5, h1, I1, I2, A', e1, hO, ⟨t, u, l, m, b, c, hL1⟩, e2, e3, e4, hX'⟩ := x_one (Chk := fun g => F_Chk_shut 64 (xs (i + 1)) (xs (i + 2)) 717 g) (f := fun v => v.toInt64) hX (x_shut hX.1 (xs (i + 1)) (xs (i + 2))) c1 c2 cdB_2
  have e1 : F_Chk_shut 64 (xs (i + 1)) (xs (i + 2)) 717 (jz_I h I) = some (v2, jz_I h1 I1) := e1
  have e2 : F_Mod_shut 205 (xs (i + 1)) (xs (i + 2)) (jz_I h1 I1) = some (v5, jz_I h1 I2) := e2
  unfold F_Chk_law2_b1030
  simp only [rd_1 hO0 hi hL, rd_2 hO0 hi hL, e1, kq_bi, rd_1 hO hi hL, rd_2 hO hi hL, dK_205 hL1, e2]
  have key := x_tl (P := P) (kk := fun g => k23 63 64 205 717 (nI i + (6 : Int32)) g) (E := fun g => jf_rz (0 : Int32) (some ((0 : Int32), g))) hX' e3 e4 (hK _ _ _ hX')
  rw [dK_205 hL1] at key
  exact key
theorem bk_keeps (hX : jInv L xs S N A h I) (hL : L ≤ 3072) (hi : i + 6 ≤ L) (hK : ∀ h' I' A', jInv L xs S (N + 1) A' h' I' → jW (k23 63 64 205 717 (nI i + (6 : Int32)) (jz_I h' I')) P) : jW (F_Chk_law2_b1098 k23 63 64 205 717 (nI i) (jz_I h I)) P := by
  obtain ⟨t0, u0, l0, m0, b0, c0, hL0, -⟩ := hX.2.2.2
  have hO0 := hX.2.2.1
  have c1 : ∀ x g, F_SG_keeps 64 (xs (i + 1)) (xs (i + 2)) (xs (i + 3)) (xs (i + 4)) (xs (i + 5)) (jz_I h I) = some (jo_i (x, g)) → F_Chk_keeps 64 (xs (i + 1)) (xs (i + 2)) (xs (i + 3)) (xs (i + 4)) (xs (i + 5)) 717 (jz_I h I) = jf_ls g 717 (0 : Int32) x.toInt64 (fun h3 => some ((0 : Int32), h3)) := fun x g e => by
    unfold F_Chk_keeps
    rw [dK_64 hL0, e]
    rfl
  have c2 : ∀ k g, k < 2 → ¬ cdB k = 0 → F_SG_keeps 64 (xs (i + 1)) (xs (i + 2)) (xs (i + 3)) (xs (i + 4)) (xs (i + 5)) (jz_I h I) = some (.inr k, g) → F_Chk_keeps 64 (xs (i + 1)) (xs (i + 2)) (xs (i + 3)) (xs (i + 4)) (xs (i + 5)) 717 (jz_I h I) = some (nI (cdB k), g) := fun k g hk hk0 e => by
    unfold F_Chk_keeps
    rw [dK_64 hL0, e]
    rcases (show k = 0 ∨ k = 1 by omega) with rfl | rfl
    · rfl
    · rfl
  obtain ⟨v2, v5, h1, I1, I2, A', e1, hO, ⟨t, u, l, m, b, c, hL1⟩, e2, e3, e4, hX'⟩ := x_one (Chk := fun g => F_Chk_keeps 64 (xs (i + 1)) (xs (i + 2)) (xs (i + 3)) (xs (i + 4)) (xs (i + 5)) 717 g) (f := fun v => v.toInt64) hX (x_keeps hX.1 (xs (i + 1)) (xs (i + 2)) (xs (i + 3)) (xs (i + 4)) (xs (i + 5))) c1 c2 cdB_2
  have e1 : F_Chk_keeps 64 (xs (i + 1)) (xs (i + 2)) (xs (i + 3)) (xs (i + 4)) (xs (i + 5)) 717 (jz_I h I) = some (v2, jz_I h1 I1) := e1
  have e2 : F_Mod_keeps 205 (xs (i + 1)) (xs (i + 2)) (xs (i + 3)) (xs (i + 4)) (xs (i + 5)) (jz_I h1 I1) = some (v5, jz_I h1 I2) := e2
  unfold F_Chk_law2_b1098
  simp only [rd_1 hO0 hi hL, rd_2 hO0 hi hL, rd_3 hO0 hi hL, rd_4 hO0 hi hL, rd_5 hO0 hi hL, e1, kq_bi, rd_1 hO hi hL, rd_2 hO hi hL, rd_3 hO hi hL, rd_4 hO hi hL, rd_5 hO hi hL, dK_205 hL1, e2]
  have key := x_tl (P := P) (kk := fun g => k23 63 64 205 717 (nI i + (6 : Int32)) g) (E := fun g => jf_rz (0 : Int32) (some ((0 : Int32), g))) hX' e3 e4 (hK _ _ _ hX')
  rw [dK_205 hL1] at key
  exact key
theorem bk_thief (hX : jInv L xs S N A h I) (hL : L ≤ 3072) (hi : i + 6 ≤ L) (hK : ∀ h' I' A', jInv L xs S (N + 1) A' h' I' → jW (k23 63 64 205 717 (nI i + (6 : Int32)) (jz_I h' I')) P) : jW (F_Chk_law2_b1202 k23 63 64 205 717 (nI i) (jz_I h I)) P := by
  obtain ⟨t0, u0, l0, m0, b0, c0, hL0, -⟩ := hX.2.2.2
  have hO0 := hX.2.2.1
  have c1 : ∀ x g, F_SG_thief 64 (xs (i + 1)) (xs (i + 2)) (jz_I h I) = some (jo_i (x, g)) → F_Chk_thief 64 (xs (i + 1)) (xs (i + 2)) 717 (jz_I h I) = jf_ls g 717 (0 : Int32) x.toInt64 (fun h3 => some ((0 : Int32), h3)) := fun x g e => by
    unfold F_Chk_thief
    rw [dK_64 hL0, e]
    rfl
  have c2 : ∀ k g, k < 2 → ¬ cdB k = 0 → F_SG_thief 64 (xs (i + 1)) (xs (i + 2)) (jz_I h I) = some (.inr k, g) → F_Chk_thief 64 (xs (i + 1)) (xs (i + 2)) 717 (jz_I h I) = some (nI (cdB k), g) := fun k g hk hk0 e => by
    unfold F_Chk_thief
    rw [dK_64 hL0, e]
    rcases (show k = 0 ∨ k = 1 by omega) with rfl | rfl
    · rfl
    · rfl
  obtain ⟨v2, v5, h1, I1, I2, A', e1, hO, ⟨t, u, l, m, b, c, hL1⟩, e2, e3, e4, hX'⟩ := x_one (Chk := fun g => F_Chk_thief 64 (xs (i + 1)) (xs (i + 2)) 717 g) (f := fun v => v.toInt64) hX (x_thief hX.1 (xs (i + 1)) (xs (i + 2))) c1 c2 cdB_2
  have e1 : F_Chk_thief 64 (xs (i + 1)) (xs (i + 2)) 717 (jz_I h I) = some (v2, jz_I h1 I1) := e1
  have e2 : F_Mod_thief 205 (xs (i + 1)) (xs (i + 2)) (jz_I h1 I1) = some (v5, jz_I h1 I2) := e2
  unfold F_Chk_law2_b1202
  simp only [rd_1 hO0 hi hL, rd_2 hO0 hi hL, e1, kq_bi, rd_1 hO hi hL, rd_2 hO hi hL, dK_205 hL1, e2]
  have key := x_tl (P := P) (kk := fun g => k23 63 64 205 717 (nI i + (6 : Int32)) g) (E := fun g => jf_rz (0 : Int32) (some ((0 : Int32), g))) hX' e3 e4 (hK _ _ _ hX')
  rw [dK_205 hL1] at key
  exact key
theorem bk_guard (hX : jInv L xs S N A h I) (hL : L ≤ 3072) (hi : i + 6 ≤ L) (hK : ∀ h' I' A', jInv L xs S (N + 1) A' h' I' → jW (k23 63 64 205 717 (nI i + (6 : Int32)) (jz_I h' I')) P) : jW (F_Chk_law2_b1270 k23 63 64 205 717 (nI i) (jz_I h I)) P := by
  obtain ⟨t0, u0, l0, m0, b0, c0, hL0, -⟩ := hX.2.2.2
  have hO0 := hX.2.2.1
  have c1 : ∀ x g, F_SG_guard 64 (xs (i + 1)) (xs (i + 2)) (jz_I h I) = some (jo_i (x, g)) → F_Chk_guard 64 (xs (i + 1)) (xs (i + 2)) 717 (jz_I h I) = jf_ls g 717 (0 : Int32) x.toInt64 (fun h3 => some ((0 : Int32), h3)) := fun x g e => by
    unfold F_Chk_guard
    rw [dK_64 hL0, e]
    rfl
  have c2 : ∀ k g, k < 2 → ¬ cdI k = 0 → F_SG_guard 64 (xs (i + 1)) (xs (i + 2)) (jz_I h I) = some (.inr k, g) → F_Chk_guard 64 (xs (i + 1)) (xs (i + 2)) 717 (jz_I h I) = some (nI (cdI k), g) := fun k g hk hk0 e => by
    unfold F_Chk_guard
    rw [dK_64 hL0, e]
    rcases (show k = 0 ∨ k = 1 by omega) with rfl | rfl
    · exact absurd rfl hk0
    · rfl
  obtain ⟨v2, v5, h1, I1, I2, A', e1, hO, ⟨t, u, l, m, b, c, hL1⟩, e2, e3, e4, hX'⟩ := x_one (Chk := fun g => F_Chk_guard 64 (xs (i + 1)) (xs (i + 2)) 717 g) (f := fun v => v.toInt64) hX (x_guard hX.1 (xs (i + 1)) (xs (i + 2))) c1 c2 cdI_2
  have e1 : F_Chk_guard 64 (xs (i + 1)) (xs (i + 2)) 717 (jz_I h I) = some (v2, jz_I h1 I1) := e1
  have e2 : F_Mod_guard 205 (xs (i + 1)) (xs (i + 2)) (jz_I h1 I1) = some (v5, jz_I h1 I2) := e2
  unfold F_Chk_law2_b1270
  simp only [rd_1 hO0 hi hL, rd_2 hO0 hi hL, e1, kq_bi, rd_1 hO hi hL, rd_2 hO hi hL, dK_205 hL1, e2]
  have key := x_tl (P := P) (kk := fun g => k23 63 64 205 717 (nI i + (6 : Int32)) g) (E := fun g => jf_rz (0 : Int32) (some ((0 : Int32), g))) hX' e3 e4 (hK _ _ _ hX')
  rw [dK_205 hL1] at key
  exact key
theorem bk_lean (hX : jInv L xs S N A h I) (hL : L ≤ 3072) (hi : i + 6 ≤ L) (hK : ∀ h' I' A', jInv L xs S (N + 1) A' h' I' → jW (k23 63 64 205 717 (nI i + (6 : Int32)) (jz_I h' I')) P) : jW (F_Chk_law2_b1338 k23 63 64 205 717 (nI i) (jz_I h I)) P := by
  obtain ⟨t0, u0, l0, m0, b0, c0, hL0, -⟩ := hX.2.2.2
  have hO0 := hX.2.2.1
  have c1 : ∀ x g, F_SG_lean 64 (xs (i + 1)) (xs (i + 2)) (xs (i + 3)) (jz_I h I) = some (jo_i (x, g)) → F_Chk_lean 64 (xs (i + 1)) (xs (i + 2)) (xs (i + 3)) 717 (jz_I h I) = jf_ls g 717 (0 : Int32) x.toInt64 (fun h3 => some ((0 : Int32), h3)) := fun x g e => by
    unfold F_Chk_lean
    rw [dK_64 hL0, e]
    rfl
  have c2 : ∀ k g, k < 2 → ¬ cdB k = 0 → F_SG_lean 64 (xs (i + 1)) (xs (i + 2)) (xs (i + 3)) (jz_I h I) = some (.inr k, g) → F_Chk_lean 64 (xs (i + 1)) (xs (i + 2)) (xs (i + 3)) 717 (jz_I h I) = some (nI (cdB k), g) := fun k g hk hk0 e => by
    unfold F_Chk_lean
    rw [dK_64 hL0, e]
    rcases (show k = 0 ∨ k = 1 by omega) with rfl | rfl
    · rfl
    · rfl
  obtain ⟨v2, v5, h1, I1, I2, A', e1, hO, ⟨t, u, l, m, b, c, hL1⟩, e2, e3, e4, hX'⟩ := x_one (Chk := fun g => F_Chk_lean 64 (xs (i + 1)) (xs (i + 2)) (xs (i + 3)) 717 g) (f := fun v => v.toInt64) hX (x_lean hX.1 (xs (i + 1)) (xs (i + 2)) (xs (i + 3))) c1 c2 cdB_2
  have e1 : F_Chk_lean 64 (xs (i + 1)) (xs (i + 2)) (xs (i + 3)) 717 (jz_I h I) = some (v2, jz_I h1 I1) := e1
  have e2 : F_Mod_lean 205 (xs (i + 1)) (xs (i + 2)) (xs (i + 3)) (jz_I h1 I1) = some (v5, jz_I h1 I2) := e2
  unfold F_Chk_law2_b1338
  simp only [rd_1 hO0 hi hL, rd_2 hO0 hi hL, rd_3 hO0 hi hL, e1, kq_bi, rd_1 hO hi hL, rd_2 hO hi hL, rd_3 hO hi hL, dK_205 hL1, e2]
  have key := x_tl (P := P) (kk := fun g => k23 63 64 205 717 (nI i + (6 : Int32)) g) (E := fun g => jf_rz (0 : Int32) (some ((0 : Int32), g))) hX' e3 e4 (hK _ _ _ hX')
  rw [dK_205 hL1] at key
  exact key
theorem bk_burnt (hX : jInv L xs S N A h I) (hL : L ≤ 3072) (hi : i + 6 ≤ L) (hK : ∀ h' I' A', jInv L xs S (N + 1) A' h' I' → jW (k23 63 64 205 717 (nI i + (6 : Int32)) (jz_I h' I')) P) : jW (F_Chk_law2_b1418 k23 63 64 205 717 (nI i) (jz_I h I)) P := by
  obtain ⟨t0, u0, l0, m0, b0, c0, hL0, -⟩ := hX.2.2.2
  have hO0 := hX.2.2.1
  have c1 : ∀ x g, F_SG_burnt 64 (xs (i + 1)) (jz_I h I) = some (jo_i (x, g)) → F_Chk_burnt 64 (xs (i + 1)) 717 (jz_I h I) = jf_ls g 717 (0 : Int32) x.toInt64 (fun h3 => some ((0 : Int32), h3)) := fun x g e => by
    unfold F_Chk_burnt
    rw [dK_64 hL0, e]
    rfl
  have c2 : ∀ k g, k < 2 → ¬ cdE k = 0 → F_SG_burnt 64 (xs (i + 1)) (jz_I h I) = some (.inr k, g) → F_Chk_burnt 64 (xs (i + 1)) 717 (jz_I h I) = some (nI (cdE k), g) := fun k g hk hk0 e => by
    unfold F_Chk_burnt
    rw [dK_64 hL0, e]
    rcases (show k = 0 ∨ k = 1 by omega) with rfl | rfl
    · rfl
    · exact absurd rfl hk0
  obtain ⟨v2, v5, h1, I1, I2, A', e1, hO, ⟨t, u, l, m, b, c, hL1⟩, e2, e3, e4, hX'⟩ := x_one (Chk := fun g => F_Chk_burnt 64 (xs (i + 1)) 717 g) (f := fun v => v.toInt64) hX (x_burnt hX.1 (xs (i + 1))) c1 c2 cdE_2
  have e1 : F_Chk_burnt 64 (xs (i + 1)) 717 (jz_I h I) = some (v2, jz_I h1 I1) := e1
  have e2 : F_Mod_burnt 205 (xs (i + 1)) (jz_I h1 I1) = some (v5, jz_I h1 I2) := e2
  unfold F_Chk_law2_b1418
  simp only [rd_1 hO0 hi hL, e1, kq_bi, rd_1 hO hi hL, dK_205 hL1, e2]
  have key := x_tl (P := P) (kk := fun g => k23 63 64 205 717 (nI i + (6 : Int32)) g) (E := fun g => jf_rz (0 : Int32) (some ((0 : Int32), g))) hX' e3 e4 (hK _ _ _ hX')
  rw [dK_205 hL1] at key
  exact key
theorem bk_fits (hX : jInv L xs S N A h I) (hL : L ≤ 3072) (hi : i + 6 ≤ L) (hK : ∀ h' I' A', jInv L xs S (N + 1) A' h' I' → jW (k23 63 64 205 717 (nI i + (6 : Int32)) (jz_I h' I')) P) : jW (F_Chk_law2_b1474 k23 63 64 205 717 (nI i) (jz_I h I)) P := by
  obtain ⟨t0, u0, l0, m0, b0, c0, hL0, -⟩ := hX.2.2.2
  have hO0 := hX.2.2.1
  have c1 : ∀ x g, F_SG_fits 64 (xs (i + 1)) (jz_I h I) = some (jo_i (x, g)) → F_Chk_fits 64 (xs (i + 1)) 717 (jz_I h I) = jf_ls g 717 (0 : Int32) x.toInt64 (fun h3 => some ((0 : Int32), h3)) := fun x g e => by
    unfold F_Chk_fits
    rw [dK_64 hL0, e]
    rfl
  have c2 : ∀ k g, k < 2 → ¬ cdI k = 0 → F_SG_fits 64 (xs (i + 1)) (jz_I h I) = some (.inr k, g) → F_Chk_fits 64 (xs (i + 1)) 717 (jz_I h I) = some (nI (cdI k), g) := fun k g hk hk0 e => by
    unfold F_Chk_fits
    rw [dK_64 hL0, e]
    rcases (show k = 0 ∨ k = 1 by omega) with rfl | rfl
    · exact absurd rfl hk0
    · rfl
  obtain ⟨v2, v5, h1, I1, I2, A', e1, hO, ⟨t, u, l, m, b, c, hL1⟩, e2, e3, e4, hX'⟩ := x_one (Chk := fun g => F_Chk_fits 64 (xs (i + 1)) 717 g) (f := fun v => v.toInt64) hX (x_fits hX.1 (xs (i + 1))) c1 c2 cdI_2
  have e1 : F_Chk_fits 64 (xs (i + 1)) 717 (jz_I h I) = some (v2, jz_I h1 I1) := e1
  have e2 : F_Mod_fits 205 (xs (i + 1)) (jz_I h1 I1) = some (v5, jz_I h1 I2) := e2
  unfold F_Chk_law2_b1474
  simp only [rd_1 hO0 hi hL, e1, kq_bi, rd_1 hO hi hL, dK_205 hL1, e2]
  have key := x_tl (P := P) (kk := fun g => k23 63 64 205 717 (nI i + (6 : Int32)) g) (E := fun g => jf_rz (0 : Int32) (some ((0 : Int32), g))) hX' e3 e4 (hK _ _ _ hX')
  rw [dK_205 hL1] at key
  exact key
theorem bk_nose (hX : jInv L xs S N A h I) (hL : L ≤ 3072) (hi : i + 6 ≤ L) (hK : ∀ h' I' A', jInv L xs S (N + 1) A' h' I' → jW (k23 63 64 205 717 (nI i + (6 : Int32)) (jz_I h' I')) P) : jW (F_Chk_law2_b1530 k23 63 64 205 717 (nI i) (jz_I h I)) P := by
  obtain ⟨t0, u0, l0, m0, b0, c0, hL0, -⟩ := hX.2.2.2
  have hO0 := hX.2.2.1
  have c1 : ∀ x g, F_SG_nose 64 (xs (i + 1)) (jz_I h I) = some (jo_i (x, g)) → F_Chk_nose 64 (xs (i + 1)) 717 (jz_I h I) = jf_ls g 717 (0 : Int32) x.toInt64 (fun h3 => some ((0 : Int32), h3)) := fun x g e => by
    unfold F_Chk_nose
    rw [dK_64 hL0, e]
    rfl
  have c2 : ∀ k g, k < 2 → ¬ cdI k = 0 → F_SG_nose 64 (xs (i + 1)) (jz_I h I) = some (.inr k, g) → F_Chk_nose 64 (xs (i + 1)) 717 (jz_I h I) = some (nI (cdI k), g) := fun k g hk hk0 e => by
    unfold F_Chk_nose
    rw [dK_64 hL0, e]
    rcases (show k = 0 ∨ k = 1 by omega) with rfl | rfl
    · exact absurd rfl hk0
    · rfl
  obtain ⟨v2, v5, h1, I1, I2, A', e1, hO, ⟨t, u, l, m, b, c, hL1⟩, e2, e3, e4, hX'⟩ := x_one (Chk := fun g => F_Chk_nose 64 (xs (i + 1)) 717 g) (f := fun v => v.toInt64) hX (x_nose hX.1 (xs (i + 1))) c1 c2 cdI_2
  have e1 : F_Chk_nose 64 (xs (i + 1)) 717 (jz_I h I) = some (v2, jz_I h1 I1) := e1
  have e2 : F_Mod_nose 205 (xs (i + 1)) (jz_I h1 I1) = some (v5, jz_I h1 I2) := e2
  unfold F_Chk_law2_b1530
  simp only [rd_1 hO0 hi hL, e1, kq_bi, rd_1 hO hi hL, dK_205 hL1, e2]
  have key := x_tl (P := P) (kk := fun g => k23 63 64 205 717 (nI i + (6 : Int32)) g) (E := fun g => jf_rz (0 : Int32) (some ((0 : Int32), g))) hX' e3 e4 (hK _ _ _ hX')
  rw [dK_205 hL1] at key
  exact key
theorem bk_siege (hX : jInv L xs S N A h I) (hL : L ≤ 3072) (hi : i + 6 ≤ L) (hK : ∀ h' I' A', jInv L xs S (N + 1) A' h' I' → jW (k23 63 64 205 717 (nI i + (6 : Int32)) (jz_I h' I')) P) : jW (F_Chk_law2_b1586 k23 63 64 205 717 (nI i) (jz_I h I)) P := by
  obtain ⟨t0, u0, l0, m0, b0, c0, hL0, -⟩ := hX.2.2.2
  have hO0 := hX.2.2.1
  have c1 : ∀ x g, F_SG_siege 64 (xs (i + 1)) (xs (i + 2)) (jz_I h I) = some (jo_i (x, g)) → F_Chk_siege 64 (xs (i + 1)) (xs (i + 2)) 717 (jz_I h I) = jf_ls g 717 (0 : Int32) x.toInt64 (fun h3 => some ((0 : Int32), h3)) := fun x g e => by
    unfold F_Chk_siege
    rw [dK_64 hL0, e]
    rfl
  have c2 : ∀ k g, k < 2 → ¬ cdI k = 0 → F_SG_siege 64 (xs (i + 1)) (xs (i + 2)) (jz_I h I) = some (.inr k, g) → F_Chk_siege 64 (xs (i + 1)) (xs (i + 2)) 717 (jz_I h I) = some (nI (cdI k), g) := fun k g hk hk0 e => by
    unfold F_Chk_siege
    rw [dK_64 hL0, e]
    rcases (show k = 0 ∨ k = 1 by omega) with rfl | rfl
    · exact absurd rfl hk0
    · rfl
  obtain ⟨v2, v5, h1, I1, I2, A', e1, hO, ⟨t, u, l, m, b, c, hL1⟩, e2, e3, e4, hX'⟩ := x_one (Chk := fun g => F_Chk_siege 64 (xs (i + 1)) (xs (i + 2)) 717 g) (f := fun v => v.toInt64) hX (x_siege hX.1 (xs (i + 1)) (xs (i + 2))) c1 c2 cdI_2
  have e1 : F_Chk_siege 64 (xs (i + 1)) (xs (i + 2)) 717 (jz_I h I) = some (v2, jz_I h1 I1) := e1
  have e2 : F_Mod_siege 205 (xs (i + 1)) (xs (i + 2)) (jz_I h1 I1) = some (v5, jz_I h1 I2) := e2
  unfold F_Chk_law2_b1586
  simp only [rd_1 hO0 hi hL, rd_2 hO0 hi hL, e1, kq_bi, rd_1 hO hi hL, rd_2 hO hi hL, dK_205 hL1, e2]
  have key := x_tl (P := P) (kk := fun g => k23 63 64 205 717 (nI i + (6 : Int32)) g) (E := fun g => jf_rz (0 : Int32) (some ((0 : Int32), g))) hX' e3 e4 (hK _ _ _ hX')
  rw [dK_205 hL1] at key
  exact key
theorem bk_distance (hX : jInv L xs S N A h I) (hL : L ≤ 3072) (hi : i + 6 ≤ L) (hK : ∀ h' I' A', jInv L xs S (N + 1) A' h' I' → jW (k23 63 64 205 717 (nI i + (6 : Int32)) (jz_I h' I')) P) : jW (F_Chk_law2_b1654 k23 63 64 205 717 (nI i) (jz_I h I)) P := by
  obtain ⟨t0, u0, l0, m0, b0, c0, hL0, -⟩ := hX.2.2.2
  have hO0 := hX.2.2.1
  have c1 : ∀ x g, F_SG_distance 64 (xs (i + 1)) (xs (i + 2)) (jz_I h I) = some (jo_i (x, g)) → F_Chk_distance 64 (xs (i + 1)) (xs (i + 2)) 717 (jz_I h I) = jf_ls g 717 (0 : Int32) x.toInt64 (fun h3 => some ((0 : Int32), h3)) := fun x g e => by
    unfold F_Chk_distance
    rw [dK_64 hL0, e]
    rfl
  have c2 : ∀ k g, k < 2 → ¬ cdE k = 0 → F_SG_distance 64 (xs (i + 1)) (xs (i + 2)) (jz_I h I) = some (.inr k, g) → F_Chk_distance 64 (xs (i + 1)) (xs (i + 2)) 717 (jz_I h I) = some (nI (cdE k), g) := fun k g hk hk0 e => by
    unfold F_Chk_distance
    rw [dK_64 hL0, e]
    rcases (show k = 0 ∨ k = 1 by omega) with rfl | rfl
    · rfl
    · exact absurd rfl hk0
  obtain ⟨v2, v5, h1, I1, I2, A', e1, hO, ⟨t, u, l, m, b, c, hL1⟩, e2, e3, e4, hX'⟩ := x_one (Chk := fun g => F_Chk_distance 64 (xs (i + 1)) (xs (i + 2)) 717 g) (f := fun v => v.toInt64) hX (x_distance hX.1 (xs (i + 1)) (xs (i + 2))) c1 c2 cdE_2
  have e1 : F_Chk_distance 64 (xs (i + 1)) (xs (i + 2)) 717 (jz_I h I) = some (v2, jz_I h1 I1) := e1
  have e2 : F_Mod_distance 205 (xs (i + 1)) (xs (i + 2)) (jz_I h1 I1) = some (v5, jz_I h1 I2) := e2
  unfold F_Chk_law2_b1654
  simp only [rd_1 hO0 hi hL, rd_2 hO0 hi hL, e1, kq_bi, rd_1 hO hi hL, rd_2 hO hi hL, dK_205 hL1, e2]
  have key := x_tl (P := P) (kk := fun g => k23 63 64 205 717 (nI i + (6 : Int32)) g) (E := fun g => jf_rz (0 : Int32) (some ((0 : Int32), g))) hX' e3 e4 (hK _ _ _ hX')
  rw [dK_205 hL1] at key
  exact key
theorem bk_closest (hX : jInv L xs S N A h I) (hL : L ≤ 3072) (hi : i + 6 ≤ L) (hK : ∀ h' I' A', jInv L xs S (N + 1) A' h' I' → jW (k23 63 64 205 717 (nI i + (6 : Int32)) (jz_I h' I')) P) : jW (F_Chk_law2_b1722 k23 63 64 205 717 (nI i) (jz_I h I)) P := by
  obtain ⟨t0, u0, l0, m0, b0, c0, hL0, -⟩ := hX.2.2.2
  obtain ⟨v, I1, I2, A', e1, hO, e2, hX'⟩ := x_oneN hX (x_closest hX.1)
  have e1 : F_SG_closest 64 (jz_I h I) = some (v, jz_I h I1) := e1
  have e2 : F_Mod_closest 205 (jz_I h I1) = some (v, jz_I h I2) := e2
  unfold F_Chk_law2_b1722
  simp only [dK_64 hL0, e1, kq_bi, dK_205 hL0, e2, if_true]
  exact hK _ _ _ hX'
theorem bk_read (hX : jInv L xs S N A h I) (hL : L ≤ 3072) (hi : i + 6 ≤ L) (hK : ∀ h' I' A', jInv L xs S (N + 1) A' h' I' → jW (k23 63 64 205 717 (nI i + (6 : Int32)) (jz_I h' I')) P) : jW (F_Chk_law2_b1735 k23 63 64 205 717 (nI i) (jz_I h I)) P := by
  obtain ⟨t0, u0, l0, m0, b0, c0, hL0, -⟩ := hX.2.2.2
  have hO0 := hX.2.2.1
  have c1 : ∀ x g, F_SG_read 64 (xs (i + 1)) (jz_I h I) = some (jo_i (x, g)) → F_Chk_read 64 (xs (i + 1)) 717 (jz_I h I) = jf_ls g 717 (0 : Int32) x.toInt64 (fun h3 => some ((0 : Int32), h3)) := fun x g e => by
    unfold F_Chk_read
    rw [dK_64 hL0, e]
    rfl
  have c2 : ∀ k g, k < 2 → ¬ cdI k = 0 → F_SG_read 64 (xs (i + 1)) (jz_I h I) = some (.inr k, g) → F_Chk_read 64 (xs (i + 1)) 717 (jz_I h I) = some (nI (cdI k), g) := fun k g hk hk0 e => by
    unfold F_Chk_read
    rw [dK_64 hL0, e]
    rcases (show k = 0 ∨ k = 1 by omega) with rfl | rfl
    · exact absurd rfl hk0
    · rfl
  obtain ⟨v2, v5, h1, I1, I2, A', e1, hO, ⟨t, u, l, m, b, c, hL1⟩, e2, e3, e4, hX'⟩ := x_one (Chk := fun g => F_Chk_read 64 (xs (i + 1)) 717 g) (f := fun v => v.toInt64) hX (x_read hX.1 (xs (i + 1))) c1 c2 cdI_2
  have e1 : F_Chk_read 64 (xs (i + 1)) 717 (jz_I h I) = some (v2, jz_I h1 I1) := e1
  have e2 : F_Mod_read 205 (xs (i + 1)) (jz_I h1 I1) = some (v5, jz_I h1 I2) := e2
  unfold F_Chk_law2_b1735
  simp only [rd_1 hO0 hi hL, e1, kq_bi, rd_1 hO hi hL, dK_205 hL1, e2]
  have key := x_tl (P := P) (kk := fun g => k23 63 64 205 717 (nI i + (6 : Int32)) g) (E := fun g => jf_rz (0 : Int32) (some ((0 : Int32), g))) hX' e3 e4 (hK _ _ _ hX')
  rw [dK_205 hL1] at key
  exact key
theorem bk_seems (hX : jInv L xs S N A h I) (hL : L ≤ 3072) (hi : i + 6 ≤ L) (hK : ∀ h' I' A', jInv L xs S (N + 1) A' h' I' → jW (k23 63 64 205 717 (nI i + (6 : Int32)) (jz_I h' I')) P) : jW (F_Chk_law2_b1791 k23 63 64 205 717 (nI i) (jz_I h I)) P := by
  obtain ⟨t0, u0, l0, m0, b0, c0, hL0, -⟩ := hX.2.2.2
  obtain ⟨v, I1, I2, A', e1, hO, e2, hX'⟩ := x_oneN hX (x_seems hX.1)
  have e1 : F_SG_seems 64 (jz_I h I) = some (v, jz_I h I1) := e1
  have e2 : F_Mod_seems 205 (jz_I h I1) = some (v, jz_I h I2) := e2
  unfold F_Chk_law2_b1791
  simp only [dK_64 hL0, e1, kq_bi, dK_205 hL0, e2, if_true]
  exact hK _ _ _ hX'
theorem bk_share (hX : jInv L xs S N A h I) (hL : L ≤ 3072) (hi : i + 6 ≤ L) (hK : ∀ h' I' A', jInv L xs S (N + 1) A' h' I' → jW (k23 63 64 205 717 (nI i + (6 : Int32)) (jz_I h' I')) P) : jW (F_Chk_law2_b1804 k23 63 64 205 717 (nI i) (jz_I h I)) P := by
  obtain ⟨t0, u0, l0, m0, b0, c0, hL0, -⟩ := hX.2.2.2
  have hO0 := hX.2.2.1
  have c1 : ∀ x g, F_SG_share 64 (xs (i + 1)) (xs (i + 2)) (xs (i + 3)) (jz_I h I) = some (jo_i (x, g)) → F_Chk_share 64 (xs (i + 1)) (xs (i + 2)) (xs (i + 3)) 717 (jz_I h I) = jf_ls g 717 (0 : Int32) x.toInt64 (fun h3 => some ((0 : Int32), h3)) := fun x g e => by
    unfold F_Chk_share
    rw [dK_64 hL0, e]
    rfl
  have c2 : ∀ k g, k < 2 → ¬ cdB k = 0 → F_SG_share 64 (xs (i + 1)) (xs (i + 2)) (xs (i + 3)) (jz_I h I) = some (.inr k, g) → F_Chk_share 64 (xs (i + 1)) (xs (i + 2)) (xs (i + 3)) 717 (jz_I h I) = some (nI (cdB k), g) := fun k g hk hk0 e => by
    unfold F_Chk_share
    rw [dK_64 hL0, e]
    rcases (show k = 0 ∨ k = 1 by omega) with rfl | rfl
    · rfl
    · rfl
  obtain ⟨v2, v5, h1, I1, I2, A', e1, hO, ⟨t, u, l, m, b, c, hL1⟩, e2, e3, e4, hX'⟩ := x_one (Chk := fun g => F_Chk_share 64 (xs (i + 1)) (xs (i + 2)) (xs (i + 3)) 717 g) (f := fun v => v.toInt64) hX (x_share hX.1 (xs (i + 1)) (xs (i + 2)) (xs (i + 3))) c1 c2 cdB_2
  have e1 : F_Chk_share 64 (xs (i + 1)) (xs (i + 2)) (xs (i + 3)) 717 (jz_I h I) = some (v2, jz_I h1 I1) := e1
  have e2 : F_Mod_share 205 (xs (i + 1)) (xs (i + 2)) (xs (i + 3)) (jz_I h1 I1) = some (v5, jz_I h1 I2) := e2
  unfold F_Chk_law2_b1804
  simp only [rd_1 hO0 hi hL, rd_2 hO0 hi hL, rd_3 hO0 hi hL, e1, kq_bi, rd_1 hO hi hL, rd_2 hO hi hL, rd_3 hO hi hL, dK_205 hL1, e2]
  have key := x_tl (P := P) (kk := fun g => k23 63 64 205 717 (nI i + (6 : Int32)) g) (E := fun g => jf_rz (0 : Int32) (some ((0 : Int32), g))) hX' e3 e4 (hK _ _ _ hX')
  rw [dK_205 hL1] at key
  exact key
theorem bk_crowd (hX : jInv L xs S N A h I) (hL : L ≤ 3072) (hi : i + 6 ≤ L) (hK : ∀ h' I' A', jInv L xs S (N + 1) A' h' I' → jW (k23 63 64 205 717 (nI i + (6 : Int32)) (jz_I h' I')) P) : jW (F_Chk_law2_b1884 k23 63 64 205 717 (nI i) (jz_I h I)) P := by
  obtain ⟨t0, u0, l0, m0, b0, c0, hL0, -⟩ := hX.2.2.2
  have hO0 := hX.2.2.1
  have c1 : ∀ x g, F_SG_crowd 64 (xs (i + 1)) (jz_I h I) = some (jo_i (x, g)) → F_Chk_crowd 64 (xs (i + 1)) 717 (jz_I h I) = jf_ls g 717 (0 : Int32) x.toInt64 (fun h3 => some ((0 : Int32), h3)) := fun x g e => by
    unfold F_Chk_crowd
    rw [dK_64 hL0, e]
    rfl
  have c2 : ∀ k g, k < 2 → ¬ cdI k = 0 → F_SG_crowd 64 (xs (i + 1)) (jz_I h I) = some (.inr k, g) → F_Chk_crowd 64 (xs (i + 1)) 717 (jz_I h I) = some (nI (cdI k), g) := fun k g hk hk0 e => by
    unfold F_Chk_crowd
    rw [dK_64 hL0, e]
    rcases (show k = 0 ∨ k = 1 by omega) with rfl | rfl
    · exact absurd rfl hk0
    · rfl
  obtain ⟨v2, v5, h1, I1, I2, A', e1, hO, ⟨t, u, l, m, b, c, hL1⟩, e2, e3, e4, hX'⟩ := x_one (Chk := fun g => F_Chk_crowd 64 (xs (i + 1)) 717 g) (f := fun v => v.toInt64) hX (x_crowd hX.1 (xs (i + 1))) c1 c2 cdI_2
  have e1 : F_Chk_crowd 64 (xs (i + 1)) 717 (jz_I h I) = some (v2, jz_I h1 I1) := e1
  have e2 : F_Mod_crowd 205 (xs (i + 1)) (jz_I h1 I1) = some (v5, jz_I h1 I2) := e2
  unfold F_Chk_law2_b1884
  simp only [rd_1 hO0 hi hL, e1, kq_bi, rd_1 hO hi hL, dK_205 hL1, e2]
  have key := x_tl (P := P) (kk := fun g => k23 63 64 205 717 (nI i + (6 : Int32)) g) (E := fun g => jf_rz (0 : Int32) (some ((0 : Int32), g))) hX' e3 e4 (hK _ _ _ hX')
  rw [dK_205 hL1] at key
  exact key
theorem bk_turned (hX : jInv L xs S N A h I) (hL : L ≤ 3072) (hi : i + 6 ≤ L) (hK : ∀ h' I' A', jInv L xs S (N + 1) A' h' I' → jW (k23 63 64 205 717 (nI i + (6 : Int32)) (jz_I h' I')) P) : jW (F_Chk_law2_b1940 k23 63 64 205 717 (nI i) (jz_I h I)) P := by
  obtain ⟨t0, u0, l0, m0, b0, c0, hL0, -⟩ := hX.2.2.2
  have hO0 := hX.2.2.1
  have c1 : ∀ x g, F_SG_turned 64 (xs (i + 1)) (jz_I h I) = some (jo_i (x, g)) → F_Chk_turned 64 (xs (i + 1)) 717 (jz_I h I) = jf_ls g 717 (0 : Int32) x.toInt64 (fun h3 => some ((0 : Int32), h3)) := fun x g e => by
    unfold F_Chk_turned
    rw [dK_64 hL0, e]
    rfl
  have c2 : ∀ k g, k < 2 → ¬ cdI k = 0 → F_SG_turned 64 (xs (i + 1)) (jz_I h I) = some (.inr k, g) → F_Chk_turned 64 (xs (i + 1)) 717 (jz_I h I) = some (nI (cdI k), g) := fun k g hk hk0 e => by
    unfold F_Chk_turned
    rw [dK_64 hL0, e]
    rcases (show k = 0 ∨ k = 1 by omega) with rfl | rfl
    · exact absurd rfl hk0
    · rfl
  obtain ⟨v2, v5, h1, I1, I2, A', e1, hO, ⟨t, u, l, m, b, c, hL1⟩, e2, e3, e4, hX'⟩ := x_one (Chk := fun g => F_Chk_turned 64 (xs (i + 1)) 717 g) (f := fun v => v.toInt64) hX (x_turned hX.1 (xs (i + 1))) c1 c2 cdI_2
  have e1 : F_Chk_turned 64 (xs (i + 1)) 717 (jz_I h I) = some (v2, jz_I h1 I1) := e1
  have e2 : F_Mod_turned 205 (xs (i + 1)) (jz_I h1 I1) = some (v5, jz_I h1 I2) := e2
  unfold F_Chk_law2_b1940
  simp only [rd_1 hO0 hi hL, e1, kq_bi, rd_1 hO hi hL, dK_205 hL1, e2]
  have key := x_tl (P := P) (kk := fun g => k23 63 64 205 717 (nI i + (6 : Int32)) g) (E := fun g => jf_rz (0 : Int32) (some ((0 : Int32), g))) hX' e3 e4 (hK _ _ _ hX')
  rw [dK_205 hL1] at key
  exact key
theorem bk_thickest (hX : jInv L xs S N A h I) (hL : L ≤ 3072) (hi : i + 6 ≤ L) (hK : ∀ h' I' A', jInv L xs S (N + 1) A' h' I' → jW (k23 63 64 205 717 (nI i + (6 : Int32)) (jz_I h' I')) P) : jW (F_Chk_law2_b1996 k23 63 64 205 717 (nI i) (jz_I h I)) P := by
  obtain ⟨t0, u0, l0, m0, b0, c0, hL0, -⟩ := hX.2.2.2
  have hO0 := hX.2.2.1
  have c1 : ∀ x g, F_SG_thickest 64 (xs (i + 1)) (jz_I h I) = some (jo_i (x, g)) → F_Chk_thickest 64 (xs (i + 1)) 717 (jz_I h I) = jf_ls g 717 (0 : Int32) x.toInt64 (fun h3 => some ((0 : Int32), h3)) := fun x g e => by
    unfold F_Chk_thickest
    rw [dK_64 hL0, e]
    rfl
  have c2 : ∀ k g, k < 2 → ¬ cdI k = 0 → F_SG_thickest 64 (xs (i + 1)) (jz_I h I) = some (.inr k, g) → F_Chk_thickest 64 (xs (i + 1)) 717 (jz_I h I) = some (nI (cdI k), g) := fun k g hk hk0 e => by
    unfold F_Chk_thickest
    rw [dK_64 hL0, e]
    rcases (show k = 0 ∨ k = 1 by omega) with rfl | rfl
    · exact absurd rfl hk0
    · rfl
  obtain ⟨v2, v5, h1, I1, I2, A', e1, hO, ⟨t, u, l, m, b, c, hL1⟩, e2, e3, e4, hX'⟩ := x_one (Chk := fun g => F_Chk_thickest 64 (xs (i + 1)) 717 g) (f := fun v => v.toInt64) hX (x_thickest hX.1 (xs (i + 1))) c1 c2 cdI_2
  have e1 : F_Chk_thickest 64 (xs (i + 1)) 717 (jz_I h I) = some (v2, jz_I h1 I1) := e1
  have e2 : F_Mod_thickest 205 (xs (i + 1)) (jz_I h1 I1) = some (v5, jz_I h1 I2) := e2
  unfold F_Chk_law2_b1996
  simp only [rd_1 hO0 hi hL, e1, kq_bi, rd_1 hO hi hL, dK_205 hL1, e2]
  have key := x_tl (P := P) (kk := fun g => k23 63 64 205 717 (nI i + (6 : Int32)) g) (E := fun g => jf_rz (0 : Int32) (some ((0 : Int32), g))) hX' e3 e4 (hK _ _ _ hX')
  rw [dK_205 hL1] at key
  exact key
theorem bk_burnsOut (hX : jInv L xs S N A h I) (hL : L ≤ 3072) (hi : i + 6 ≤ L) (hK : ∀ h' I' A', jInv L xs S (N + 1) A' h' I' → jW (k23 63 64 205 717 (nI i + (6 : Int32)) (jz_I h' I')) P) : jW (F_Chk_law2_b2052 k23 63 64 205 717 (nI i) (jz_I h I)) P := by
  obtain ⟨t0, u0, l0, m0, b0, c0, hL0, -⟩ := hX.2.2.2
  obtain ⟨v, I1, I2, A', e1, hO, e2, hX'⟩ := x_oneN hX (x_burnsOut hX.1)
  have e1 : F_SG_burnsOut 64 (jz_I h I) = some (v, jz_I h I1) := e1
  have e2 : F_Mod_burnsOut 205 (jz_I h I1) = some (v, jz_I h I2) := e2
  unfold F_Chk_law2_b2052
  simp only [dK_64 hL0, e1, kq_bi, dK_205 hL0, e2, if_true]
  exact hK _ _ _ hX'
theorem bk_ahead (hX : jInv L xs S N A h I) (hL : L ≤ 3072) (hi : i + 6 ≤ L) (hK : ∀ h' I' A', jInv L xs S (N + 1) A' h' I' → jW (k23 63 64 205 717 (nI i + (6 : Int32)) (jz_I h' I')) P) : jW (F_Chk_law2_b2065 k23 63 64 205 717 (nI i) (jz_I h I)) P := by
  obtain ⟨t0, u0, l0, m0, b0, c0, hL0, -⟩ := hX.2.2.2
  have hO0 := hX.2.2.1
  have c1 : ∀ x g, F_SG_ahead 64 (xs (i + 1)) (xs (i + 2)) (jz_I h I) = some (jo_i (x, g)) → F_Chk_ahead 64 (xs (i + 1)) (xs (i + 2)) 717 (jz_I h I) = jf_ls g 717 (0 : Int32) x.toInt64 (fun h3 => some ((0 : Int32), h3)) := fun x g e => by
    unfold F_Chk_ahead
    rw [dK_64 hL0, e]
    rfl
  have c2 : ∀ k g, k < 2 → ¬ cdI k = 0 → F_SG_ahead 64 (xs (i + 1)) (xs (i + 2)) (jz_I h I) = some (.inr k, g) → F_Chk_ahead 64 (xs (i + 1)) (xs (i + 2)) 717 (jz_I h I) = some (nI (cdI k), g) := fun k g hk hk0 e => by
    unfold F_Chk_ahead
    rw [dK_64 hL0, e]
    rcases (show k = 0 ∨ k = 1 by omega) with rfl | rfl
    · exact absurd rfl hk0
    · rfl
  obtain ⟨v2, v5, h1, I1, I2, A', e1, hO, ⟨t, u, l, m, b, c, hL1⟩, e2, e3, e4, hX'⟩ := x_one (Chk := fun g => F_Chk_ahead 64 (xs (i + 1)) (xs (i + 2)) 717 g) (f := fun v => v.toInt64) hX (x_ahead hX.1 (xs (i + 1)) (xs (i + 2))) c1 c2 cdI_2
  have e1 : F_Chk_ahead 64 (xs (i + 1)) (xs (i + 2)) 717 (jz_I h I) = some (v2, jz_I h1 I1) := e1
  have e2 : F_Mod_ahead 205 (xs (i + 1)) (xs (i + 2)) (jz_I h1 I1) = some (v5, jz_I h1 I2) := e2
  unfold F_Chk_law2_b2065
  simp only [rd_1 hO0 hi hL, rd_2 hO0 hi hL, e1, kq_bi, rd_1 hO hi hL, rd_2 hO hi hL, dK_205 hL1, e2]
  have key := x_tl (P := P) (kk := fun g => k23 63 64 205 717 (nI i + (6 : Int32)) g) (E := fun g => jf_rz (0 : Int32) (some ((0 : Int32), g))) hX' e3 e4 (hK _ _ _ hX')
  rw [dK_205 hL1] at key
  exact key
theorem bk_days (hX : jInv L xs S N A h I) (hL : L ≤ 3072) (hi : i + 6 ≤ L) (hK : ∀ h' I' A', jInv L xs S (N + 1) A' h' I' → jW (k23 63 64 205 717 (nI i + (6 : Int32)) (jz_I h' I')) P) : jW (F_Chk_law2_b2133 k23 63 64 205 717 (nI i) (jz_I h I)) P := by
  obtain ⟨t0, u0, l0, m0, b0, c0, hL0, -⟩ := hX.2.2.2
  have hO0 := hX.2.2.1
  have c1 : ∀ x g, F_SG_days 64 (xs (i + 1)) (xs (i + 2)) (xs (i + 3)) (xs (i + 4)) (jz_I h I) = some (jo_i (x, g)) → F_Chk_days 64 (xs (i + 1)) (xs (i + 2)) (xs (i + 3)) (xs (i + 4)) 717 (jz_I h I) = jf_ls g 717 (0 : Int32) x.toInt64 (fun h3 => some ((0 : Int32), h3)) := fun x g e => by
    unfold F_Chk_days
    rw [dK_64 hL0, e]
    rfl
  have c2 : ∀ k g, k < 2 → ¬ cdI k = 0 → F_SG_days 64 (xs (i + 1)) (xs (i + 2)) (xs (i + 3)) (xs (i + 4)) (jz_I h I) = some (.inr k, g) → F_Chk_days 64 (xs (i + 1)) (xs (i + 2)) (xs (i + 3)) (xs (i + 4)) 717 (jz_I h I) = some (nI (cdI k), g) := fun k g hk hk0 e => by
    unfold F_Chk_days
    rw [dK_64 hL0, e]
    rcases (show k = 0 ∨ k = 1 by omega) with rfl | rfl
    · exact absurd rfl hk0
    · rfl
  obtain ⟨v2, v5, h1, I1, I2, A', e1, hO, ⟨t, u, l, m, b, c, hL1⟩, e2, e3, e4, hX'⟩ := x_one (Chk := fun g => F_Chk_days 64 (xs (i + 1)) (xs (i + 2)) (xs (i + 3)) (xs (i + 4)) 717 g) (f := fun v => v.toInt64) hX (x_days hX.1 (xs (i + 1)) (xs (i + 2)) (xs (i + 3)) (xs (i + 4))) c1 c2 cdI_2
  have e1 : F_Chk_days 64 (xs (i + 1)) (xs (i + 2)) (xs (i + 3)) (xs (i + 4)) 717 (jz_I h I) = some (v2, jz_I h1 I1) := e1
  have e2 : F_Mod_days 205 (xs (i + 1)) (xs (i + 2)) (xs (i + 3)) (xs (i + 4)) (jz_I h1 I1) = some (v5, jz_I h1 I2) := e2
  unfold F_Chk_law2_b2133
  simp only [rd_1 hO0 hi hL, rd_2 hO0 hi hL, rd_3 hO0 hi hL, rd_4 hO0 hi hL, e1, kq_bi, rd_1 hO hi hL, rd_2 hO hi hL, rd_3 hO hi hL, rd_4 hO hi hL, dK_205 hL1, e2]
  have key := x_tl (P := P) (kk := fun g => k23 63 64 205 717 (nI i + (6 : Int32)) g) (E := fun g => jf_rz (0 : Int32) (some ((0 : Int32), g))) hX' e3 e4 (hK _ _ _ hX')
  rw [dK_205 hL1] at key
  exact key
theorem bk_span (hX : jInv L xs S N A h I) (hL : L ≤ 3072) (hi : i + 6 ≤ L) (hK : ∀ h' I' A', jInv L xs S (N + 1) A' h' I' → jW (k23 63 64 205 717 (nI i + (6 : Int32)) (jz_I h' I')) P) : jW (F_Chk_law2_b2225 k23 63 64 205 717 (nI i) (jz_I h I)) P := by
  obtain ⟨t0, u0, l0, m0, b0, c0, hL0, -⟩ := hX.2.2.2
  have hO0 := hX.2.2.1
  have c1 : ∀ x g, F_SG_span 64 (xs (i + 1)) (xs (i + 2)) (xs (i + 3)) (xs (i + 4)) (xs (i + 5)) (jz_I h I) = some (jo_i (x, g)) → F_Chk_span 64 (xs (i + 1)) (xs (i + 2)) (xs (i + 3)) (xs (i + 4)) (xs (i + 5)) 717 (jz_I h I) = jf_ls g 717 (0 : Int32) x.toInt64 (fun h3 => some ((0 : Int32), h3)) := fun x g e => by
    unfold F_Chk_span
    rw [dK_64 hL0, e]
    rfl
  have c2 : ∀ k g, k < 2 → ¬ cdI k = 0 → F_SG_span 64 (xs (i + 1)) (xs (i + 2)) (xs (i + 3)) (xs (i + 4)) (xs (i + 5)) (jz_I h I) = some (.inr k, g) → F_Chk_span 64 (xs (i + 1)) (xs (i + 2)) (xs (i + 3)) (xs (i + 4)) (xs (i + 5)) 717 (jz_I h I) = some (nI (cdI k), g) := fun k g hk hk0 e => by
    unfold F_Chk_span
    rw [dK_64 hL0, e]
    rcases (show k = 0 ∨ k = 1 by omega) with rfl | rfl
    · exact absurd rfl hk0
    · rfl
  obtain ⟨v2, v5, h1, I1, I2, A', e1, hO, ⟨t, u, l, m, b, c, hL1⟩, e2, e3, e4, hX'⟩ := x_one (Chk := fun g => F_Chk_span 64 (xs (i + 1)) (xs (i + 2)) (xs (i + 3)) (xs (i + 4)) (xs (i + 5)) 717 g) (f := fun v => v.toInt64) hX (x_span hX.1 (xs (i + 1)) (xs (i + 2)) (xs (i + 3)) (xs (i + 4)) (xs (i + 5))) c1 c2 cdI_2
  have e1 : F_Chk_span 64 (xs (i + 1)) (xs (i + 2)) (xs (i + 3)) (xs (i + 4)) (xs (i + 5)) 717 (jz_I h I) = some (v2, jz_I h1 I1) := e1
  have e2 : F_Mod_span 205 (xs (i + 1)) (xs (i + 2)) (xs (i + 3)) (xs (i + 4)) (xs (i + 5)) (jz_I h1 I1) = some (v5, jz_I h1 I2) := e2
  unfold F_Chk_law2_b2225
  simp only [rd_1 hO0 hi hL, rd_2 hO0 hi hL, rd_3 hO0 hi hL, rd_4 hO0 hi hL, rd_5 hO0 hi hL, e1, kq_bi, rd_1 hO hi hL, rd_2 hO hi hL, rd_3 hO hi hL, rd_4 hO hi hL, rd_5 hO hi hL, dK_205 hL1, e2]
  have key := x_tl (P := P) (kk := fun g => k23 63 64 205 717 (nI i + (6 : Int32)) g) (E := fun g => jf_rz (0 : Int32) (some ((0 : Int32), g))) hX' e3 e4 (hK _ _ _ hX')
  rw [dK_205 hL1] at key
  exact key
theorem bk_image (hX : jInv L xs S N A h I) (hL : L ≤ 3072) (hi : i + 6 ≤ L) (hK : ∀ h' I' A', jInv L xs S (N + 1) A' h' I' → jW (k23 63 64 205 717 (nI i + (6 : Int32)) (jz_I h' I')) P) : jW (F_Chk_law2_b2329 k23 63 64 205 717 (nI i) (jz_I h I)) P := by
  obtain ⟨t0, u0, l0, m0, b0, c0, hL0, -⟩ := hX.2.2.2
  obtain ⟨v, I1, I2, A', e1, hO, e2, hX'⟩ := x_oneN hX (x_image hX.1)
  have e1 : F_SG_image 64 (jz_I h I) = some (v, jz_I h I1) := e1
  have e2 : F_Mod_image 205 (jz_I h I1) = some (v, jz_I h I2) := e2
  unfold F_Chk_law2_b2329
  simp only [dK_64 hL0, e1, kq_bi, dK_205 hL0, e2, if_true]
  exact hK _ _ _ hX'
theorem bk_restore (hX : jInv L xs S N A h I) (hL : L ≤ 3072) (hi : i + 6 ≤ L) (hK : ∀ h' I' A', jInv L xs S (N + 1) A' h' I' → jW (k23 63 64 205 717 (nI i + (6 : Int32)) (jz_I h' I')) P) : jW (F_Chk_law2_b2342 k23 63 64 205 717 (nI i) (jz_I h I)) P := by
  obtain ⟨t0, u0, l0, m0, b0, c0, hL0, -⟩ := hX.2.2.2
  obtain ⟨v, I1, I2, A', e1, hO, e2, hX'⟩ := x_oneN hX (x_restore hX.1)
  have e1 : F_SG_restore 64 (jz_I h I) = some (v, jz_I h I1) := e1
  have e2 : F_Mod_restore 205 (jz_I h I1) = some (v, jz_I h I2) := e2
  unfold F_Chk_law2_b2342
  simp only [dK_64 hL0, e1, kq_bi, dK_205 hL0, e2, if_true]
  exact hK _ _ _ hX'
theorem bk_status (hX : jInv L xs S N A h I) (hL : L ≤ 3072) (hi : i + 6 ≤ L) (hK : ∀ h' I' A', jInv L xs S (N + 1) A' h' I' → jW (k23 63 64 205 717 (nI i + (6 : Int32)) (jz_I h' I')) P) : jW (F_Chk_law2_b2355 k23 63 64 205 717 (nI i) (jz_I h I)) P := by
  obtain ⟨t0, u0, l0, m0, b0, c0, hL0, -⟩ := hX.2.2.2
  have hO0 := hX.2.2.1
  obtain ⟨v, I1, I2, A', e1, hO, e2, hX'⟩ := x_oneN hX (x_status hX.1 (xs (i + 1)))
  have e1 : F_SG_status 64 (xs (i + 1)) (jz_I h I) = some (v, jz_I h I1) := e1
  have e2 : F_Mod_status 205 (xs (i + 1)) (jz_I h I1) = some (v, jz_I h I2) := e2
  unfold F_Chk_law2_b2355
  simp only [rd_1 hO0 hi hL, dK_64 hL0, e1, kq_bi, rd_1 hO hi hL, dK_205 hL0, e2, if_true]
  exact hK _ _ _ hX'
theorem bk_count (hX : jInv L xs S N A h I) (hL : L ≤ 3072) (hi : i + 6 ≤ L) (hK : ∀ h' I' A', jInv L xs S (N + 1) A' h' I' → jW (k23 63 64 205 717 (nI i + (6 : Int32)) (jz_I h' I')) P) : jW (F_Chk_law2_b2380 k23 63 64 205 717 (nI i) (jz_I h I)) P := by
  obtain ⟨t0, u0, l0, m0, b0, c0, hL0, -⟩ := hX.2.2.2
  have hO0 := hX.2.2.1
  obtain ⟨v, I1, I2, A', e1, hO, e2, hX'⟩ := x_oneN hX (x_count hX.1 (xs (i + 1)))
  have e1 : F_SG_count 64 (xs (i + 1)) (jz_I h I) = some (v, jz_I h I1) := e1
  have e2 : F_Mod_count 205 (xs (i + 1)) (jz_I h I1) = some (v, jz_I h I2) := e2
  unfold F_Chk_law2_b2380
  simp only [rd_1 hO0 hi hL, dK_64 hL0, e1, kq_bi, rd_1 hO hi hL, dK_205 hL0, e2, if_true]
  exact hK _ _ _ hX'
theorem x_core (hX : jInv L xs S N A h I) (hL : L ≤ 3072) (hi : i + 6 ≤ L) (hN : ∀ h' I' A', jInv L xs S (N + 1) A' h' I' → jW (k23 63 64 205 717 (nI i + (6 : Int32)) (jz_I h' I')) P) : jW (F_Chk_law2_c23 k23 63 64 205 717 (nI i) (jz_I h I)) P := by
  have hO := hX.2.2.1
  have hX1 : jInv L xs S (N + 1) A h I := ⟨jAG_mono hX.1, hX.2.1, jOut_N hO, hX.2.2.2⟩
  unfold F_Chk_law2_c23
  rw [al_63 hO, if_neg (show ¬ nI L - (6 : Int32) < nI i from fun z => by have := (sub_6 (by omega) (by omega)).mp z; omega), rd_0 hO (show i < L by omega) hL]
  refine jW_if (fun _ => bk_feed hX hL hi hN) (fun _ => ?_)
  refine jW_if (fun _ => bk_town hX hL hi hN) (fun _ => ?_)
  refine jW_if (fun _ => bk_law hX hL hi hN) (fun _ => ?_)
  refine jW_if (fun _ => bk_work hX hL hi hN) (fun _ => ?_)
  refine jW_if (fun _ => bk_book hX hL hi hN) (fun _ => ?_)
  refine jW_if (fun _ => bk_fault hX hL hi hN) (fun _ => ?_)
  refine jW_if (fun _ => bk_undo hX hL hi hN) (fun _ => ?_)
  refine jW_if (fun _ => bk_told hX hL hi hN) (fun _ => ?_)
  refine jW_if (fun _ => bk_gate hX hL hi hN) (fun _ => ?_)
  refine jW_if (fun _ => bk_wood hX hL hi hN) (fun _ => ?_)
  refine jW_if (fun _ => bk_comer hX hL hi hN) (fun _ => ?_)
  refine jW_if (fun _ => bk_log hX hL hi hN) (fun _ => ?_)
  refine jW_if (fun _ => bk_would hX hL hi hN) (fun _ => ?_)
  refine jW_if (fun _ => bk_when hX hL hi hN) (fun _ => ?_)
  refine jW_if (fun _ => bk_shut hX hL hi hN) (fun _ => ?_)
  refine jW_if (fun _ => bk_keeps hX hL hi hN) (fun _ => ?_)
  refine jW_if (fun _ => bk_thief hX hL hi hN) (fun _ => ?_)
  refine jW_if (fun _ => bk_guard hX hL hi hN) (fun _ => ?_)
  refine jW_if (fun _ => bk_lean hX hL hi hN) (fun _ => ?_)
  refine jW_if (fun _ => bk_burnt hX hL hi hN) (fun _ => ?_)
  refine jW_if (fun _ => bk_fits hX hL hi hN) (fun _ => ?_)
  refine jW_if (fun _ => bk_nose hX hL hi hN) (fun _ => ?_)
  refine jW_if (fun _ => bk_siege hX hL hi hN) (fun _ => ?_)
  refine jW_if (fun _ => bk_distance hX hL hi hN) (fun _ => ?_)
  refine jW_if (fun _ => bk_closest hX hL hi hN) (fun _ => ?_)
  refine jW_if (fun _ => bk_read hX hL hi hN) (fun _ => ?_)
  refine jW_if (fun _ => bk_seems hX hL hi hN) (fun _ => ?_)
  refine jW_if (fun _ => bk_share hX hL hi hN) (fun _ => ?_)
  refine jW_if (fun _ => bk_crowd hX hL hi hN) (fun _ => ?_)
  refine jW_if (fun _ => bk_turned hX hL hi hN) (fun _ => ?_)
  refine jW_if (fun _ => bk_thickest hX hL hi hN) (fun _ => ?_)
  refine jW_if (fun _ => bk_burnsOut hX hL hi hN) (fun _ => ?_)
  refine jW_if (fun _ => bk_ahead hX hL hi hN) (fun _ => ?_)
  refine jW_if (fun _ => bk_days hX hL hi hN) (fun _ => ?_)
  refine jW_if (fun _ => bk_span hX hL hi hN) (fun _ => ?_)
  refine jW_if (fun _ => bk_image hX hL hi hN) (fun _ => ?_)
  refine jW_if (fun _ => bk_restore hX hL hi hN) (fun _ => ?_)
  refine jW_if (fun _ => bk_status hX hL hi hN) (fun _ => ?_)
  refine jW_if (fun _ => bk_count hX hL hi hN) (fun _ => ?_)
  exact hN _ _ _ hX1
end

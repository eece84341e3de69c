/-! PLAIN LEAN, 2: where all lies behind the constructors (by wip/whole/layout.py) -/
noncomputable def jh_K : List (Nat × Nat) := [(10, 18), (7, 7), (21, 600), (5, 5), (20, 450), (8, 18), (20, 9), (20, 6), (20, 6), (20, 6), (20, 6), (20, 24), (20, 6), (20, 6), (20, 10), (20, 10), (20, 10), (20, 8), (4, 3), (20, 150), (20, 150), (6, 10), (20, 134), (20, 9), (20, 9), (20, 7), (6, 10), (20, 134), (20, 9), (20, 9), (20, 7), (3, 8), (24, 5), (20, 134), (20, 134), (20, 134), (20, 134), (20, 134), (9, 8), (22, 216), (20, 9), (1, 4), (2, 2), (24, 16), (20, 134), (20, 134), (20, 134), (20, 134), (20, 134), (20, 134), (20, 134), (20, 134), (20, 134), (20, 134), (20, 134), (20, 134), (20, 134), (20, 134), (20, 134), (20, 134), (25, 3), (2, 2), (24, 16), (20, 134), (20, 134), (20, 134), (20, 134), (20, 134), (20, 134), (20, 134), (20, 134), (20, 134), (20, 134), (20, 134), (20, 134), (20, 134), (20, 134), (20, 134), (20, 134), (2, 2), (24, 16), (20, 134), (20, 134), (20, 134), (20, 134), (20, 134), (20, 134), (20, 134), (20, 134), (20, 134), (20, 134), (20, 134), (20, 134), (20, 134), (20, 134), (20, 134), (20, 134), (2, 2), (24, 16), (20, 134), (20, 134), (20, 134), (20, 134), (20, 134), (20, 134), (20, 134), (20, 134), (20, 134), (20, 134), (20, 134), (20, 134), (20, 134), (20, 134), (20, 134), (20, 134), (24, 3), (20, 134), (20, 134), (20, 134), (8, 18), (20, 9), (20, 6), (20, 6), (20, 6), (20, 6), (20, 24), (20, 6), (20, 6), (20, 10), (20, 10), (20, 10), (20, 8), (4, 3), (20, 150), (20, 150), (0, 3), (20, 9), (20, 288), (0, 3), (20, 9), (20, 288), (11, 53), (20, 600), (20, 2), (20, 6), (20, 6), (20, 9), (20, 9), (20, 24), (20, 24), (20, 8), (20, 8), (24, 6), (20, 4), (20, 4), (20, 4), (20, 4), (20, 4), (20, 4), (24, 6), (20, 4), (20, 4), (20, 4), (20, 4), (20, 4), (20, 4), (24, 10), (20, 3), (20, 3), (20, 3), (20, 3), (20, 3), (20, 3), (20, 3), (20, 3), (20, 3), (20, 3), (24, 10), (20, 3), (20, 3), (20, 3), (20, 3), (20, 3), (20, 3), (20, 3), (20, 3), (20, 3), (20, 3), (24, 6), (20, 2), (20, 2), (20, 2), (20, 2), (20, 2), (20, 2), (24, 6), (20, 2), (20, 2), (20, 2), (20, 2), (20, 2), (20, 2), (24, 160), (20, 2), (20, 2), (20, 2), (20, 2), (20, 2), (20, 2), (20, 2), (20, 2), (20, 2), (20, 2), (20, 2), (20, 2), (20, 2), (20, 2), (20, 2), (20, 2), (20, 2), (20, 2), (20, 2), (20, 2), (20, 2), (20, 2), (20, 2), (20, 2), (20, 2), (20, 2), (20, 2), (20, 2), (20, 2), (20, 2), (20, 2), (20, 2), (20, 2), (20, 2), (20, 2), (20, 2), (20, 2), (20, 2), (20, 2), (20, 2), (20, 2), (20, 2), (20, 2), (20, 2), (20, 2), (20, 2), (20, 2), (20, 2), (20, 2), (20, 2), (20, 2), (20, 2), (20, 2), (20, 2), (20, 2), (20, 2), (20, 2), (20, 2), (20, 2), (20, 2), (20, 2), (20, 2), (20, 2), (20, 2), (20, 2), (20, 2), (20, 2), (20, 2), (20, 2), (20, 2), (20, 2), (20, 2), (20, 2), (20, 2), (20, 2), (20, 2), (20, 2), (20, 2), (20, 2), (20, 2), (20, 2), (20, 2), (20, 2), (20, 2), (20, 2), (20, 2), (20, 2), (20, 2), (20, 2), (20, 2), (20, 2), (20, 2), (20, 2), (20, 2), (20, 2), (20, 2), (20, 2), (20, 2), (20, 2), (20, 2), (20, 2), (20, 2), (20, 2), (20, 2), (20, 2), (20, 2), (20, 2), (20, 2), (20, 2), (20, 2), (20, 2), (20, 2), (20, 2), (20, 2), (20, 2), (20, 2), (20, 2), (20, 2), (20, 2), (20, 2), (20, 2), (20, 2), (20, 2), (20, 2), (20, 2), (20, 2), (20, 2), (20, 2), (20, 2), (20, 2), (20, 2), (20, 2), (20, 2), (20, 2), (20, 2), (20, 2), (20, 2), (20, 2), (20, 2), (20, 2), (20, 2), (20, 2), (20, 2), (20, 2), (20, 2), (20, 2), (20, 2), (20, 2), (20, 2), (20, 2), (20, 2), (20, 2), (20, 2), (20, 2), (20, 2), (20, 2), (20, 2), (20, 2), (20, 2), (20, 2), (24, 160), (20, 2), (20, 2), (20, 2), (20, 2), (20, 2), (20, 2), (20, 2), (20, 2), (20, 2), (20, 2), (20, 2), (20, 2), (20, 2), (20, 2), (20, 2), (20, 2), (20, 2), (20, 2), (20, 2), (20, 2), (20, 2), (20, 2), (20, 2), (20, 2), (20, 2), (20, 2), (20, 2), (20, 2), (20, 2), (20, 2), (20, 2), (20, 2), (20, 2), (20, 2), (20, 2), (20, 2), (20, 2), (20, 2), (20, 2), (20, 2), (20, 2), (20, 2), (20, 2), (20, 2), (20, 2), (20, 2), (20, 2), (20, 2), (20, 2), (20, 2), (20, 2), (20, 2), (20, 2), (20, 2), (20, 2), (20, 2), (20, 2), (20, 2), (20, 2), (20, 2), (20, 2), (20, 2), (20, 2), (20, 2), (20, 2), (20, 2), (20, 2), (20, 2), (20, 2), (20, 2), (20, 2), (20, 2), (20, 2), (20, 2), (20, 2), (20, 2), (20, 2), (20, 2), (20, 2), (20, 2), (20, 2), (20, 2), (20, 2), (20, 2), (20, 2), (20, 2), (20, 2), (20, 2), (20, 2), (20, 2), (20, 2), (20, 2), (20, 2), (20, 2), (20, 2), (20, 2), (20, 2), (20, 2), (20, 2), (20, 2), (20, 2), (20, 2), (20, 2), (20, 2), (20, 2), (20, 2), (20, 2), (20, 2), (20, 2), (20, 2), (20, 2), (20, 2), (20, 2), (20, 2), (20, 2), (20, 2), (20, 2), (20, 2), (20, 2), (20, 2), (20, 2), (20, 2), (20, 2), (20, 2), (20, 2), (20, 2), (20, 2), (20, 2), (20, 2), (20, 2), (20, 2), (20, 2), (20, 2), (20, 2), (20, 2), (20, 2), (20, 2), (20, 2), (20, 2), (20, 2), (20, 2), (20, 2), (20, 2), (20, 2), (20, 2), (20, 2), (20, 2), (20, 2), (20, 2), (20, 2), (20, 2), (20, 2), (20, 2), (20, 2), (20, 2), (20, 2), (20, 2), (20, 2), (20, 2), (20, 2), (24, 9), (20, 2), (20, 2), (20, 2), (20, 2), (20, 2), (20, 2), (20, 2), (20, 2), (20, 2), (24, 9), (20, 2), (20, 2), (20, 2), (20, 2), (20, 2), (20, 2), (20, 2), (20, 2), (20, 2), (20, 160), (20, 7), (24, 80), (20, 4), (20, 4), (20, 4), (20, 4), (20, 4), (20, 4), (20, 4), (20, 4), (20, 4), (20, 4), (20, 4), (20, 4), (20, 4), (20, 4), (20, 4), (20, 4), (20, 4), (20, 4), (20, 4), (20, 4), (20, 4), (20, 4), (20, 4), (20, 4), (20, 4), (20, 4), (20, 4), (20, 4), (20, 4), (20, 4), (20, 4), (20, 4), (20, 4), (20, 4), (20, 4), (20, 4), (20, 4), (20, 4), (20, 4), (20, 4), (20, 4), (20, 4), (20, 4), (20, 4), (20, 4), (20, 4), (20, 4), (20, 4), (20, 4), (20, 4), (20, 4), (20, 4), (20, 4), (20, 4), (20, 4), (20, 4), (20, 4), (20, 4), (20, 4), (20, 4), (20, 4), (20, 4), (20, 4), (20, 4), (20, 4), (20, 4), (20, 4), (20, 4), (20, 4), (20, 4), (20, 4), (20, 4), (20, 4), (20, 4), (20, 4), (20, 4), (20, 4), (20, 4), (20, 4), (20, 4), (20, 134), (20, 134), (24, 16), (20, 134), (20, 134), (20, 134), (20, 134), (20, 134), (20, 134), (20, 134), (20, 134), (20, 134), (20, 134), (20, 134), (20, 134), (20, 134), (20, 134), (20, 134), (20, 134), (24, 3), (20, 2279), (20, 2279), (20, 2279), (20, 5), (20, 24), (20, 32), (23, 1)]
noncomputable def jh_P : List (Nat × Nat × Nat) := [(65, 0, 66), (64, 0, 65), (67, 0, 68), (64, 1, 67), (69, 6, 70), (69, 7, 71), (69, 8, 72), (69, 9, 73), (69, 10, 74), (69, 11, 75), (69, 12, 76), (69, 13, 77), (69, 14, 78), (69, 15, 79), (69, 16, 80), (69, 17, 81), (82, 0, 83), (82, 1, 84), (85, 0, 86), (85, 7, 87), (85, 8, 88), (85, 9, 89), (64, 2, 85), (90, 0, 91), (90, 7, 92), (90, 8, 93), (90, 9, 94), (64, 3, 90), (95, 1, 96), (95, 0, 90), (64, 4, 95), (102, 1, 103), (102, 2, 104), (102, 0, 90), (64, 5, 102), (105, 0, 90), (64, 6, 105), (106, 0, 107), (64, 7, 106), (64, 8, 124), (125, 0, 126), (143, 0, 144), (161, 0, 162), (64, 9, 179), (183, 6, 184), (183, 7, 185), (183, 8, 186), (183, 9, 187), (183, 10, 188), (183, 11, 189), (183, 12, 190), (183, 13, 191), (183, 14, 192), (183, 15, 193), (183, 16, 194), (183, 17, 195), (196, 0, 197), (196, 1, 198), (199, 0, 200), (199, 1, 201), (202, 0, 203), (202, 1, 204), (205, 9, 206), (205, 10, 207), (205, 11, 208), (205, 12, 209), (205, 13, 210), (205, 14, 211), (205, 15, 212), (205, 16, 213), (205, 17, 214), (205, 18, 215), (205, 19, 216), (205, 20, 223), (205, 21, 230), (205, 22, 241), (205, 23, 252), (205, 24, 259), (205, 27, 266), (205, 28, 427), (205, 29, 588), (205, 30, 598), (205, 31, 608), (205, 32, 609), (205, 33, 610), (205, 35, 691), (205, 36, 692), (205, 37, 693), (205, 38, 710), (205, 47, 714), (205, 48, 715), (205, 49, 716)]
noncomputable def jh_J : List (Nat × Nat) := [(96, 5), (107, 16), (126, 16), (144, 16), (162, 16), (179, 3), (216, 6), (223, 6), (230, 10), (241, 10), (252, 6), (259, 6), (266, 160), (427, 160), (588, 9), (598, 9), (610, 80), (693, 16), (710, 3)]
/-- the layout: t the town in use, u the spare one; l, m the laws; b, c the books -/
def jLay (t u l m b c : Nat) (h : LH) : Prop := (∀ a, a < 654 → h.1[64 + a]? = jh_K[a]?) ∧ (∀ q ∈ jh_P, h.2.2.1 q.1 q.2.1 = some q.2.2) ∧ (∀ q ∈ jh_J, ∀ i, i < q.2 → h.2.2.1 q.1 i = some (q.1 + 1 + i)) ∧ (∀ i, i < 3 → h.2.2.1 124 i = some (125 + 18 * i)) ∧ ((t = 69 ∧ u = 183) ∨ (t = 183 ∧ u = 69)) ∧ ((l = 82 ∧ m = 196) ∨ (l = 196 ∧ m = 82)) ∧ ((b = 199 ∧ c = 202) ∨ (b = 202 ∧ c = 199)) ∧ h.2.2.1 85 1 = some t ∧ h.2.2.1 90 1 = some t ∧ h.2.2.1 64 10 = some u ∧ h.2.2.1 85 2 = some l ∧ h.2.2.1 90 2 = some l ∧ h.2.2.1 64 11 = some m ∧ h.2.2.1 64 12 = some b ∧ h.2.2.1 64 13 = some c
section
variable {t u l m b c : Nat} {h : LH}
theorem jLay_I {I : Nat → Nat → Int32} (hL : jLay t u l m b c h) : jLay t u l m b c (jz_I h I) := hL
theorem jLay_kd (hL : jLay t u l m b c h) {a k n : Nat} (ha : a < 654) (hk : jh_K[a]? = some (k, n)) : jl_kd h (64 + a) = k := by unfold jl_kd; rw [hL.1 a ha, hk]; rfl
theorem jLay_ln (hL : jLay t u l m b c h) {a k n : Nat} (ha : a < 654) (hk : jh_K[a]? = some (k, n)) : jl_ln h (64 + a) = n := by unfold jl_ln; rw [hL.1 a ha, hk]; rfl
theorem jLay_pt (hL : jLay t u l m b c h) {a f x : Nat} (hm : (a, f, x) ∈ jh_P) : h.2.2.1 a f = some x := hL.2.1 _ hm
theorem jLay_jg (hL : jLay t u l m b c h) {a n : Nat} (hm : (a, n) ∈ jh_J) (i : Nat) (hi : i < n) : h.2.2.1 a i = some (a + 1 + i) := hL.2.2.1 _ hm i hi
end
section
variable {t u l m b c : Nat} {h : LH} {Q : Type} {I : Nat → Nat → Int32} {k i : Nat} {x : Int32}
set_option maxRecDepth 100000 in
theorem lk_64 (hL : jLay t u l m b c h) : jl_kd h 64 = 10 := jLay_kd hL (a := 0) (by decide) rfl
theorem dK_64 (hL : jLay t u l m b c h) {X : Option Q} : jf_kd (jz_I h I) 64 10 X = X := if_pos (lk_64 hL)
theorem dG_64 (hL : jLay t u l m b c h) {K : Int32 → Option Q} : jf_gi (jz_I h I) 64 10 k K = K (I 64 k) := if_pos (lk_64 hL)
theorem dP_64 (hL : jLay t u l m b c h) {K : LH → Option Q} : jf_pi (jz_I h I) 64 10 k x K = K (jz_I h (jU I 64 (jV (I 64) k x))) := (if_pos ⟨lk_64 hL, by decide⟩).trans (by rw [jz_setI])
set_option maxRecDepth 100000 in
theorem lk_65 (hL : jLay t u l m b c h) : jl_kd h 65 = 7 := jLay_kd hL (a := 1) (by decide) rfl
theorem dK_65 (hL : jLay t u l m b c h) {X : Option Q} : jf_kd (jz_I h I) 65 7 X = X := if_pos (lk_65 hL)
theorem dG_65 (hL : jLay t u l m b c h) {K : Int32 → Option Q} : jf_gi (jz_I h I) 65 7 k K = K (I 65 k) := if_pos (lk_65 hL)
theorem dP_65 (hL : jLay t u l m b c h) {K : LH → Option Q} : jf_pi (jz_I h I) 65 7 k x K = K (jz_I h (jU I 65 (jV (I 65) k x))) := (if_pos ⟨lk_65 hL, by decide⟩).trans (by rw [jz_setI])
set_option maxRecDepth 100000 in
theorem lk_67 (hL : jLay t u l m b c h) : jl_kd h 67 = 5 := jLay_kd hL (a := 3) (by decide) rfl
theorem dK_67 (hL : jLay t u l m b c h) {X : Option Q} : jf_kd (jz_I h I) 67 5 X = X := if_pos (lk_67 hL)
theorem dG_67 (hL : jLay t u l m b c h) {K : Int32 → Option Q} : jf_gi (jz_I h I) 67 5 k K = K (I 67 k) := if_pos (lk_67 hL)
theorem dP_67 (hL : jLay t u l m b c h) {K : LH → Option Q} : jf_pi (jz_I h I) 67 5 k x K = K (jz_I h (jU I 67 (jV (I 67) k x))) := (if_pos ⟨lk_67 hL, by decide⟩).trans (by rw [jz_setI])
set_option maxRecDepth 100000 in
theorem lk_85 (hL : jLay t u l m b c h) : jl_kd h 85 = 6 := jLay_kd hL (a := 21) (by decide) rfl
theorem dK_85 (hL : jLay t u l m b c h) {X : Option Q} : jf_kd (jz_I h I) 85 6 X = X := if_pos (lk_85 hL)
theorem dG_85 (hL : jLay t u l m b c h) {K : Int32 → Option Q} : jf_gi (jz_I h I) 85 6 k K = K (I 85 k) := if_pos (lk_85 hL)
theorem dP_85 (hL : jLay t u l m b c h) {K : LH → Option Q} : jf_pi (jz_I h I) 85 6 k x K = K (jz_I h (jU I 85 (jV (I 85) k x))) := (if_pos ⟨lk_85 hL, by decide⟩).trans (by rw [jz_setI])
theorem dZ_85 (hL : jLay t u l m b c h) {K : LH → Option Q} (hx : x = 0 ∨ x = 1) : jf_pz (jz_I h I) 85 6 k x K = K (jz_I h (jU I 85 (jV (I 85) k x))) := (if_pos ⟨⟨lk_85 hL, by decide⟩, hx⟩).trans (by rw [jz_setI])
set_option maxRecDepth 100000 in
theorem lk_90 (hL : jLay t u l m b c h) : jl_kd h 90 = 6 := jLay_kd hL (a := 26) (by decide) rfl
theorem dK_90 (hL : jLay t u l m b c h) {X : Option Q} : jf_kd (jz_I h I) 90 6 X = X := if_pos (lk_90 hL)
theorem dG_90 (hL : jLay t u l m b c h) {K : Int32 → Option Q} : jf_gi (jz_I h I) 90 6 k K = K (I 90 k) := if_pos (lk_90 hL)
theorem dP_90 (hL : jLay t u l m b c h) {K : LH → Option Q} : jf_pi (jz_I h I) 90 6 k x K = K (jz_I h (jU I 90 (jV (I 90) k x))) := (if_pos ⟨lk_90 hL, by decide⟩).trans (by rw [jz_setI])
theorem dZ_90 (hL : jLay t u l m b c h) {K : LH → Option Q} (hx : x = 0 ∨ x = 1) : jf_pz (jz_I h I) 90 6 k x K = K (jz_I h (jU I 90 (jV (I 90) k x))) := (if_pos ⟨⟨lk_90 hL, by decide⟩, hx⟩).trans (by rw [jz_setI])
set_option maxRecDepth 100000 in
theorem lk_95 (hL : jLay t u l m b c h) : jl_kd h 95 = 3 := jLay_kd hL (a := 31) (by decide) rfl
theorem dK_95 (hL : jLay t u l m b c h) {X : Option Q} : jf_kd (jz_I h I) 95 3 X = X := if_pos (lk_95 hL)
theorem dG_95 (hL : jLay t u l m b c h) {K : Int32 → Option Q} : jf_gi (jz_I h I) 95 3 k K = K (I 95 k) := if_pos (lk_95 hL)
theorem dP_95 (hL : jLay t u l m b c h) {K : LH → Option Q} : jf_pi (jz_I h I) 95 3 k x K = K (jz_I h (jU I 95 (jV (I 95) k x))) := (if_pos ⟨lk_95 hL, by decide⟩).trans (by rw [jz_setI])
set_option maxRecDepth 100000 in
theorem lk_102 (hL : jLay t u l m b c h) : jl_kd h 102 = 9 := jLay_kd hL (a := 38) (by decide) rfl
theorem dK_102 (hL : jLay t u l m b c h) {X : Option Q} : jf_kd (jz_I h I) 102 9 X = X := if_pos (lk_102 hL)
theorem dG_102 (hL : jLay t u l m b c h) {K : Int32 → Option Q} : jf_gi (jz_I h I) 102 9 k K = K (I 102 k) := if_pos (lk_102 hL)
theorem dP_102 (hL : jLay t u l m b c h) {K : LH → Option Q} : jf_pi (jz_I h I) 102 9 k x K = K (jz_I h (jU I 102 (jV (I 102) k x))) := (if_pos ⟨lk_102 hL, by decide⟩).trans (by rw [jz_setI])
set_option maxRecDepth 100000 in
theorem lk_105 (hL : jLay t u l m b c h) : jl_kd h 105 = 1 := jLay_kd hL (a := 41) (by decide) rfl
theorem dK_105 (hL : jLay t u l m b c h) {X : Option Q} : jf_kd (jz_I h I) 105 1 X = X := if_pos (lk_105 hL)
theorem dG_105 (hL : jLay t u l m b c h) {K : Int32 → Option Q} : jf_gi (jz_I h I) 105 1 k K = K (I 105 k) := if_pos (lk_105 hL)
theorem dP_105 (hL : jLay t u l m b c h) {K : LH → Option Q} : jf_pi (jz_I h I) 105 1 k x K = K (jz_I h (jU I 105 (jV (I 105) k x))) := (if_pos ⟨lk_105 hL, by decide⟩).trans (by rw [jz_setI])
set_option maxRecDepth 100000 in
theorem lk_106 (hL : jLay t u l m b c h) : jl_kd h 106 = 2 := jLay_kd hL (a := 42) (by decide) rfl
theorem dK_106 (hL : jLay t u l m b c h) {X : Option Q} : jf_kd (jz_I h I) 106 2 X = X := if_pos (lk_106 hL)
theorem dG_106 (hL : jLay t u l m b c h) {K : Int32 → Option Q} : jf_gi (jz_I h I) 106 2 k K = K (I 106 k) := if_pos (lk_106 hL)
theorem dP_106 (hL : jLay t u l m b c h) {K : LH → Option Q} : jf_pi (jz_I h I) 106 2 k x K = K (jz_I h (jU I 106 (jV (I 106) k x))) := (if_pos ⟨lk_106 hL, by decide⟩).trans (by rw [jz_setI])
set_option maxRecDepth 100000 in
theorem lk_125 (hL : jLay t u l m b c h) : jl_kd h 125 = 2 := jLay_kd hL (a := 61) (by decide) rfl
theorem dK_125 (hL : jLay t u l m b c h) {X : Option Q} : jf_kd (jz_I h I) 125 2 X = X := if_pos (lk_125 hL)
theorem dG_125 (hL : jLay t u l m b c h) {K : Int32 → Option Q} : jf_gi (jz_I h I) 125 2 k K = K (I 125 k) := if_pos (lk_125 hL)
theorem dP_125 (hL : jLay t u l m b c h) {K : LH → Option Q} : jf_pi (jz_I h I) 125 2 k x K = K (jz_I h (jU I 125 (jV (I 125) k x))) := (if_pos ⟨lk_125 hL, by decide⟩).trans (by rw [jz_setI])
set_option maxRecDepth 100000 in
theorem lk_143 (hL : jLay t u l m b c h) : jl_kd h 143 = 2 := jLay_kd hL (a := 79) (by decide) rfl
theorem dK_143 (hL : jLay t u l m b c h) {X : Option Q} : jf_kd (jz_I h I) 143 2 X = X := if_pos (lk_143 hL)
theorem dG_143 (hL : jLay t u l m b c h) {K : Int32 → Option Q} : jf_gi (jz_I h I) 143 2 k K = K (I 143 k) := if_pos (lk_143 hL)
theorem dP_143 (hL : jLay t u l m b c h) {K : LH → Option Q} : jf_pi (jz_I h I) 143 2 k x K = K (jz_I h (jU I 143 (jV (I 143) k x))) := (if_pos ⟨lk_143 hL, by decide⟩).trans (by rw [jz_setI])
set_option maxRecDepth 100000 in
theorem lk_161 (hL : jLay t u l m b c h) : jl_kd h 161 = 2 := jLay_kd hL (a := 97) (by decide) rfl
theorem dK_161 (hL : jLay t u l m b c h) {X : Option Q} : jf_kd (jz_I h I) 161 2 X = X := if_pos (lk_161 hL)
theorem dG_161 (hL : jLay t u l m b c h) {K : Int32 → Option Q} : jf_gi (jz_I h I) 161 2 k K = K (I 161 k) := if_pos (lk_161 hL)
theorem dP_161 (hL : jLay t u l m b c h) {K : LH → Option Q} : jf_pi (jz_I h I) 161 2 k x K = K (jz_I h (jU I 161 (jV (I 161) k x))) := (if_pos ⟨lk_161 hL, by decide⟩).trans (by rw [jz_setI])
set_option maxRecDepth 100000 in
theorem lk_205 (hL : jLay t u l m b c h) : jl_kd h 205 = 11 := jLay_kd hL (a := 141) (by decide) rfl
theorem dK_205 (hL : jLay t u l m b c h) {X : Option Q} : jf_kd (jz_I h I) 205 11 X = X := if_pos (lk_205 hL)
theorem dG_205 (hL : jLay t u l m b c h) {K : Int32 → Option Q} : jf_gi (jz_I h I) 205 11 k K = K (I 205 k) := if_pos (lk_205 hL)
theorem dP_205 (hL : jLay t u l m b c h) {K : LH → Option Q} : jf_pi (jz_I h I) 205 11 k x K = K (jz_I h (jU I 205 (jV (I 205) k x))) := (if_pos ⟨lk_205 hL, by decide⟩).trans (by rw [jz_setI])
theorem dZ_205 (hL : jLay t u l m b c h) {K : LH → Option Q} (hx : x = 0 ∨ x = 1) : jf_pz (jz_I h I) 205 11 k x K = K (jz_I h (jU I 205 (jV (I 205) k x))) := (if_pos ⟨⟨lk_205 hL, by decide⟩, hx⟩).trans (by rw [jz_setI])
theorem dR_65_0 (hL : jLay t u l m b c h) {K : Nat → Option Q} : jf_gr (jz_I h I) 65 7 0 K = K 66 := by unfold jf_gr; rw [if_pos (show jl_kd (jz_I h I) 65 = 7 from lk_65 hL), show (jz_I h I).2.2.1 65 0 = some 66 from jLay_pt hL (by unfold jh_P; simp)]; rfl
theorem dR_64_0 (hL : jLay t u l m b c h) {K : Nat → Option Q} : jf_gr (jz_I h I) 64 10 0 K = K 65 := by unfold jf_gr; rw [if_pos (show jl_kd (jz_I h I) 64 = 10 from lk_64 hL), show (jz_I h I).2.2.1 64 0 = some 65 from jLay_pt hL (by unfold jh_P; simp)]; rfl
theorem dR_67_0 (hL : jLay t u l m b c h) {K : Nat → Option Q} : jf_gr (jz_I h I) 67 5 0 K = K 68 := by unfold jf_gr; rw [if_pos (show jl_kd (jz_I h I) 67 = 5 from lk_67 hL), show (jz_I h I).2.2.1 67 0 = some 68 from jLay_pt hL (by unfold jh_P; simp)]; rfl
theorem dR_64_1 (hL : jLay t u l m b c h) {K : Nat → Option Q} : jf_gr (jz_I h I) 64 10 1 K = K 67 := by unfold jf_gr; rw [if_pos (show jl_kd (jz_I h I) 64 = 10 from lk_64 hL), show (jz_I h I).2.2.1 64 1 = some 67 from jLay_pt hL (by unfold jh_P; simp)]; rfl
theorem dR_85_0 (hL : jLay t u l m b c h) {K : Nat → Option Q} : jf_gr (jz_I h I) 85 6 0 K = K 86 := by unfold jf_gr; rw [if_pos (show jl_kd (jz_I h I) 85 = 6 from lk_85 hL), show (jz_I h I).2.2.1 85 0 = some 86 from jLay_pt hL (by unfold jh_P; simp)]; rfl
theorem dR_85_7 (hL : jLay t u l m b c h) {K : Nat → Option Q} : jf_gr (jz_I h I) 85 6 7 K = K 87 := by unfold jf_gr; rw [if_pos (show jl_kd (jz_I h I) 85 = 6 from lk_85 hL), show (jz_I h I).2.2.1 85 7 = some 87 from jLay_pt hL (by unfold jh_P; simp)]; rfl
theorem dR_85_8 (hL : jLay t u l m b c h) {K : Nat → Option Q} : jf_gr (jz_I h I) 85 6 8 K = K 88 := by unfold jf_gr; rw [if_pos (show jl_kd (jz_I h I) 85 = 6 from lk_85 hL), show (jz_I h I).2.2.1 85 8 = some 88 from jLay_pt hL (by unfold jh_P; simp)]; rfl
theorem dR_85_9 (hL : jLay t u l m b c h) {K : Nat → Option Q} : jf_gr (jz_I h I) 85 6 9 K = K 89 := by unfold jf_gr; rw [if_pos (show jl_kd (jz_I h I) 85 = 6 from lk_85 hL), show (jz_I h I).2.2.1 85 9 = some 89 from jLay_pt hL (by unfold jh_P; simp)]; rfl
theorem dR_64_2 (hL : jLay t u l m b c h) {K : Nat → Option Q} : jf_gr (jz_I h I) 64 10 2 K = K 85 := by unfold jf_gr; rw [if_pos (show jl_kd (jz_I h I) 64 = 10 from lk_64 hL), show (jz_I h I).2.2.1 64 2 = some 85 from jLay_pt hL (by unfold jh_P; simp)]; rfl
theorem dR_90_0 (hL : jLay t u l m b c h) {K : Nat → Option Q} : jf_gr (jz_I h I) 90 6 0 K = K 91 := by unfold jf_gr; rw [if_pos (show jl_kd (jz_I h I) 90 = 6 from lk_90 hL), show (jz_I h I).2.2.1 90 0 = some 91 from jLay_pt hL (by unfold jh_P; simp)]; rfl
theorem dR_90_7 (hL : jLay t u l m b c h) {K : Nat → Option Q} : jf_gr (jz_I h I) 90 6 7 K = K 92 := by unfold jf_gr; rw [if_pos (show jl_kd (jz_I h I) 90 = 6 from lk_90 hL), show (jz_I h I).2.2.1 90 7 = some 92 from jLay_pt hL (by unfold jh_P; simp)]; rfl
theorem dR_90_8 (hL : jLay t u l m b c h) {K : Nat → Option Q} : jf_gr (jz_I h I) 90 6 8 K = K 93 := by unfold jf_gr; rw [if_pos (show jl_kd (jz_I h I) 90 = 6 from lk_90 hL), show (jz_I h I).2.2.1 90 8 = some 93 from jLay_pt hL (by unfold jh_P; simp)]; rfl
theorem dR_90_9 (hL : jLay t u l m b c h) {K : Nat → Option Q} : jf_gr (jz_I h I) 90 6 9 K = K 94 := by unfold jf_gr; rw [if_pos (show jl_kd (jz_I h I) 90 = 6 from lk_90 hL), show (jz_I h I).2.2.1 90 9 = some 94 from jLay_pt hL (by unfold jh_P; simp)]; rfl
theorem dR_64_3 (hL : jLay t u l m b c h) {K : Nat → Option Q} : jf_gr (jz_I h I) 64 10 3 K = K 90 := by unfold jf_gr; rw [if_pos (show jl_kd (jz_I h I) 64 = 10 from lk_64 hL), show (jz_I h I).2.2.1 64 3 = some 90 from jLay_pt hL (by unfold jh_P; simp)]; rfl
theorem dR_95_1 (hL : jLay t u l m b c h) {K : Nat → Option Q} : jf_gr (jz_I h I) 95 3 1 K = K 96 := by unfold jf_gr; rw [if_pos (show jl_kd (jz_I h I) 95 = 3 from lk_95 hL), show (jz_I h I).2.2.1 95 1 = some 96 from jLay_pt hL (by unfold jh_P; simp)]; rfl
theorem dR_95_0 (hL : jLay t u l m b c h) {K : Nat → Option Q} : jf_gr (jz_I h I) 95 3 0 K = K 90 := by unfold jf_gr; rw [if_pos (show jl_kd (jz_I h I) 95 = 3 from lk_95 hL), show (jz_I h I).2.2.1 95 0 = some 90 from jLay_pt hL (by unfold jh_P; simp)]; rfl
theorem dR_64_4 (hL : jLay t u l m b c h) {K : Nat → Option Q} : jf_gr (jz_I h I) 64 10 4 K = K 95 := by unfold jf_gr; rw [if_pos (show jl_kd (jz_I h I) 64 = 10 from lk_64 hL), show (jz_I h I).2.2.1 64 4 = some 95 from jLay_pt hL (by unfold jh_P; simp)]; rfl
theorem dR_102_1 (hL : jLay t u l m b c h) {K : Nat → Option Q} : jf_gr (jz_I h I) 102 9 1 K = K 103 := by unfold jf_gr; rw [if_pos (show jl_kd (jz_I h I) 102 = 9 from lk_102 hL), show (jz_I h I).2.2.1 102 1 = some 103 from jLay_pt hL (by unfold jh_P; simp)]; rfl
theorem dR_102_2 (hL : jLay t u l m b c h) {K : Nat → Option Q} : jf_gr (jz_I h I) 102 9 2 K = K 104 := by unfold jf_gr; rw [if_pos (show jl_kd (jz_I h I) 102 = 9 from lk_102 hL), show (jz_I h I).2.2.1 102 2 = some 104 from jLay_pt hL (by unfold jh_P; simp)]; rfl
theorem dR_102_0 (hL : jLay t u l m b c h) {K : Nat → Option Q} : jf_gr (jz_I h I) 102 9 0 K = K 90 := by unfold jf_gr; rw [if_pos (show jl_kd (jz_I h I) 102 = 9 from lk_102 hL), show (jz_I h I).2.2.1 102 0 = some 90 from jLay_pt hL (by unfold jh_P; simp)]; rfl
theorem dR_64_5 (hL : jLay t u l m b c h) {K : Nat → Option Q} : jf_gr (jz_I h I) 64 10 5 K = K 102 := by unfold jf_gr; rw [if_pos (show jl_kd (jz_I h I) 64 = 10 from lk_64 hL), show (jz_I h I).2.2.1 64 5 = some 102 from jLay_pt hL (by unfold jh_P; simp)]; rfl
theorem dR_105_0 (hL : jLay t u l m b c h) {K : Nat → Option Q} : jf_gr (jz_I h I) 105 1 0 K = K 90 := by unfold jf_gr; rw [if_pos (show jl_kd (jz_I h I) 105 = 1 from lk_105 hL), show (jz_I h I).2.2.1 105 0 = some 90 from jLay_pt hL (by unfold jh_P; simp)]; rfl
theorem dR_64_6 (hL : jLay t u l m b c h) {K : Nat → Option Q} : jf_gr (jz_I h I) 64 10 6 K = K 105 := by unfold jf_gr; rw [if_pos (show jl_kd (jz_I h I) 64 = 10 from lk_64 hL), show (jz_I h I).2.2.1 64 6 = some 105 from jLay_pt hL (by unfold jh_P; simp)]; rfl
theorem dR_106_0 (hL : jLay t u l m b c h) {K : Nat → Option Q} : jf_gr (jz_I h I) 106 2 0 K = K 107 := by unfold jf_gr; rw [if_pos (show jl_kd (jz_I h I) 106 = 2 from lk_106 hL), show (jz_I h I).2.2.1 106 0 = some 107 from jLay_pt hL (by unfold jh_P; simp)]; rfl
theorem dR_64_7 (hL : jLay t u l m b c h) {K : Nat → Option Q} : jf_gr (jz_I h I) 64 10 7 K = K 106 := by unfold jf_gr; rw [if_pos (show jl_kd (jz_I h I) 64 = 10 from lk_64 hL), show (jz_I h I).2.2.1 64 7 = some 106 from jLay_pt hL (by unfold jh_P; simp)]; rfl
theorem dR_64_8 (hL : jLay t u l m b c h) {K : Nat → Option Q} : jf_gr (jz_I h I) 64 10 8 K = K 124 := by unfold jf_gr; rw [if_pos (show jl_kd (jz_I h I) 64 = 10 from lk_64 hL), show (jz_I h I).2.2.1 64 8 = some 124 from jLay_pt hL (by unfold jh_P; simp)]; rfl
theorem dR_125_0 (hL : jLay t u l m b c h) {K : Nat → Option Q} : jf_gr (jz_I h I) 125 2 0 K = K 126 := by unfold jf_gr; rw [if_pos (show jl_kd (jz_I h I) 125 = 2 from lk_125 hL), show (jz_I h I).2.2.1 125 0 = some 126 from jLay_pt hL (by unfold jh_P; simp)]; rfl
theorem dR_143_0 (hL : jLay t u l m b c h) {K : Nat → Option Q} : jf_gr (jz_I h I) 143 2 0 K = K 144 := by unfold jf_gr; rw [if_pos (show jl_kd (jz_I h I) 143 = 2 from lk_143 hL), show (jz_I h I).2.2.1 143 0 = some 144 from jLay_pt hL (by unfold jh_P; simp)]; rfl
theorem dR_161_0 (hL : jLay t u l m b c h) {K : Nat → Option Q} : jf_gr (jz_I h I) 161 2 0 K = K 162 := by unfold jf_gr; rw [if_pos (show jl_kd (jz_I h I) 161 = 2 from lk_161 hL), show (jz_I h I).2.2.1 161 0 = some 162 from jLay_pt hL (by unfold jh_P; simp)]; rfl
theorem dR_64_9 (hL : jLay t u l m b c h) {K : Nat → Option Q} : jf_gr (jz_I h I) 64 10 9 K = K 179 := by unfold jf_gr; rw [if_pos (show jl_kd (jz_I h I) 64 = 10 from lk_64 hL), show (jz_I h I).2.2.1 64 9 = some 179 from jLay_pt hL (by unfold jh_P; simp)]; rfl
theorem dR_205_9 (hL : jLay t u l m b c h) {K : Nat → Option Q} : jf_gr (jz_I h I) 205 11 9 K = K 206 := by unfold jf_gr; rw [if_pos (show jl_kd (jz_I h I) 205 = 11 from lk_205 hL), show (jz_I h I).2.2.1 205 9 = some 206 from jLay_pt hL (by unfold jh_P; simp)]; rfl
theorem dR_205_10 (hL : jLay t u l m b c h) {K : Nat → Option Q} : jf_gr (jz_I h I) 205 11 10 K = K 207 := by unfold jf_gr; rw [if_pos (show jl_kd (jz_I h I) 205 = 11 from lk_205 hL), show (jz_I h I).2.2.1 205 10 = some 207 from jLay_pt hL (by unfold jh_P; simp)]; rfl
theorem dR_205_11 (hL : jLay t u l m b c h) {K : Nat → Option Q} : jf_gr (jz_I h I) 205 11 11 K = K 208 := by unfold jf_gr; rw [if_pos (show jl_kd (jz_I h I) 205 = 11 from lk_205 hL), show (jz_I h I).2.2.1 205 11 = some 208 from jLay_pt hL (by unfold jh_P; simp)]; rfl
theorem dR_205_12 (hL : jLay t u l m b c h) {K : Nat → Option Q} : jf_gr (jz_I h I) 205 11 12 K = K 209 := by unfold jf_gr; rw [if_pos (show jl_kd (jz_I h I) 205 = 11 from lk_205 hL), show (jz_I h I).2.2.1 205 12 = some 209 from jLay_pt hL (by unfold jh_P; simp)]; rfl
theorem dR_205_13 (hL : jLay t u l m b c h) {K : Nat → Option Q} : jf_gr (jz_I h I) 205 11 13 K = K 210 := by unfold jf_gr; rw [if_pos (show jl_kd (jz_I h I) 205 = 11 from lk_205 hL), show (jz_I h I).2.2.1 205 13 = some 210 from jLay_pt hL (by unfold jh_P; simp)]; rfl
theorem dR_205_14 (hL : jLay t u l m b c h) {K : Nat → Option Q} : jf_gr (jz_I h I) 205 11 14 K = K 211 := by unfold jf_gr; rw [if_pos (show jl_kd (jz_I h I) 205 = 11 from lk_205 hL), show (jz_I h I).2.2.1 205 14 = some 211 from jLay_pt hL (by unfold jh_P; simp)]; rfl
theorem dR_205_15 (hL : jLay t u l m b c h) {K : Nat → Option Q} : jf_gr (jz_I h I) 205 11 15 K = K 212 := by unfold jf_gr; rw [if_pos (show jl_kd (jz_I h I) 205 = 11 from lk_205 hL), show (jz_I h I).2.2.1 205 15 = some 212 from jLay_pt hL (by unfold jh_P; simp)]; rfl
theorem dR_205_16 (hL : jLay t u l m b c h) {K : Nat → Option Q} : jf_gr (jz_I h I) 205 11 16 K = K 213 := by unfold jf_gr; rw [if_pos (show jl_kd (jz_I h I) 205 = 11 from lk_205 hL), show (jz_I h I).2.2.1 205 16 = some 213 from jLay_pt hL (by unfold jh_P; simp)]; rfl
theorem dR_205_17 (hL : jLay t u l m b c h) {K : Nat → Option Q} : jf_gr (jz_I h I) 205 11 17 K = K 214 := by unfold jf_gr; rw [if_pos (show jl_kd (jz_I h I) 205 = 11 from lk_205 hL), show (jz_I h I).2.2.1 205 17 = some 214 from jLay_pt hL (by unfold jh_P; simp)]; rfl
theorem dR_205_18 (hL : jLay t u l m b c h) {K : Nat → Option Q} : jf_gr (jz_I h I) 205 11 18 K = K 215 := by unfold jf_gr; rw [if_pos (show jl_kd (jz_I h I) 205 = 11 from lk_205 hL), show (jz_I h I).2.2.1 205 18 = some 215 from jLay_pt hL (by unfold jh_P; simp)]; rfl
theorem dR_205_19 (hL : jLay t u l m b c h) {K : Nat → Option Q} : jf_gr (jz_I h I) 205 11 19 K = K 216 := by unfold jf_gr; rw [if_pos (show jl_kd (jz_I h I) 205 = 11 from lk_205 hL), show (jz_I h I).2.2.1 205 19 = some 216 from jLay_pt hL (by unfold jh_P; simp)]; rfl
theorem dR_205_20 (hL : jLay t u l m b c h) {K : Nat → Option Q} : jf_gr (jz_I h I) 205 11 20 K = K 223 := by unfold jf_gr; rw [if_pos (show jl_kd (jz_I h I) 205 = 11 from lk_205 hL), show (jz_I h I).2.2.1 205 20 = some 223 from jLay_pt hL (by unfold jh_P; simp)]; rfl
theorem dR_205_21 (hL : jLay t u l m b c h) {K : Nat → Option Q} : jf_gr (jz_I h I) 205 11 21 K = K 230 := by unfold jf_gr; rw [if_pos (show jl_kd (jz_I h I) 205 = 11 from lk_205 hL), show (jz_I h I).2.2.1 205 21 = some 230 from jLay_pt hL (by unfold jh_P; simp)]; rfl
theorem dR_205_22 (hL : jLay t u l m b c h) {K : Nat → Option Q} : jf_gr (jz_I h I) 205 11 22 K = K 241 := by unfold jf_gr; rw [if_pos (show jl_kd (jz_I h I) 205 = 11 from lk_205 hL), show (jz_I h I).2.2.1 205 22 = some 241 from jLay_pt hL (by unfold jh_P; simp)]; rfl
theorem dR_205_23 (hL : jLay t u l m b c h) {K : Nat → Option Q} : jf_gr (jz_I h I) 205 11 23 K = K 252 := by unfold jf_gr; rw [if_pos (show jl_kd (jz_I h I) 205 = 11 from lk_205 hL), show (jz_I h I).2.2.1 205 23 = some 252 from jLay_pt hL (by unfold jh_P; simp)]; rfl
theorem dR_205_24 (hL : jLay t u l m b c h) {K : Nat → Option Q} : jf_gr (jz_I h I) 205 11 24 K = K 259 := by unfold jf_gr; rw [if_pos (show jl_kd (jz_I h I) 205 = 11 from lk_205 hL), show (jz_I h I).2.2.1 205 24 = some 259 from jLay_pt hL (by unfold jh_P; simp)]; rfl
theorem dR_205_27 (hL : jLay t u l m b c h) {K : Nat → Option Q} : jf_gr (jz_I h I) 205 11 27 K = K 266 := by unfold jf_gr; rw [if_pos (show jl_kd (jz_I h I) 205 = 11 from lk_205 hL), show (jz_I h I).2.2.1 205 27 = some 266 from jLay_pt hL (by unfold jh_P; simp)]; rfl
theorem dR_205_28 (hL : jLay t u l m b c h) {K : Nat → Option Q} : jf_gr (jz_I h I) 205 11 28 K = K 427 := by unfold jf_gr; rw [if_pos (show jl_kd (jz_I h I) 205 = 11 from lk_205 hL), show (jz_I h I).2.2.1 205 28 = some 427 from jLay_pt hL (by unfold jh_P; simp)]; rfl
theorem dR_205_29 (hL : jLay t u l m b c h) {K : Nat → Option Q} : jf_gr (jz_I h I) 205 11 29 K = K 588 := by unfold jf_gr; rw [if_pos (show jl_kd (jz_I h I) 205 = 11 from lk_205 hL), show (jz_I h I).2.2.1 205 29 = some 588 from jLay_pt hL (by unfold jh_P; simp)]; rfl
theorem dR_205_30 (hL : jLay t u l m b c h) {K : Nat → Option Q} : jf_gr (jz_I h I) 205 11 30 K = K 598 := by unfold jf_gr; rw [if_pos (show jl_kd (jz_I h I) 205 = 11 from lk_205 hL), show (jz_I h I).2.2.1 205 30 = some 598 from jLay_pt hL (by unfold jh_P; simp)]; rfl
theorem dR_205_31 (hL : jLay t u l m b c h) {K : Nat → Option Q} : jf_gr (jz_I h I) 205 11 31 K = K 608 := by unfold jf_gr; rw [if_pos (show jl_kd (jz_I h I) 205 = 11 from lk_205 hL), show (jz_I h I).2.2.1 205 31 = some 608 from jLay_pt hL (by unfold jh_P; simp)]; rfl
theorem dR_205_32 (hL : jLay t u l m b c h) {K : Nat → Option Q} : jf_gr (jz_I h I) 205 11 32 K = K 609 := by unfold jf_gr; rw [if_pos (show jl_kd (jz_I h I) 205 = 11 from lk_205 hL), show (jz_I h I).2.2.1 205 32 = some 609 from jLay_pt hL (by unfold jh_P; simp)]; rfl
theorem dR_205_33 (hL : jLay t u l m b c h) {K : Nat → Option Q} : jf_gr (jz_I h I) 205 11 33 K = K 610 := by unfold jf_gr; rw [if_pos (show jl_kd (jz_I h I) 205 = 11 from lk_205 hL), show (jz_I h I).2.2.1 205 33 = some 610 from jLay_pt hL (by unfold jh_P; simp)]; rfl
theorem dR_205_35 (hL : jLay t u l m b c h) {K : Nat → Option Q} : jf_gr (jz_I h I) 205 11 35 K = K 691 := by unfold jf_gr; rw [if_pos (show jl_kd (jz_I h I) 205 = 11 from lk_205 hL), show (jz_I h I).2.2.1 205 35 = some 691 from jLay_pt hL (by unfold jh_P; simp)]; rfl
theorem dR_205_36 (hL : jLay t u l m b c h) {K : Nat → Option Q} : jf_gr (jz_I h I) 205 11 36 K = K 692 := by unfold jf_gr; rw [if_pos (show jl_kd (jz_I h I) 205 = 11 from lk_205 hL), show (jz_I h I).2.2.1 205 36 = some 692 from jLay_pt hL (by unfold jh_P; simp)]; rfl
theorem dR_205_37 (hL : jLay t u l m b c h) {K : Nat → Option Q} : jf_gr (jz_I h I) 205 11 37 K = K 693 := by unfold jf_gr; rw [if_pos (show jl_kd (jz_I h I) 205 = 11 from lk_205 hL), show (jz_I h I).2.2.1 205 37 = some 693 from jLay_pt hL (by unfold jh_P; simp)]; rfl
theorem dR_205_38 (hL : jLay t u l m b c h) {K : Nat → Option Q} : jf_gr (jz_I h I) 205 11 38 K = K 710 := by unfold jf_gr; rw [if_pos (show jl_kd (jz_I h I) 205 = 11 from lk_205 hL), show (jz_I h I).2.2.1 205 38 = some 710 from jLay_pt hL (by unfold jh_P; simp)]; rfl
theorem dR_205_47 (hL : jLay t u l m b c h) {K : Nat → Option Q} : jf_gr (jz_I h I) 205 11 47 K = K 714 := by unfold jf_gr; rw [if_pos (show jl_kd (jz_I h I) 205 = 11 from lk_205 hL), show (jz_I h I).2.2.1 205 47 = some 714 from jLay_pt hL (by unfold jh_P; simp)]; rfl
theorem dR_205_48 (hL : jLay t u l m b c h) {K : Nat → Option Q} : jf_gr (jz_I h I) 205 11 48 K = K 715 := by unfold jf_gr; rw [if_pos (show jl_kd (jz_I h I) 205 = 11 from lk_205 hL), show (jz_I h I).2.2.1 205 48 = some 715 from jLay_pt hL (by unfold jh_P; simp)]; rfl
theorem dR_205_49 (hL : jLay t u l m b c h) {K : Nat → Option Q} : jf_gr (jz_I h I) 205 11 49 K = K 716 := by unfold jf_gr; rw [if_pos (show jl_kd (jz_I h I) 205 = 11 from lk_205 hL), show (jz_I h I).2.2.1 205 49 = some 716 from jLay_pt hL (by unfold jh_P; simp)]; rfl
theorem dR_85_1 (hL : jLay t u l m b c h) {K : Nat → Option Q} : jf_gr (jz_I h I) 85 6 1 K = K t := by unfold jf_gr; rw [if_pos (show jl_kd (jz_I h I) 85 = 6 from lk_85 hL), show (jz_I h I).2.2.1 85 1 = some t from hL.2.2.2.2.2.2.2.1]; rfl
theorem dR_90_1 (hL : jLay t u l m b c h) {K : Nat → Option Q} : jf_gr (jz_I h I) 90 6 1 K = K t := by unfold jf_gr; rw [if_pos (show jl_kd (jz_I h I) 90 = 6 from lk_90 hL), show (jz_I h I).2.2.1 90 1 = some t from hL.2.2.2.2.2.2.2.2.1]; rfl
theorem dR_64_10 (hL : jLay t u l m b c h) {K : Nat → Option Q} : jf_gr (jz_I h I) 64 10 10 K = K u := by unfold jf_gr; rw [if_pos (show jl_kd (jz_I h I) 64 = 10 from lk_64 hL), show (jz_I h I).2.2.1 64 10 = some u from hL.2.2.2.2.2.2.2.2.2.1]; rfl
theorem dR_85_2 (hL : jLay t u l m b c h) {K : Nat → Option Q} : jf_gr (jz_I h I) 85 6 2 K = K l := by unfold jf_gr; rw [if_pos (show jl_kd (jz_I h I) 85 = 6 from lk_85 hL), show (jz_I h I).2.2.1 85 2 = some l from hL.2.2.2.2.2.2.2.2.2.2.1]; rfl
theorem dR_90_2 (hL : jLay t u l m b c h) {K : Nat → Option Q} : jf_gr (jz_I h I) 90 6 2 K = K l := by unfold jf_gr; rw [if_pos (show jl_kd (jz_I h I) 90 = 6 from lk_90 hL), show (jz_I h I).2.2.1 90 2 = some l from hL.2.2.2.2.2.2.2.2.2.2.2.1]; rfl
theorem dR_64_11 (hL : jLay t u l m b c h) {K : Nat → Option Q} : jf_gr (jz_I h I) 64 10 11 K = K m := by unfold jf_gr; rw [if_pos (show jl_kd (jz_I h I) 64 = 10 from lk_64 hL), show (jz_I h I).2.2.1 64 11 = some m from hL.2.2.2.2.2.2.2.2.2.2.2.2.1]; rfl
theorem dR_64_12 (hL : jLay t u l m b c h) {K : Nat → Option Q} : jf_gr (jz_I h I) 64 10 12 K = K b := by unfold jf_gr; rw [if_pos (show jl_kd (jz_I h I) 64 = 10 from lk_64 hL), show (jz_I h I).2.2.1 64 12 = some b from hL.2.2.2.2.2.2.2.2.2.2.2.2.2.1]; rfl
theorem dR_64_13 (hL : jLay t u l m b c h) {K : Nat → Option Q} : jf_gr (jz_I h I) 64 10 13 K = K c := by unfold jf_gr; rw [if_pos (show jl_kd (jz_I h I) 64 = 10 from lk_64 hL), show (jz_I h I).2.2.1 64 13 = some c from hL.2.2.2.2.2.2.2.2.2.2.2.2.2.2]; rfl
set_option maxRecDepth 100000 in
theorem lk_66 (hL : jLay t u l m b c h) : jl_kd h 66 = 21 := jLay_kd hL (a := 2) (by decide) rfl
set_option maxRecDepth 100000 in
theorem ll_66 (hL : jLay t u l m b c h) : jl_ln h 66 = 600 := jLay_ln hL (a := 2) (by decide) rfl
theorem dI_66 (hL : jLay t u l m b c h) {K : Int32 → Option Q} (hi : i < 600) : jf_ba (jz_I h I) 66 (nI i) K = K (I 66 i) := kq_ba (by rw [lk_66 hL]; decide) (by rw [ll_66 hL]; exact hi) (Nat.lt_trans hi (by decide))
theorem dS_66 (hL : jLay t u l m b c h) {K : LH → Option Q} (hi : i < 600) : jf_bs (jz_I h I) 66 (nI i) x K = K (jz_I h (jU I 66 (jV (I 66) i (vp_nar .byte x)))) := kq_bsb (lk_66 hL) (by decide) (by rw [ll_66 hL]; exact hi) (Nat.lt_trans hi (by decide))
set_option maxRecDepth 100000 in
theorem lk_68 (hL : jLay t u l m b c h) : jl_kd h 68 = 20 := jLay_kd hL (a := 4) (by decide) rfl
set_option maxRecDepth 100000 in
theorem ll_68 (hL : jLay t u l m b c h) : jl_ln h 68 = 450 := jLay_ln hL (a := 4) (by decide) rfl
theorem dI_68 (hL : jLay t u l m b c h) {K : Int32 → Option Q} (hi : i < 450) : jf_ia (jz_I h I) 68 (nI i) K = K (I 68 i) := kq_ia (lk_68 hL) (by rw [ll_68 hL]; exact hi) (Nat.lt_trans hi (by decide))
theorem dS_68 (hL : jLay t u l m b c h) {K : LH → Option Q} (hi : i < 450) : jf_is (jz_I h I) 68 (nI i) x K = K (jz_I h (jU I 68 (jV (I 68) i x))) := kq_is (lk_68 hL) (by decide) (by rw [ll_68 hL]; exact hi) (Nat.lt_trans hi (by decide))
set_option maxRecDepth 100000 in
theorem lk_86 (hL : jLay t u l m b c h) : jl_kd h 86 = 20 := jLay_kd hL (a := 22) (by decide) rfl
set_option maxRecDepth 100000 in
theorem ll_86 (hL : jLay t u l m b c h) : jl_ln h 86 = 134 := jLay_ln hL (a := 22) (by decide) rfl
theorem dI_86 (hL : jLay t u l m b c h) {K : Int32 → Option Q} (hi : i < 134) : jf_ia (jz_I h I) 86 (nI i) K = K (I 86 i) := kq_ia (lk_86 hL) (by rw [ll_86 hL]; exact hi) (Nat.lt_trans hi (by decide))
theorem dS_86 (hL : jLay t u l m b c h) {K : LH → Option Q} (hi : i < 134) : jf_is (jz_I h I) 86 (nI i) x K = K (jz_I h (jU I 86 (jV (I 86) i x))) := kq_is (lk_86 hL) (by decide) (by rw [ll_86 hL]; exact hi) (Nat.lt_trans hi (by decide))
set_option maxRecDepth 100000 in
theorem lk_87 (hL : jLay t u l m b c h) : jl_kd h 87 = 20 := jLay_kd hL (a := 23) (by decide) rfl
set_option maxRecDepth 100000 in
theorem ll_87 (hL : jLay t u l m b c h) : jl_ln h 87 = 9 := jLay_ln hL (a := 23) (by decide) rfl
theorem dI_87 (hL : jLay t u l m b c h) {K : Int32 → Option Q} (hi : i < 9) : jf_ia (jz_I h I) 87 (nI i) K = K (I 87 i) := kq_ia (lk_87 hL) (by rw [ll_87 hL]; exact hi) (Nat.lt_trans hi (by decide))
theorem dS_87 (hL : jLay t u l m b c h) {K : LH → Option Q} (hi : i < 9) : jf_is (jz_I h I) 87 (nI i) x K = K (jz_I h (jU I 87 (jV (I 87) i x))) := kq_is (lk_87 hL) (by decide) (by rw [ll_87 hL]; exact hi) (Nat.lt_trans hi (by decide))
set_option maxRecDepth 100000 in
theorem lk_88 (hL : jLay t u l m b c h) : jl_kd h 88 = 20 := jLay_kd hL (a := 24) (by decide) rfl
set_option maxRecDepth 100000 in
theorem ll_88 (hL : jLay t u l m b c h) : jl_ln h 88 = 9 := jLay_ln hL (a := 24) (by decide) rfl
theorem dI_88 (hL : jLay t u l m b c h) {K : Int32 → Option Q} (hi : i < 9) : jf_ia (jz_I h I) 88 (nI i) K = K (I 88 i) := kq_ia (lk_88 hL) (by rw [ll_88 hL]; exact hi) (Nat.lt_trans hi (by decide))
theorem dS_88 (hL : jLay t u l m b c h) {K : LH → Option Q} (hi : i < 9) : jf_is (jz_I h I) 88 (nI i) x K = K (jz_I h (jU I 88 (jV (I 88) i x))) := kq_is (lk_88 hL) (by decide) (by rw [ll_88 hL]; exact hi) (Nat.lt_trans hi (by decide))
set_option maxRecDepth 100000 in
theorem lk_89 (hL : jLay t u l m b c h) : jl_kd h 89 = 20 := jLay_kd hL (a := 25) (by decide) rfl
set_option maxRecDepth 100000 in
theorem ll_89 (hL : jLay t u l m b c h) : jl_ln h 89 = 7 := jLay_ln hL (a := 25) (by decide) rfl
theorem dI_89 (hL : jLay t u l m b c h) {K : Int32 → Option Q} (hi : i < 7) : jf_ia (jz_I h I) 89 (nI i) K = K (I 89 i) := kq_ia (lk_89 hL) (by rw [ll_89 hL]; exact hi) (Nat.lt_trans hi (by decide))
theorem dS_89 (hL : jLay t u l m b c h) {K : LH → Option Q} (hi : i < 7) : jf_is (jz_I h I) 89 (nI i) x K = K (jz_I h (jU I 89 (jV (I 89) i x))) := kq_is (lk_89 hL) (by decide) (by rw [ll_89 hL]; exact hi) (Nat.lt_trans hi (by decide))
set_option maxRecDepth 100000 in
theorem lk_91 (hL : jLay t u l m b c h) : jl_kd h 91 = 20 := jLay_kd hL (a := 27) (by decide) rfl
set_option maxRecDepth 100000 in
theorem ll_91 (hL : jLay t u l m b c h) : jl_ln h 91 = 134 := jLay_ln hL (a := 27) (by decide) rfl
theorem dI_91 (hL : jLay t u l m b c h) {K : Int32 → Option Q} (hi : i < 134) : jf_ia (jz_I h I) 91 (nI i) K = K (I 91 i) := kq_ia (lk_91 hL) (by rw [ll_91 hL]; exact hi) (Nat.lt_trans hi (by decide))
theorem dS_91 (hL : jLay t u l m b c h) {K : LH → Option Q} (hi : i < 134) : jf_is (jz_I h I) 91 (nI i) x K = K (jz_I h (jU I 91 (jV (I 91) i x))) := kq_is (lk_91 hL) (by decide) (by rw [ll_91 hL]; exact hi) (Nat.lt_trans hi (by decide))
set_option maxRecDepth 100000 in
theorem lk_92 (hL : jLay t u l m b c h) : jl_kd h 92 = 20 := jLay_kd hL (a := 28) (by decide) rfl
set_option maxRecDepth 100000 in
theorem ll_92 (hL : jLay t u l m b c h) : jl_ln h 92 = 9 := jLay_ln hL (a := 28) (by decide) rfl
theorem dI_92 (hL : jLay t u l m b c h) {K : Int32 → Option Q} (hi : i < 9) : jf_ia (jz_I h I) 92 (nI i) K = K (I 92 i) := kq_ia (lk_92 hL) (by rw [ll_92 hL]; exact hi) (Nat.lt_trans hi (by decide))
theorem dS_92 (hL : jLay t u l m b c h) {K : LH → Option Q} (hi : i < 9) : jf_is (jz_I h I) 92 (nI i) x K = K (jz_I h (jU I 92 (jV (I 92) i x))) := kq_is (lk_92 hL) (by decide) (by rw [ll_92 hL]; exact hi) (Nat.lt_trans hi (by decide))
set_option maxRecDepth 100000 in
theorem lk_93 (hL : jLay t u l m b c h) : jl_kd h 93 = 20 := jLay_kd hL (a := 29) (by decide) rfl
set_option maxRecDepth 100000 in
theorem ll_93 (hL : jLay t u l m b c h) : jl_ln h 93 = 9 := jLay_ln hL (a := 29) (by decide) rfl
theorem dI_93 (hL : jLay t u l m b c h) {K : Int32 → Option Q} (hi : i < 9) : jf_ia (jz_I h I) 93 (nI i) K = K (I 93 i) := kq_ia (lk_93 hL) (by rw [ll_93 hL]; exact hi) (Nat.lt_trans hi (by decide))
theorem dS_93 (hL : jLay t u l m b c h) {K : LH → Option Q} (hi : i < 9) : jf_is (jz_I h I) 93 (nI i) x K = K (jz_I h (jU I 93 (jV (I 93) i x))) := kq_is (lk_93 hL) (by decide) (by rw [ll_93 hL]; exact hi) (Nat.lt_trans hi (by decide))
set_option maxRecDepth 100000 in
theorem lk_94 (hL : jLay t u l m b c h) : jl_kd h 94 = 20 := jLay_kd hL (a := 30) (by decide) rfl
set_option maxRecDepth 100000 in
theorem ll_94 (hL : jLay t u l m b c h) : jl_ln h 94 = 7 := jLay_ln hL (a := 30) (by decide) rfl
theorem dI_94 (hL : jLay t u l m b c h) {K : Int32 → Option Q} (hi : i < 7) : jf_ia (jz_I h I) 94 (nI i) K = K (I 94 i) := kq_ia (lk_94 hL) (by rw [ll_94 hL]; exact hi) (Nat.lt_trans hi (by decide))
theorem dS_94 (hL : jLay t u l m b c h) {K : LH → Option Q} (hi : i < 7) : jf_is (jz_I h I) 94 (nI i) x K = K (jz_I h (jU I 94 (jV (I 94) i x))) := kq_is (lk_94 hL) (by decide) (by rw [ll_94 hL]; exact hi) (Nat.lt_trans hi (by decide))
set_option maxRecDepth 100000 in
theorem lk_103 (hL : jLay t u l m b c h) : jl_kd h 103 = 22 := jLay_kd hL (a := 39) (by decide) rfl
set_option maxRecDepth 100000 in
theorem ll_103 (hL : jLay t u l m b c h) : jl_ln h 103 = 216 := jLay_ln hL (a := 39) (by decide) rfl
theorem dI_103 (hL : jLay t u l m b c h) {K : Int32 → Option Q} (hi : i < 216) : jf_ba (jz_I h I) 103 (nI i) K = K (I 103 i) := kq_ba (by rw [lk_103 hL]; decide) (by rw [ll_103 hL]; exact hi) (Nat.lt_trans hi (by decide))
theorem dS_103 (hL : jLay t u l m b c h) {K : LH → Option Q} (hi : i < 216) : jf_bs (jz_I h I) 103 (nI i) x K = K (jz_I h (jU I 103 (jV (I 103) i (vp_nar .boolean x)))) := kq_bsz (lk_103 hL) (by decide) (by rw [ll_103 hL]; exact hi) (Nat.lt_trans hi (by decide))
set_option maxRecDepth 100000 in
theorem lk_104 (hL : jLay t u l m b c h) : jl_kd h 104 = 20 := jLay_kd hL (a := 40) (by decide) rfl
set_option maxRecDepth 100000 in
theorem ll_104 (hL : jLay t u l m b c h) : jl_ln h 104 = 9 := jLay_ln hL (a := 40) (by decide) rfl
theorem dI_104 (hL : jLay t u l m b c h) {K : Int32 → Option Q} (hi : i < 9) : jf_ia (jz_I h I) 104 (nI i) K = K (I 104 i) := kq_ia (lk_104 hL) (by rw [ll_104 hL]; exact hi) (Nat.lt_trans hi (by decide))
theorem dS_104 (hL : jLay t u l m b c h) {K : LH → Option Q} (hi : i < 9) : jf_is (jz_I h I) 104 (nI i) x K = K (jz_I h (jU I 104 (jV (I 104) i x))) := kq_is (lk_104 hL) (by decide) (by rw [ll_104 hL]; exact hi) (Nat.lt_trans hi (by decide))
set_option maxRecDepth 100000 in
theorem lk_206 (hL : jLay t u l m b c h) : jl_kd h 206 = 20 := jLay_kd hL (a := 142) (by decide) rfl
set_option maxRecDepth 100000 in
theorem ll_206 (hL : jLay t u l m b c h) : jl_ln h 206 = 600 := jLay_ln hL (a := 142) (by decide) rfl
theorem dI_206 (hL : jLay t u l m b c h) {K : Int32 → Option Q} (hi : i < 600) : jf_ia (jz_I h I) 206 (nI i) K = K (I 206 i) := kq_ia (lk_206 hL) (by rw [ll_206 hL]; exact hi) (Nat.lt_trans hi (by decide))
theorem dS_206 (hL : jLay t u l m b c h) {K : LH → Option Q} (hi : i < 600) : jf_is (jz_I h I) 206 (nI i) x K = K (jz_I h (jU I 206 (jV (I 206) i x))) := kq_is (lk_206 hL) (by decide) (by rw [ll_206 hL]; exact hi) (Nat.lt_trans hi (by decide))
set_option maxRecDepth 100000 in
theorem lk_207 (hL : jLay t u l m b c h) : jl_kd h 207 = 20 := jLay_kd hL (a := 143) (by decide) rfl
set_option maxRecDepth 100000 in
theorem ll_207 (hL : jLay t u l m b c h) : jl_ln h 207 = 2 := jLay_ln hL (a := 143) (by decide) rfl
theorem dI_207 (hL : jLay t u l m b c h) {K : Int32 → Option Q} (hi : i < 2) : jf_ia (jz_I h I) 207 (nI i) K = K (I 207 i) := kq_ia (lk_207 hL) (by rw [ll_207 hL]; exact hi) (Nat.lt_trans hi (by decide))
theorem dS_207 (hL : jLay t u l m b c h) {K : LH → Option Q} (hi : i < 2) : jf_is (jz_I h I) 207 (nI i) x K = K (jz_I h (jU I 207 (jV (I 207) i x))) := kq_is (lk_207 hL) (by decide) (by rw [ll_207 hL]; exact hi) (Nat.lt_trans hi (by decide))
set_option maxRecDepth 100000 in
theorem lk_208 (hL : jLay t u l m b c h) : jl_kd h 208 = 20 := jLay_kd hL (a := 144) (by decide) rfl
set_option maxRecDepth 100000 in
theorem ll_208 (hL : jLay t u l m b c h) : jl_ln h 208 = 6 := jLay_ln hL (a := 144) (by decide) rfl
theorem dI_208 (hL : jLay t u l m b c h) {K : Int32 → Option Q} (hi : i < 6) : jf_ia (jz_I h I) 208 (nI i) K = K (I 208 i) := kq_ia (lk_208 hL) (by rw [ll_208 hL]; exact hi) (Nat.lt_trans hi (by decide))
theorem dS_208 (hL : jLay t u l m b c h) {K : LH → Option Q} (hi : i < 6) : jf_is (jz_I h I) 208 (nI i) x K = K (jz_I h (jU I 208 (jV (I 208) i x))) := kq_is (lk_208 hL) (by decide) (by rw [ll_208 hL]; exact hi) (Nat.lt_trans hi (by decide))
set_option maxRecDepth 100000 in
theorem lk_209 (hL : jLay t u l m b c h) : jl_kd h 209 = 20 := jLay_kd hL (a := 145) (by decide) rfl
set_option maxRecDepth 100000 in
theorem ll_209 (hL : jLay t u l m b c h) : jl_ln h 209 = 6 := jLay_ln hL (a := 145) (by decide) rfl
theorem dI_209 (hL : jLay t u l m b c h) {K : Int32 → Option Q} (hi : i < 6) : jf_ia (jz_I h I) 209 (nI i) K = K (I 209 i) := kq_ia (lk_209 hL) (by rw [ll_209 hL]; exact hi) (Nat.lt_trans hi (by decide))
theorem dS_209 (hL : jLay t u l m b c h) {K : LH → Option Q} (hi : i < 6) : jf_is (jz_I h I) 209 (nI i) x K = K (jz_I h (jU I 209 (jV (I 209) i x))) := kq_is (lk_209 hL) (by decide) (by rw [ll_209 hL]; exact hi) (Nat.lt_trans hi (by decide))
set_option maxRecDepth 100000 in
theorem lk_210 (hL : jLay t u l m b c h) : jl_kd h 210 = 20 := jLay_kd hL (a := 146) (by decide) rfl
set_option maxRecDepth 100000 in
theorem ll_210 (hL : jLay t u l m b c h) : jl_ln h 210 = 9 := jLay_ln hL (a := 146) (by decide) rfl
theorem dI_210 (hL : jLay t u l m b c h) {K : Int32 → Option Q} (hi : i < 9) : jf_ia (jz_I h I) 210 (nI i) K = K (I 210 i) := kq_ia (lk_210 hL) (by rw [ll_210 hL]; exact hi) (Nat.lt_trans hi (by decide))
theorem dS_210 (hL : jLay t u l m b c h) {K : LH → Option Q} (hi : i < 9) : jf_is (jz_I h I) 210 (nI i) x K = K (jz_I h (jU I 210 (jV (I 210) i x))) := kq_is (lk_210 hL) (by decide) (by rw [ll_210 hL]; exact hi) (Nat.lt_trans hi (by decide))
set_option maxRecDepth 100000 in
theorem lk_211 (hL : jLay t u l m b c h) : jl_kd h 211 = 20 := jLay_kd hL (a := 147) (by decide) rfl
set_option maxRecDepth 100000 in
theorem ll_211 (hL : jLay t u l m b c h) : jl_ln h 211 = 9 := jLay_ln hL (a := 147) (by decide) rfl
theorem dI_211 (hL : jLay t u l m b c h) {K : Int32 → Option Q} (hi : i < 9) : jf_ia (jz_I h I) 211 (nI i) K = K (I 211 i) := kq_ia (lk_211 hL) (by rw [ll_211 hL]; exact hi) (Nat.lt_trans hi (by decide))
theorem dS_211 (hL : jLay t u l m b c h) {K : LH → Option Q} (hi : i < 9) : jf_is (jz_I h I) 211 (nI i) x K = K (jz_I h (jU I 211 (jV (I 211) i x))) := kq_is (lk_211 hL) (by decide) (by rw [ll_211 hL]; exact hi) (Nat.lt_trans hi (by decide))
set_option maxRecDepth 100000 in
theorem lk_212 (hL : jLay t u l m b c h) : jl_kd h 212 = 20 := jLay_kd hL (a := 148) (by decide) rfl
set_option maxRecDepth 100000 in
theorem ll_212 (hL : jLay t u l m b c h) : jl_ln h 212 = 24 := jLay_ln hL (a := 148) (by decide) rfl
theorem dI_212 (hL : jLay t u l m b c h) {K : Int32 → Option Q} (hi : i < 24) : jf_ia (jz_I h I) 212 (nI i) K = K (I 212 i) := kq_ia (lk_212 hL) (by rw [ll_212 hL]; exact hi) (Nat.lt_trans hi (by decide))
theorem dS_212 (hL : jLay t u l m b c h) {K : LH → Option Q} (hi : i < 24) : jf_is (jz_I h I) 212 (nI i) x K = K (jz_I h (jU I 212 (jV (I 212) i x))) := kq_is (lk_212 hL) (by decide) (by rw [ll_212 hL]; exact hi) (Nat.lt_trans hi (by decide))
set_option maxRecDepth 100000 in
theorem lk_213 (hL : jLay t u l m b c h) : jl_kd h 213 = 20 := jLay_kd hL (a := 149) (by decide) rfl
set_option maxRecDepth 100000 in
theorem ll_213 (hL : jLay t u l m b c h) : jl_ln h 213 = 24 := jLay_ln hL (a := 149) (by decide) rfl
theorem dI_213 (hL : jLay t u l m b c h) {K : Int32 → Option Q} (hi : i < 24) : jf_ia (jz_I h I) 213 (nI i) K = K (I 213 i) := kq_ia (lk_213 hL) (by rw [ll_213 hL]; exact hi) (Nat.lt_trans hi (by decide))
theorem dS_213 (hL : jLay t u l m b c h) {K : LH → Option Q} (hi : i < 24) : jf_is (jz_I h I) 213 (nI i) x K = K (jz_I h (jU I 213 (jV (I 213) i x))) := kq_is (lk_213 hL) (by decide) (by rw [ll_213 hL]; exact hi) (Nat.lt_trans hi (by decide))
set_option maxRecDepth 100000 in
theorem lk_214 (hL : jLay t u l m b c h) : jl_kd h 214 = 20 := jLay_kd hL (a := 150) (by decide) rfl
set_option maxRecDepth 100000 in
theorem ll_214 (hL : jLay t u l m b c h) : jl_ln h 214 = 8 := jLay_ln hL (a := 150) (by decide) rfl
theorem dI_214 (hL : jLay t u l m b c h) {K : Int32 → Option Q} (hi : i < 8) : jf_ia (jz_I h I) 214 (nI i) K = K (I 214 i) := kq_ia (lk_214 hL) (by rw [ll_214 hL]; exact hi) (Nat.lt_trans hi (by decide))
theorem dS_214 (hL : jLay t u l m b c h) {K : LH → Option Q} (hi : i < 8) : jf_is (jz_I h I) 214 (nI i) x K = K (jz_I h (jU I 214 (jV (I 214) i x))) := kq_is (lk_214 hL) (by decide) (by rw [ll_214 hL]; exact hi) (Nat.lt_trans hi (by decide))
set_option maxRecDepth 100000 in
theorem lk_215 (hL : jLay t u l m b c h) : jl_kd h 215 = 20 := jLay_kd hL (a := 151) (by decide) rfl
set_option maxRecDepth 100000 in
theorem ll_215 (hL : jLay t u l m b c h) : jl_ln h 215 = 8 := jLay_ln hL (a := 151) (by decide) rfl
theorem dI_215 (hL : jLay t u l m b c h) {K : Int32 → Option Q} (hi : i < 8) : jf_ia (jz_I h I) 215 (nI i) K = K (I 215 i) := kq_ia (lk_215 hL) (by rw [ll_215 hL]; exact hi) (Nat.lt_trans hi (by decide))
theorem dS_215 (hL : jLay t u l m b c h) {K : LH → Option Q} (hi : i < 8) : jf_is (jz_I h I) 215 (nI i) x K = K (jz_I h (jU I 215 (jV (I 215) i x))) := kq_is (lk_215 hL) (by decide) (by rw [ll_215 hL]; exact hi) (Nat.lt_trans hi (by decide))
set_option maxRecDepth 100000 in
theorem lk_608 (hL : jLay t u l m b c h) : jl_kd h 608 = 20 := jLay_kd hL (a := 544) (by decide) rfl
set_option maxRecDepth 100000 in
theorem ll_608 (hL : jLay t u l m b c h) : jl_ln h 608 = 160 := jLay_ln hL (a := 544) (by decide) rfl
theorem dI_608 (hL : jLay t u l m b c h) {K : Int32 → Option Q} (hi : i < 160) : jf_ia (jz_I h I) 608 (nI i) K = K (I 608 i) := kq_ia (lk_608 hL) (by rw [ll_608 hL]; exact hi) (Nat.lt_trans hi (by decide))
theorem dS_608 (hL : jLay t u l m b c h) {K : LH → Option Q} (hi : i < 160) : jf_is (jz_I h I) 608 (nI i) x K = K (jz_I h (jU I 608 (jV (I 608) i x))) := kq_is (lk_608 hL) (by decide) (by rw [ll_608 hL]; exact hi) (Nat.lt_trans hi (by decide))
set_option maxRecDepth 100000 in
theorem lk_609 (hL : jLay t u l m b c h) : jl_kd h 609 = 20 := jLay_kd hL (a := 545) (by decide) rfl
set_option maxRecDepth 100000 in
theorem ll_609 (hL : jLay t u l m b c h) : jl_ln h 609 = 7 := jLay_ln hL (a := 545) (by decide) rfl
theorem dI_609 (hL : jLay t u l m b c h) {K : Int32 → Option Q} (hi : i < 7) : jf_ia (jz_I h I) 609 (nI i) K = K (I 609 i) := kq_ia (lk_609 hL) (by rw [ll_609 hL]; exact hi) (Nat.lt_trans hi (by decide))
theorem dS_609 (hL : jLay t u l m b c h) {K : LH → Option Q} (hi : i < 7) : jf_is (jz_I h I) 609 (nI i) x K = K (jz_I h (jU I 609 (jV (I 609) i x))) := kq_is (lk_609 hL) (by decide) (by rw [ll_609 hL]; exact hi) (Nat.lt_trans hi (by decide))
set_option maxRecDepth 100000 in
theorem lk_691 (hL : jLay t u l m b c h) : jl_kd h 691 = 20 := jLay_kd hL (a := 627) (by decide) rfl
set_option maxRecDepth 100000 in
theorem ll_691 (hL : jLay t u l m b c h) : jl_ln h 691 = 134 := jLay_ln hL (a := 627) (by decide) rfl
theorem dI_691 (hL : jLay t u l m b c h) {K : Int32 → Option Q} (hi : i < 134) : jf_ia (jz_I h I) 691 (nI i) K = K (I 691 i) := kq_ia (lk_691 hL) (by rw [ll_691 hL]; exact hi) (Nat.lt_trans hi (by decide))
theorem dS_691 (hL : jLay t u l m b c h) {K : LH → Option Q} (hi : i < 134) : jf_is (jz_I h I) 691 (nI i) x K = K (jz_I h (jU I 691 (jV (I 691) i x))) := kq_is (lk_691 hL) (by decide) (by rw [ll_691 hL]; exact hi) (Nat.lt_trans hi (by decide))
set_option maxRecDepth 100000 in
theorem lk_692 (hL : jLay t u l m b c h) : jl_kd h 692 = 20 := jLay_kd hL (a := 628) (by decide) rfl
set_option maxRecDepth 100000 in
theorem ll_692 (hL : jLay t u l m b c h) : jl_ln h 692 = 134 := jLay_ln hL (a := 628) (by decide) rfl
theorem dI_692 (hL : jLay t u l m b c h) {K : Int32 → Option Q} (hi : i < 134) : jf_ia (jz_I h I) 692 (nI i) K = K (I 692 i) := kq_ia (lk_692 hL) (by rw [ll_692 hL]; exact hi) (Nat.lt_trans hi (by decide))
theorem dS_692 (hL : jLay t u l m b c h) {K : LH → Option Q} (hi : i < 134) : jf_is (jz_I h I) 692 (nI i) x K = K (jz_I h (jU I 692 (jV (I 692) i x))) := kq_is (lk_692 hL) (by decide) (by rw [ll_692 hL]; exact hi) (Nat.lt_trans hi (by decide))
set_option maxRecDepth 100000 in
theorem lk_714 (hL : jLay t u l m b c h) : jl_kd h 714 = 20 := jLay_kd hL (a := 650) (by decide) rfl
set_option maxRecDepth 100000 in
theorem ll_714 (hL : jLay t u l m b c h) : jl_ln h 714 = 5 := jLay_ln hL (a := 650) (by decide) rfl
theorem dI_714 (hL : jLay t u l m b c h) {K : Int32 → Option Q} (hi : i < 5) : jf_ia (jz_I h I) 714 (nI i) K = K (I 714 i) := kq_ia (lk_714 hL) (by rw [ll_714 hL]; exact hi) (Nat.lt_trans hi (by decide))
theorem dS_714 (hL : jLay t u l m b c h) {K : LH → Option Q} (hi : i < 5) : jf_is (jz_I h I) 714 (nI i) x K = K (jz_I h (jU I 714 (jV (I 714) i x))) := kq_is (lk_714 hL) (by decide) (by rw [ll_714 hL]; exact hi) (Nat.lt_trans hi (by decide))
set_option maxRecDepth 100000 in
theorem lk_715 (hL : jLay t u l m b c h) : jl_kd h 715 = 20 := jLay_kd hL (a := 651) (by decide) rfl
set_option maxRecDepth 100000 in
theorem ll_715 (hL : jLay t u l m b c h) : jl_ln h 715 = 24 := jLay_ln hL (a := 651) (by decide) rfl
theorem dI_715 (hL : jLay t u l m b c h) {K : Int32 → Option Q} (hi : i < 24) : jf_ia (jz_I h I) 715 (nI i) K = K (I 715 i) := kq_ia (lk_715 hL) (by rw [ll_715 hL]; exact hi) (Nat.lt_trans hi (by decide))
theorem dS_715 (hL : jLay t u l m b c h) {K : LH → Option Q} (hi : i < 24) : jf_is (jz_I h I) 715 (nI i) x K = K (jz_I h (jU I 715 (jV (I 715) i x))) := kq_is (lk_715 hL) (by decide) (by rw [ll_715 hL]; exact hi) (Nat.lt_trans hi (by decide))
set_option maxRecDepth 100000 in
theorem lk_716 (hL : jLay t u l m b c h) : jl_kd h 716 = 20 := jLay_kd hL (a := 652) (by decide) rfl
set_option maxRecDepth 100000 in
theorem ll_716 (hL : jLay t u l m b c h) : jl_ln h 716 = 32 := jLay_ln hL (a := 652) (by decide) rfl
theorem dI_716 (hL : jLay t u l m b c h) {K : Int32 → Option Q} (hi : i < 32) : jf_ia (jz_I h I) 716 (nI i) K = K (I 716 i) := kq_ia (lk_716 hL) (by rw [ll_716 hL]; exact hi) (Nat.lt_trans hi (by decide))
theorem dS_716 (hL : jLay t u l m b c h) {K : LH → Option Q} (hi : i < 32) : jf_is (jz_I h I) 716 (nI i) x K = K (jz_I h (jU I 716 (jV (I 716) i x))) := kq_is (lk_716 hL) (by decide) (by rw [ll_716 hL]; exact hi) (Nat.lt_trans hi (by decide))
set_option maxRecDepth 100000 in
theorem lk_96 (hL : jLay t u l m b c h) : jl_kd h 96 = 24 := jLay_kd hL (a := 32) (by decide) rfl
set_option maxRecDepth 100000 in
theorem ll_96 (hL : jLay t u l m b c h) : jl_ln h 96 = 5 := jLay_ln hL (a := 32) (by decide) rfl
theorem dA_96 (hL : jLay t u l m b c h) {K : Nat → Option Q} (hi : i < 5) : jf_aa (jz_I h I) 96 (nI i) K = K (97 + i) := kq_aa (Or.inl (lk_96 hL)) (by rw [ll_96 hL]; exact hi) (Nat.lt_trans hi (by decide)) (jLay_jg hL (by unfold jh_J; simp) i hi)
set_option maxRecDepth 100000 in
theorem lkj_96 : ∀ i, i < 5 → jh_K[33 + i]? = some (20, 134) := by decide +kernel
set_option maxRecDepth 100000 in
theorem lk_97 (hL : jLay t u l m b c h) (hk : k < 5) : jl_kd h (97 + k) = 20 := by have := jLay_kd hL (a := 33 + k) (by omega) (lkj_96 k hk); rwa [show 64 + (33 + k) = 97 + k by omega] at this
set_option maxRecDepth 100000 in
theorem ll_97 (hL : jLay t u l m b c h) (hk : k < 5) : jl_ln h (97 + k) = 134 := by have := jLay_ln hL (a := 33 + k) (by omega) (lkj_96 k hk); rwa [show 64 + (33 + k) = 97 + k by omega] at this
theorem dI_97 (hL : jLay t u l m b c h) {K : Int32 → Option Q} (hk : k < 5) (hi : i < 134) : jf_ia (jz_I h I) (97 + k) (nI i) K = K (I (97 + k) i) := kq_ia (lk_97 hL hk) (by rw [ll_97 hL hk]; exact hi) (Nat.lt_trans hi (by decide))
theorem dS_97 (hL : jLay t u l m b c h) {K : LH → Option Q} (hk : k < 5) (hi : i < 134) : jf_is (jz_I h I) (97 + k) (nI i) x K = K (jz_I h (jU I (97 + k) (jV (I (97 + k)) i x))) := kq_is (lk_97 hL hk) (by omega) (by rw [ll_97 hL hk]; exact hi) (Nat.lt_trans hi (by decide))
theorem dL_97 (hL : jLay t u l m b c h) {K : Int32 → Option Q} (hk : k < 5) : jf_al (jz_I h I) (97 + k) K = K (nI 134) := (if_pos (Or.inl (by rw [show jl_kd (jz_I h I) (97 + k) = 20 from lk_97 hL hk]; decide))).trans (by rw [show jl_ln (jz_I h I) (97 + k) = 134 from ll_97 hL hk]; rfl)
set_option maxRecDepth 100000 in
theorem lk_107 (hL : jLay t u l m b c h) : jl_kd h 107 = 24 := jLay_kd hL (a := 43) (by decide) rfl
set_option maxRecDepth 100000 in
theorem ll_107 (hL : jLay t u l m b c h) : jl_ln h 107 = 16 := jLay_ln hL (a := 43) (by decide) rfl
theorem dA_107 (hL : jLay t u l m b c h) {K : Nat → Option Q} (hi : i < 16) : jf_aa (jz_I h I) 107 (nI i) K = K (108 + i) := kq_aa (Or.inl (lk_107 hL)) (by rw [ll_107 hL]; exact hi) (Nat.lt_trans hi (by decide)) (jLay_jg hL (by unfold jh_J; simp) i hi)
set_option maxRecDepth 100000 in
theorem lkj_107 : ∀ i, i < 16 → jh_K[44 + i]? = some (20, 134) := by decide +kernel
set_option maxRecDepth 100000 in
theorem lk_108 (hL : jLay t u l m b c h) (hk : k < 16) : jl_kd h (108 + k) = 20 := by have := jLay_kd hL (a := 44 + k) (by omega) (lkj_107 k hk); rwa [show 64 + (44 + k) = 108 + k by omega] at this
set_option maxRecDepth 100000 in
theorem ll_108 (hL : jLay t u l m b c h) (hk : k < 16) : jl_ln h (108 + k) = 134 := by have := jLay_ln hL (a := 44 + k) (by omega) (lkj_107 k hk); rwa [show 64 + (44 + k) = 108 + k by omega] at this
theorem dI_108 (hL : jLay t u l m b c h) {K : Int32 → Option Q} (hk : k < 16) (hi : i < 134) : jf_ia (jz_I h I) (108 + k) (nI i) K = K (I (108 + k) i) := kq_ia (lk_108 hL hk) (by rw [ll_108 hL hk]; exact hi) (Nat.lt_trans hi (by decide))
theorem dS_108 (hL : jLay t u l m b c h) {K : LH → Option Q} (hk : k < 16) (hi : i < 134) : jf_is (jz_I h I) (108 + k) (nI i) x K = K (jz_I h (jU I (108 + k) (jV (I (108 + k)) i x))) := kq_is (lk_108 hL hk) (by omega) (by rw [ll_108 hL hk]; exact hi) (Nat.lt_trans hi (by decide))
theorem dL_108 (hL : jLay t u l m b c h) {K : Int32 → Option Q} (hk : k < 16) : jf_al (jz_I h I) (108 + k) K = K (nI 134) := (if_pos (Or.inl (by rw [show jl_kd (jz_I h I) (108 + k) = 20 from lk_108 hL hk]; decide))).trans (by rw [show jl_ln (jz_I h I) (108 + k) = 134 from ll_108 hL hk]; rfl)
set_option maxRecDepth 100000 in
theorem lk_126 (hL : jLay t u l m b c h) : jl_kd h 126 = 24 := jLay_kd hL (a := 62) (by decide) rfl
set_option maxRecDepth 100000 in
theorem ll_126 (hL : jLay t u l m b c h) : jl_ln h 126 = 16 := jLay_ln hL (a := 62) (by decide) rfl
theorem dA_126 (hL : jLay t u l m b c h) {K : Nat → Option Q} (hi : i < 16) : jf_aa (jz_I h I) 126 (nI i) K = K (127 + i) := kq_aa (Or.inl (lk_126 hL)) (by rw [ll_126 hL]; exact hi) (Nat.lt_trans hi (by decide)) (jLay_jg hL (by unfold jh_J; simp) i hi)
set_option maxRecDepth 100000 in
theorem lkj_126 : ∀ i, i < 16 → jh_K[63 + i]? = some (20, 134) := by decide +kernel
set_option maxRecDepth 100000 in
theorem lk_127 (hL : jLay t u l m b c h) (hk : k < 16) : jl_kd h (127 + k) = 20 := by have := jLay_kd hL (a := 63 + k) (by omega) (lkj_126 k hk); rwa [show 64 + (63 + k) = 127 + k by omega] at this
set_option maxRecDepth 100000 in
theorem ll_127 (hL : jLay t u l m b c h) (hk : k < 16) : jl_ln h (127 + k) = 134 := by have := jLay_ln hL (a := 63 + k) (by omega) (lkj_126 k hk); rwa [show 64 + (63 + k) = 127 + k by omega] at this
theorem dI_127 (hL : jLay t u l m b c h) {K : Int32 → Option Q} (hk : k < 16) (hi : i < 134) : jf_ia (jz_I h I) (127 + k) (nI i) K = K (I (127 + k) i) := kq_ia (lk_127 hL hk) (by rw [ll_127 hL hk]; exact hi) (Nat.lt_trans hi (by decide))
theorem dS_127 (hL : jLay t u l m b c h) {K : LH → Option Q} (hk : k < 16) (hi : i < 134) : jf_is (jz_I h I) (127 + k) (nI i) x K = K (jz_I h (jU I (127 + k) (jV (I (127 + k)) i x))) := kq_is (lk_127 hL hk) (by omega) (by rw [ll_127 hL hk]; exact hi) (Nat.lt_trans hi (by decide))
theorem dL_127 (hL : jLay t u l m b c h) {K : Int32 → Option Q} (hk : k < 16) : jf_al (jz_I h I) (127 + k) K = K (nI 134) := (if_pos (Or.inl (by rw [show jl_kd (jz_I h I) (127 + k) = 20 from lk_127 hL hk]; decide))).trans (by rw [show jl_ln (jz_I h I) (127 + k) = 134 from ll_127 hL hk]; rfl)
set_option maxRecDepth 100000 in
theorem lk_144 (hL : jLay t u l m b c h) : jl_kd h 144 = 24 := jLay_kd hL (a := 80) (by decide) rfl
set_option maxRecDepth 100000 in
theorem ll_144 (hL : jLay t u l m b c h) : jl_ln h 144 = 16 := jLay_ln hL (a := 80) (by decide) rfl
theorem dA_144 (hL : jLay t u l m b c h) {K : Nat → Option Q} (hi : i < 16) : jf_aa (jz_I h I) 144 (nI i) K = K (145 + i) := kq_aa (Or.inl (lk_144 hL)) (by rw [ll_144 hL]; exact hi) (Nat.lt_trans hi (by decide)) (jLay_jg hL (by unfold jh_J; simp) i hi)
set_option maxRecDepth 100000 in
theorem lkj_144 : ∀ i, i < 16 → jh_K[81 + i]? = some (20, 134) := by decide +kernel
set_option maxRecDepth 100000 in
theorem lk_145 (hL : jLay t u l m b c h) (hk : k < 16) : jl_kd h (145 + k) = 20 := by have := jLay_kd hL (a := 81 + k) (by omega) (lkj_144 k hk); rwa [show 64 + (81 + k) = 145 + k by omega] at this
set_option maxRecDepth 100000 in
theorem ll_145 (hL : jLay t u l m b c h) (hk : k < 16) : jl_ln h (145 + k) = 134 := by have := jLay_ln hL (a := 81 + k) (by omega) (lkj_144 k hk); rwa [show 64 + (81 + k) = 145 + k by omega] at this
theorem dI_145 (hL : jLay t u l m b c h) {K : Int32 → Option Q} (hk : k < 16) (hi : i < 134) : jf_ia (jz_I h I) (145 + k) (nI i) K = K (I (145 + k) i) := kq_ia (lk_145 hL hk) (by rw [ll_145 hL hk]; exact hi) (Nat.lt_trans hi (by decide))
theorem dS_145 (hL : jLay t u l m b c h) {K : LH → Option Q} (hk : k < 16) (hi : i < 134) : jf_is (jz_I h I) (145 + k) (nI i) x K = K (jz_I h (jU I (145 + k) (jV (I (145 + k)) i x))) := kq_is (lk_145 hL hk) (by omega) (by rw [ll_145 hL hk]; exact hi) (Nat.lt_trans hi (by decide))
theorem dL_145 (hL : jLay t u l m b c h) {K : Int32 → Option Q} (hk : k < 16) : jf_al (jz_I h I) (145 + k) K = K (nI 134) := (if_pos (Or.inl (by rw [show jl_kd (jz_I h I) (145 + k) = 20 from lk_145 hL hk]; decide))).trans (by rw [show jl_ln (jz_I h I) (145 + k) = 134 from ll_145 hL hk]; rfl)
set_option maxRecDepth 100000 in
theorem lk_162 (hL : jLay t u l m b c h) : jl_kd h 162 = 24 := jLay_kd hL (a := 98) (by decide) rfl
set_option maxRecDepth 100000 in
theorem ll_162 (hL : jLay t u l m b c h) : jl_ln h 162 = 16 := jLay_ln hL (a := 98) (by decide) rfl
theorem dA_162 (hL : jLay t u l m b c h) {K : Nat → Option Q} (hi : i < 16) : jf_aa (jz_I h I) 162 (nI i) K = K (163 + i) := kq_aa (Or.inl (lk_162 hL)) (by rw [ll_162 hL]; exact hi) (Nat.lt_trans hi (by decide)) (jLay_jg hL (by unfold jh_J; simp) i hi)
set_option maxRecDepth 100000 in
theorem lkj_162 : ∀ i, i < 16 → jh_K[99 + i]? = some (20, 134) := by decide +kernel
set_option maxRecDepth 100000 in
theorem lk_163 (hL : jLay t u l m b c h) (hk : k < 16) : jl_kd h (163 + k) = 20 := by have := jLay_kd hL (a := 99 + k) (by omega) (lkj_162 k hk); rwa [show 64 + (99 + k) = 163 + k by omega] at this
set_option maxRecDepth 100000 in
theorem ll_163 (hL : jLay t u l m b c h) (hk : k < 16) : jl_ln h (163 + k) = 134 := by have := jLay_ln hL (a := 99 + k) (by omega) (lkj_162 k hk); rwa [show 64 + (99 + k) = 163 + k by omega] at this
theorem dI_163 (hL : jLay t u l m b c h) {K : Int32 → Option Q} (hk : k < 16) (hi : i < 134) : jf_ia (jz_I h I) (163 + k) (nI i) K = K (I (163 + k) i) := kq_ia (lk_163 hL hk) (by rw [ll_163 hL hk]; exact hi) (Nat.lt_trans hi (by decide))
theorem dS_163 (hL : jLay t u l m b c h) {K : LH → Option Q} (hk : k < 16) (hi : i < 134) : jf_is (jz_I h I) (163 + k) (nI i) x K = K (jz_I h (jU I (163 + k) (jV (I (163 + k)) i x))) := kq_is (lk_163 hL hk) (by omega) (by rw [ll_163 hL hk]; exact hi) (Nat.lt_trans hi (by decide))
theorem dL_163 (hL : jLay t u l m b c h) {K : Int32 → Option Q} (hk : k < 16) : jf_al (jz_I h I) (163 + k) K = K (nI 134) := (if_pos (Or.inl (by rw [show jl_kd (jz_I h I) (163 + k) = 20 from lk_163 hL hk]; decide))).trans (by rw [show jl_ln (jz_I h I) (163 + k) = 134 from ll_163 hL hk]; rfl)
set_option maxRecDepth 100000 in
theorem lk_179 (hL : jLay t u l m b c h) : jl_kd h 179 = 24 := jLay_kd hL (a := 115) (by decide) rfl
set_option maxRecDepth 100000 in
theorem ll_179 (hL : jLay t u l m b c h) : jl_ln h 179 = 3 := jLay_ln hL (a := 115) (by decide) rfl
theorem dA_179 (hL : jLay t u l m b c h) {K : Nat → Option Q} (hi : i < 3) : jf_aa (jz_I h I) 179 (nI i) K = K (180 + i) := kq_aa (Or.inl (lk_179 hL)) (by rw [ll_179 hL]; exact hi) (Nat.lt_trans hi (by decide)) (jLay_jg hL (by unfold jh_J; simp) i hi)
set_option maxRecDepth 100000 in
theorem lkj_179 : ∀ i, i < 3 → jh_K[116 + i]? = some (20, 134) := by decide +kernel
set_option maxRecDepth 100000 in
theorem lk_180 (hL : jLay t u l m b c h) (hk : k < 3) : jl_kd h (180 + k) = 20 := by have := jLay_kd hL (a := 116 + k) (by omega) (lkj_179 k hk); rwa [show 64 + (116 + k) = 180 + k by omega] at this
set_option maxRecDepth 100000 in
theorem ll_180 (hL : jLay t u l m b c h) (hk : k < 3) : jl_ln h (180 + k) = 134 := by have := jLay_ln hL (a := 116 + k) (by omega) (lkj_179 k hk); rwa [show 64 + (116 + k) = 180 + k by omega] at this
theorem dI_180 (hL : jLay t u l m b c h) {K : Int32 → Option Q} (hk : k < 3) (hi : i < 134) : jf_ia (jz_I h I) (180 + k) (nI i) K = K (I (180 + k) i) := kq_ia (lk_180 hL hk) (by rw [ll_180 hL hk]; exact hi) (Nat.lt_trans hi (by decide))
theorem dS_180 (hL : jLay t u l m b c h) {K : LH → Option Q} (hk : k < 3) (hi : i < 134) : jf_is (jz_I h I) (180 + k) (nI i) x K = K (jz_I h (jU I (180 + k) (jV (I (180 + k)) i x))) := kq_is (lk_180 hL hk) (by omega) (by rw [ll_180 hL hk]; exact hi) (Nat.lt_trans hi (by decide))
theorem dL_180 (hL : jLay t u l m b c h) {K : Int32 → Option Q} (hk : k < 3) : jf_al (jz_I h I) (180 + k) K = K (nI 134) := (if_pos (Or.inl (by rw [show jl_kd (jz_I h I) (180 + k) = 20 from lk_180 hL hk]; decide))).trans (by rw [show jl_ln (jz_I h I) (180 + k) = 134 from ll_180 hL hk]; rfl)
set_option maxRecDepth 100000 in
theorem lk_216 (hL : jLay t u l m b c h) : jl_kd h 216 = 24 := jLay_kd hL (a := 152) (by decide) rfl
set_option maxRecDepth 100000 in
theorem ll_216 (hL : jLay t u l m b c h) : jl_ln h 216 = 6 := jLay_ln hL (a := 152) (by decide) rfl
theorem dA_216 (hL : jLay t u l m b c h) {K : Nat → Option Q} (hi : i < 6) : jf_aa (jz_I h I) 216 (nI i) K = K (217 + i) := kq_aa (Or.inl (lk_216 hL)) (by rw [ll_216 hL]; exact hi) (Nat.lt_trans hi (by decide)) (jLay_jg hL (by unfold jh_J; simp) i hi)
set_option maxRecDepth 100000 in
theorem lkj_216 : ∀ i, i < 6 → jh_K[153 + i]? = some (20, 4) := by decide +kernel
set_option maxRecDepth 100000 in
theorem lk_217 (hL : jLay t u l m b c h) (hk : k < 6) : jl_kd h (217 + k) = 20 := by have := jLay_kd hL (a := 153 + k) (by omega) (lkj_216 k hk); rwa [show 64 + (153 + k) = 217 + k by omega] at this
set_option maxRecDepth 100000 in
theorem ll_217 (hL : jLay t u l m b c h) (hk : k < 6) : jl_ln h (217 + k) = 4 := by have := jLay_ln hL (a := 153 + k) (by omega) (lkj_216 k hk); rwa [show 64 + (153 + k) = 217 + k by omega] at this
theorem dI_217 (hL : jLay t u l m b c h) {K : Int32 → Option Q} (hk : k < 6) (hi : i < 4) : jf_ia (jz_I h I) (217 + k) (nI i) K = K (I (217 + k) i) := kq_ia (lk_217 hL hk) (by rw [ll_217 hL hk]; exact hi) (Nat.lt_trans hi (by decide))
theorem dS_217 (hL : jLay t u l m b c h) {K : LH → Option Q} (hk : k < 6) (hi : i < 4) : jf_is (jz_I h I) (217 + k) (nI i) x K = K (jz_I h (jU I (217 + k) (jV (I (217 + k)) i x))) := kq_is (lk_217 hL hk) (by omega) (by rw [ll_217 hL hk]; exact hi) (Nat.lt_trans hi (by decide))
theorem dL_217 (hL : jLay t u l m b c h) {K : Int32 → Option Q} (hk : k < 6) : jf_al (jz_I h I) (217 + k) K = K (nI 4) := (if_pos (Or.inl (by rw [show jl_kd (jz_I h I) (217 + k) = 20 from lk_217 hL hk]; decide))).trans (by rw [show jl_ln (jz_I h I) (217 + k) = 4 from ll_217 hL hk]; rfl)
set_option maxRecDepth 100000 in
theorem lk_223 (hL : jLay t u l m b c h) : jl_kd h 223 = 24 := jLay_kd hL (a := 159) (by decide) rfl
set_option maxRecDepth 100000 in
theorem ll_223 (hL : jLay t u l m b c h) : jl_ln h 223 = 6 := jLay_ln hL (a := 159) (by decide) rfl
theorem dA_223 (hL : jLay t u l m b c h) {K : Nat → Option Q} (hi : i < 6) : jf_aa (jz_I h I) 223 (nI i) K = K (224 + i) := kq_aa (Or.inl (lk_223 hL)) (by rw [ll_223 hL]; exact hi) (Nat.lt_trans hi (by decide)) (jLay_jg hL (by unfold jh_J; simp) i hi)
set_option maxRecDepth 100000 in
theorem lkj_223 : ∀ i, i < 6 → jh_K[160 + i]? = some (20, 4) := by decide +kernel
set_option maxRecDepth 100000 in
theorem lk_224 (hL : jLay t u l m b c h) (hk : k < 6) : jl_kd h (224 + k) = 20 := by have := jLay_kd hL (a := 160 + k) (by omega) (lkj_223 k hk); rwa [show 64 + (160 + k) = 224 + k by omega] at this
set_option maxRecDepth 100000 in
theorem ll_224 (hL : jLay t u l m b c h) (hk : k < 6) : jl_ln h (224 + k) = 4 := by have := jLay_ln hL (a := 160 + k) (by omega) (lkj_223 k hk); rwa [show 64 + (160 + k) = 224 + k by omega] at this
theorem dI_224 (hL : jLay t u l m b c h) {K : Int32 → Option Q} (hk : k < 6) (hi : i < 4) : jf_ia (jz_I h I) (224 + k) (nI i) K = K (I (224 + k) i) := kq_ia (lk_224 hL hk) (by rw [ll_224 hL hk]; exact hi) (Nat.lt_trans hi (by decide))
theorem dS_224 (hL : jLay t u l m b c h) {K : LH → Option Q} (hk : k < 6) (hi : i < 4) : jf_is (jz_I h I) (224 + k) (nI i) x K = K (jz_I h (jU I (224 + k) (jV (I (224 + k)) i x))) := kq_is (lk_224 hL hk) (by omega) (by rw [ll_224 hL hk]; exact hi) (Nat.lt_trans hi (by decide))
theorem dL_224 (hL : jLay t u l m b c h) {K : Int32 → Option Q} (hk : k < 6) : jf_al (jz_I h I) (224 + k) K = K (nI 4) := (if_pos (Or.inl (by rw [show jl_kd (jz_I h I) (224 + k) = 20 from lk_224 hL hk]; decide))).trans (by rw [show jl_ln (jz_I h I) (224 + k) = 4 from ll_224 hL hk]; rfl)
set_option maxRecDepth 100000 in
theorem lk_230 (hL : jLay t u l m b c h) : jl_kd h 230 = 24 := jLay_kd hL (a := 166) (by decide) rfl
set_option maxRecDepth 100000 in
theorem ll_230 (hL : jLay t u l m b c h) : jl_ln h 230 = 10 := jLay_ln hL (a := 166) (by decide) rfl
theorem dA_230 (hL : jLay t u l m b c h) {K : Nat → Option Q} (hi : i < 10) : jf_aa (jz_I h I) 230 (nI i) K = K (231 + i) := kq_aa (Or.inl (lk_230 hL)) (by rw [ll_230 hL]; exact hi) (Nat.lt_trans hi (by decide)) (jLay_jg hL (by unfold jh_J; simp) i hi)
set_option maxRecDepth 100000 in
theorem lkj_230 : ∀ i, i < 10 → jh_K[167 + i]? = some (20, 3) := by decide +kernel
set_option maxRecDepth 100000 in
theorem lk_231 (hL : jLay t u l m b c h) (hk : k < 10) : jl_kd h (231 + k) = 20 := by have := jLay_kd hL (a := 167 + k) (by omega) (lkj_230 k hk); rwa [show 64 + (167 + k) = 231 + k by omega] at this
set_option maxRecDepth 100000 in
theorem ll_231 (hL : jLay t u l m b c h) (hk : k < 10) : jl_ln h (231 + k) = 3 := by have := jLay_ln hL (a := 167 + k) (by omega) (lkj_230 k hk); rwa [show 64 + (167 + k) = 231 + k by omega] at this
theorem dI_231 (hL : jLay t u l m b c h) {K : Int32 → Option Q} (hk : k < 10) (hi : i < 3) : jf_ia (jz_I h I) (231 + k) (nI i) K = K (I (231 + k) i) := kq_ia (lk_231 hL hk) (by rw [ll_231 hL hk]; exact hi) (Nat.lt_trans hi (by decide))
theorem dS_231 (hL : jLay t u l m b c h) {K : LH → Option Q} (hk : k < 10) (hi : i < 3) : jf_is (jz_I h I) (231 + k) (nI i) x K = K (jz_I h (jU I (231 + k) (jV (I (231 + k)) i x))) := kq_is (lk_231 hL hk) (by omega) (by rw [ll_231 hL hk]; exact hi) (Nat.lt_trans hi (by decide))
theorem dL_231 (hL : jLay t u l m b c h) {K : Int32 → Option Q} (hk : k < 10) : jf_al (jz_I h I) (231 + k) K = K (nI 3) := (if_pos (Or.inl (by rw [show jl_kd (jz_I h I) (231 + k) = 20 from lk_231 hL hk]; decide))).trans (by rw [show jl_ln (jz_I h I) (231 + k) = 3 from ll_231 hL hk]; rfl)
set_option maxRecDepth 100000 in
theorem lk_241 (hL : jLay t u l m b c h) : jl_kd h 241 = 24 := jLay_kd hL (a := 177) (by decide) rfl
set_option maxRecDepth 100000 in
theorem ll_241 (hL : jLay t u l m b c h) : jl_ln h 241 = 10 := jLay_ln hL (a := 177) (by decide) rfl
theorem dA_241 (hL : jLay t u l m b c h) {K : Nat → Option Q} (hi : i < 10) : jf_aa (jz_I h I) 241 (nI i) K = K (242 + i) := kq_aa (Or.inl (lk_241 hL)) (by rw [ll_241 hL]; exact hi) (Nat.lt_trans hi (by decide)) (jLay_jg hL (by unfold jh_J; simp) i hi)
set_option maxRecDepth 100000 in
theorem lkj_241 : ∀ i, i < 10 → jh_K[178 + i]? = some (20, 3) := by decide +kernel
set_option maxRecDepth 100000 in
theorem lk_242 (hL : jLay t u l m b c h) (hk : k < 10) : jl_kd h (242 + k) = 20 := by have := jLay_kd hL (a := 178 + k) (by omega) (lkj_241 k hk); rwa [show 64 + (178 + k) = 242 + k by omega] at this
set_option maxRecDepth 100000 in
theorem ll_242 (hL : jLay t u l m b c h) (hk : k < 10) : jl_ln h (242 + k) = 3 := by have := jLay_ln hL (a := 178 + k) (by omega) (lkj_241 k hk); rwa [show 64 + (178 + k) = 242 + k by omega] at this
theorem dI_242 (hL : jLay t u l m b c h) {K : Int32 → Option Q} (hk : k < 10) (hi : i < 3) : jf_ia (jz_I h I) (242 + k) (nI i) K = K (I (242 + k) i) := kq_ia (lk_242 hL hk) (by rw [ll_242 hL hk]; exact hi) (Nat.lt_trans hi (by decide))
theorem dS_242 (hL : jLay t u l m b c h) {K : LH → Option Q} (hk : k < 10) (hi : i < 3) : jf_is (jz_I h I) (242 + k) (nI i) x K = K (jz_I h (jU I (242 + k) (jV (I (242 + k)) i x))) := kq_is (lk_242 hL hk) (by omega) (by rw [ll_242 hL hk]; exact hi) (Nat.lt_trans hi (by decide))
theorem dL_242 (hL : jLay t u l m b c h) {K : Int32 → Option Q} (hk : k < 10) : jf_al (jz_I h I) (242 + k) K = K (nI 3) := (if_pos (Or.inl (by rw [show jl_kd (jz_I h I) (242 + k) = 20 from lk_242 hL hk]; decide))).trans (by rw [show jl_ln (jz_I h I) (242 + k) = 3 from ll_242 hL hk]; rfl)
set_option maxRecDepth 100000 in
theorem lk_252 (hL : jLay t u l m b c h) : jl_kd h 252 = 24 := jLay_kd hL (a := 188) (by decide) rfl
set_option maxRecDepth 100000 in
theorem ll_252 (hL : jLay t u l m b c h) : jl_ln h 252 = 6 := jLay_ln hL (a := 188) (by decide) rfl
theorem dA_252 (hL : jLay t u l m b c h) {K : Nat → Option Q} (hi : i < 6) : jf_aa (jz_I h I) 252 (nI i) K = K (253 + i) := kq_aa (Or.inl (lk_252 hL)) (by rw [ll_252 hL]; exact hi) (Nat.lt_trans hi (by decide)) (jLay_jg hL (by unfold jh_J; simp) i hi)
set_option maxRecDepth 100000 in
theorem lkj_252 : ∀ i, i < 6 → jh_K[189 + i]? = some (20, 2) := by decide +kernel
set_option maxRecDepth 100000 in
theorem lk_253 (hL : jLay t u l m b c h) (hk : k < 6) : jl_kd h (253 + k) = 20 := by have := jLay_kd hL (a := 189 + k) (by omega) (lkj_252 k hk); rwa [show 64 + (189 + k) = 253 + k by omega] at this
set_option maxRecDepth 100000 in
theorem ll_253 (hL : jLay t u l m b c h) (hk : k < 6) : jl_ln h (253 + k) = 2 := by have := jLay_ln hL (a := 189 + k) (by omega) (lkj_252 k hk); rwa [show 64 + (189 + k) = 253 + k by omega] at this
theorem dI_253 (hL : jLay t u l m b c h) {K : Int32 → Option Q} (hk : k < 6) (hi : i < 2) : jf_ia (jz_I h I) (253 + k) (nI i) K = K (I (253 + k) i) := kq_ia (lk_253 hL hk) (by rw [ll_253 hL hk]; exact hi) (Nat.lt_trans hi (by decide))
theorem dS_253 (hL : jLay t u l m b c h) {K : LH → Option Q} (hk : k < 6) (hi : i < 2) : jf_is (jz_I h I) (253 + k) (nI i) x K = K (jz_I h (jU I (253 + k) (jV (I (253 + k)) i x))) := kq_is (lk_253 hL hk) (by omega) (by rw [ll_253 hL hk]; exact hi) (Nat.lt_trans hi (by decide))
theorem dL_253 (hL : jLay t u l m b c h) {K : Int32 → Option Q} (hk : k < 6) : jf_al (jz_I h I) (253 + k) K = K (nI 2) := (if_pos (Or.inl (by rw [show jl_kd (jz_I h I) (253 + k) = 20 from lk_253 hL hk]; decide))).trans (by rw [show jl_ln (jz_I h I) (253 + k) = 2 from ll_253 hL hk]; rfl)
set_option maxRecDepth 100000 in
theorem lk_259 (hL : jLay t u l m b c h) : jl_kd h 259 = 24 := jLay_kd hL (a := 195) (by decide) rfl
set_option maxRecDepth 100000 in
theorem ll_259 (hL : jLay t u l m b c h) : jl_ln h 259 = 6 := jLay_ln hL (a := 195) (by decide) rfl
theorem dA_259 (hL : jLay t u l m b c h) {K : Nat → Option Q} (hi : i < 6) : jf_aa (jz_I h I) 259 (nI i) K = K (260 + i) := kq_aa (Or.inl (lk_259 hL)) (by rw [ll_259 hL]; exact hi) (Nat.lt_trans hi (by decide)) (jLay_jg hL (by unfold jh_J; simp) i hi)
set_option maxRecDepth 100000 in
theorem lkj_259 : ∀ i, i < 6 → jh_K[196 + i]? = some (20, 2) := by decide +kernel
set_option maxRecDepth 100000 in
theorem lk_260 (hL : jLay t u l m b c h) (hk : k < 6) : jl_kd h (260 + k) = 20 := by have := jLay_kd hL (a := 196 + k) (by omega) (lkj_259 k hk); rwa [show 64 + (196 + k) = 260 + k by omega] at this
set_option maxRecDepth 100000 in
theorem ll_260 (hL : jLay t u l m b c h) (hk : k < 6) : jl_ln h (260 + k) = 2 := by have := jLay_ln hL (a := 196 + k) (by omega) (lkj_259 k hk); rwa [show 64 + (196 + k) = 260 + k by omega] at this
theorem dI_260 (hL : jLay t u l m b c h) {K : Int32 → Option Q} (hk : k < 6) (hi : i < 2) : jf_ia (jz_I h I) (260 + k) (nI i) K = K (I (260 + k) i) := kq_ia (lk_260 hL hk) (by rw [ll_260 hL hk]; exact hi) (Nat.lt_trans hi (by decide))
theorem dS_260 (hL : jLay t u l m b c h) {K : LH → Option Q} (hk : k < 6) (hi : i < 2) : jf_is (jz_I h I) (260 + k) (nI i) x K = K (jz_I h (jU I (260 + k) (jV (I (260 + k)) i x))) := kq_is (lk_260 hL hk) (by omega) (by rw [ll_260 hL hk]; exact hi) (Nat.lt_trans hi (by decide))
theorem dL_260 (hL : jLay t u l m b c h) {K : Int32 → Option Q} (hk : k < 6) : jf_al (jz_I h I) (260 + k) K = K (nI 2) := (if_pos (Or.inl (by rw [show jl_kd (jz_I h I) (260 + k) = 20 from lk_260 hL hk]; decide))).trans (by rw [show jl_ln (jz_I h I) (260 + k) = 2 from ll_260 hL hk]; rfl)
set_option maxRecDepth 100000 in
theorem lk_266 (hL : jLay t u l m b c h) : jl_kd h 266 = 24 := jLay_kd hL (a := 202) (by decide) rfl
set_option maxRecDepth 100000 in
theorem ll_266 (hL : jLay t u l m b c h) : jl_ln h 266 = 160 := jLay_ln hL (a := 202) (by decide) rfl
theorem dA_266 (hL : jLay t u l m b c h) {K : Nat → Option Q} (hi : i < 160) : jf_aa (jz_I h I) 266 (nI i) K = K (267 + i) := kq_aa (Or.inl (lk_266 hL)) (by rw [ll_266 hL]; exact hi) (Nat.lt_trans hi (by decide)) (jLay_jg hL (by unfold jh_J; simp) i hi)
set_option maxRecDepth 100000 in
theorem lkj_266 : ∀ i, i < 160 → jh_K[203 + i]? = some (20, 2) := by decide +kernel
set_option maxRecDepth 100000 in
theorem lk_267 (hL : jLay t u l m b c h) (hk : k < 160) : jl_kd h (267 + k) = 20 := by have := jLay_kd hL (a := 203 + k) (by omega) (lkj_266 k hk); rwa [show 64 + (203 + k) = 267 + k by omega] at this
set_option maxRecDepth 100000 in
theorem ll_267 (hL : jLay t u l m b c h) (hk : k < 160) : jl_ln h (267 + k) = 2 := by have := jLay_ln hL (a := 203 + k) (by omega) (lkj_266 k hk); rwa [show 64 + (203 + k) = 267 + k by omega] at this
theorem dI_267 (hL : jLay t u l m b c h) {K : Int32 → Option Q} (hk : k < 160) (hi : i < 2) : jf_ia (jz_I h I) (267 + k) (nI i) K = K (I (267 + k) i) := kq_ia (lk_267 hL hk) (by rw [ll_267 hL hk]; exact hi) (Nat.lt_trans hi (by decide))
theorem dS_267 (hL : jLay t u l m b c h) {K : LH → Option Q} (hk : k < 160) (hi : i < 2) : jf_is (jz_I h I) (267 + k) (nI i) x K = K (jz_I h (jU I (267 + k) (jV (I (267 + k)) i x))) := kq_is (lk_267 hL hk) (by omega) (by rw [ll_267 hL hk]; exact hi) (Nat.lt_trans hi (by decide))
theorem dL_267 (hL : jLay t u l m b c h) {K : Int32 → Option Q} (hk : k < 160) : jf_al (jz_I h I) (267 + k) K = K (nI 2) := (if_pos (Or.inl (by rw [show jl_kd (jz_I h I) (267 + k) = 20 from lk_267 hL hk]; decide))).trans (by rw [show jl_ln (jz_I h I) (267 + k) = 2 from ll_267 hL hk]; rfl)
set_option maxRecDepth 100000 in
theorem lk_427 (hL : jLay t u l m b c h) : jl_kd h 427 = 24 := jLay_kd hL (a := 363) (by decide) rfl
set_option maxRecDepth 100000 in
theorem ll_427 (hL : jLay t u l m b c h) : jl_ln h 427 = 160 := jLay_ln hL (a := 363) (by decide) rfl
theorem dA_427 (hL : jLay t u l m b c h) {K : Nat → Option Q} (hi : i < 160) : jf_aa (jz_I h I) 427 (nI i) K = K (428 + i) := kq_aa (Or.inl (lk_427 hL)) (by rw [ll_427 hL]; exact hi) (Nat.lt_trans hi (by decide)) (jLay_jg hL (by unfold jh_J; simp) i hi)
set_option maxRecDepth 100000 in
theorem lkj_427 : ∀ i, i < 160 → jh_K[364 + i]? = some (20, 2) := by decide +kernel
set_option maxRecDepth 100000 in
theorem lk_428 (hL : jLay t u l m b c h) (hk : k < 160) : jl_kd h (428 + k) = 20 := by have := jLay_kd hL (a := 364 + k) (by omega) (lkj_427 k hk); rwa [show 64 + (364 + k) = 428 + k by omega] at this
set_option maxRecDepth 100000 in
theorem ll_428 (hL : jLay t u l m b c h) (hk : k < 160) : jl_ln h (428 + k) = 2 := by have := jLay_ln hL (a := 364 + k) (by omega) (lkj_427 k hk); rwa [show 64 + (364 + k) = 428 + k by omega] at this
theorem dI_428 (hL : jLay t u l m b c h) {K : Int32 → Option Q} (hk : k < 160) (hi : i < 2) : jf_ia (jz_I h I) (428 + k) (nI i) K = K (I (428 + k) i) := kq_ia (lk_428 hL hk) (by rw [ll_428 hL hk]; exact hi) (Nat.lt_trans hi (by decide))
theorem dS_428 (hL : jLay t u l m b c h) {K : LH → Option Q} (hk : k < 160) (hi : i < 2) : jf_is (jz_I h I) (428 + k) (nI i) x K = K (jz_I h (jU I (428 + k) (jV (I (428 + k)) i x))) := kq_is (lk_428 hL hk) (by omega) (by rw [ll_428 hL hk]; exact hi) (Nat.lt_trans hi (by decide))
theorem dL_428 (hL : jLay t u l m b c h) {K : Int32 → Option Q} (hk : k < 160) : jf_al (jz_I h I) (428 + k) K = K (nI 2) := (if_pos (Or.inl (by rw [show jl_kd (jz_I h I) (428 + k) = 20 from lk_428 hL hk]; decide))).trans (by rw [show jl_ln (jz_I h I) (428 + k) = 2 from ll_428 hL hk]; rfl)
set_option maxRecDepth 100000 in
theorem lk_588 (hL : jLay t u l m b c h) : jl_kd h 588 = 24 := jLay_kd hL (a := 524) (by decide) rfl
set_option maxRecDepth 100000 in
theorem ll_588 (hL : jLay t u l m b c h) : jl_ln h 588 = 9 := jLay_ln hL (a := 524) (by decide) rfl
theorem dA_588 (hL : jLay t u l m b c h) {K : Nat → Option Q} (hi : i < 9) : jf_aa (jz_I h I) 588 (nI i) K = K (589 + i) := kq_aa (Or.inl (lk_588 hL)) (by rw [ll_588 hL]; exact hi) (Nat.lt_trans hi (by decide)) (jLay_jg hL (by unfold jh_J; simp) i hi)
set_option maxRecDepth 100000 in
theorem lkj_588 : ∀ i, i < 9 → jh_K[525 + i]? = some (20, 2) := by decide +kernel
set_option maxRecDepth 100000 in
theorem lk_589 (hL : jLay t u l m b c h) (hk : k < 9) : jl_kd h (589 + k) = 20 := by have := jLay_kd hL (a := 525 + k) (by omega) (lkj_588 k hk); rwa [show 64 + (525 + k) = 589 + k by omega] at this
set_option maxRecDepth 100000 in
theorem ll_589 (hL : jLay t u l m b c h) (hk : k < 9) : jl_ln h (589 + k) = 2 := by have := jLay_ln hL (a := 525 + k) (by omega) (lkj_588 k hk); rwa [show 64 + (525 + k) = 589 + k by omega] at this
theorem dI_589 (hL : jLay t u l m b c h) {K : Int32 → Option Q} (hk : k < 9) (hi : i < 2) : jf_ia (jz_I h I) (589 + k) (nI i) K = K (I (589 + k) i) := kq_ia (lk_589 hL hk) (by rw [ll_589 hL hk]; exact hi) (Nat.lt_trans hi (by decide))
theorem dS_589 (hL : jLay t u l m b c h) {K : LH → Option Q} (hk : k < 9) (hi : i < 2) : jf_is (jz_I h I) (589 + k) (nI i) x K = K (jz_I h (jU I (589 + k) (jV (I (589 + k)) i x))) := kq_is (lk_589 hL hk) (by omega) (by rw [ll_589 hL hk]; exact hi) (Nat.lt_trans hi (by decide))
theorem dL_589 (hL : jLay t u l m b c h) {K : Int32 → Option Q} (hk : k < 9) : jf_al (jz_I h I) (589 + k) K = K (nI 2) := (if_pos (Or.inl (by rw [show jl_kd (jz_I h I) (589 + k) = 20 from lk_589 hL hk]; decide))).trans (by rw [show jl_ln (jz_I h I) (589 + k) = 2 from ll_589 hL hk]; rfl)
set_option maxRecDepth 100000 in
theorem lk_598 (hL : jLay t u l m b c h) : jl_kd h 598 = 24 := jLay_kd hL (a := 534) (by decide) rfl
set_option maxRecDepth 100000 in
theorem ll_598 (hL : jLay t u l m b c h) : jl_ln h 598 = 9 := jLay_ln hL (a := 534) (by decide) rfl
theorem dA_598 (hL : jLay t u l m b c h) {K : Nat → Option Q} (hi : i < 9) : jf_aa (jz_I h I) 598 (nI i) K = K (599 + i) := kq_aa (Or.inl (lk_598 hL)) (by rw [ll_598 hL]; exact hi) (Nat.lt_trans hi (by decide)) (jLay_jg hL (by unfold jh_J; simp) i hi)
set_option maxRecDepth 100000 in
theorem lkj_598 : ∀ i, i < 9 → jh_K[535 + i]? = some (20, 2) := by decide +kernel
set_option maxRecDepth 100000 in
theorem lk_599 (hL : jLay t u l m b c h) (hk : k < 9) : jl_kd h (599 + k) = 20 := by have := jLay_kd hL (a := 535 + k) (by omega) (lkj_598 k hk); rwa [show 64 + (535 + k) = 599 + k by omega] at this
set_option maxRecDepth 100000 in
theorem ll_599 (hL : jLay t u l m b c h) (hk : k < 9) : jl_ln h (599 + k) = 2 := by have := jLay_ln hL (a := 535 + k) (by omega) (lkj_598 k hk); rwa [show 64 + (535 + k) = 599 + k by omega] at this
theorem dI_599 (hL : jLay t u l m b c h) {K : Int32 → Option Q} (hk : k < 9) (hi : i < 2) : jf_ia (jz_I h I) (599 + k) (nI i) K = K (I (599 + k) i) := kq_ia (lk_599 hL hk) (by rw [ll_599 hL hk]; exact hi) (Nat.lt_trans hi (by decide))
theorem dS_599 (hL : jLay t u l m b c h) {K : LH → Option Q} (hk : k < 9) (hi : i < 2) : jf_is (jz_I h I) (599 + k) (nI i) x K = K (jz_I h (jU I (599 + k) (jV (I (599 + k)) i x))) := kq_is (lk_599 hL hk) (by omega) (by rw [ll_599 hL hk]; exact hi) (Nat.lt_trans hi (by decide))
theorem dL_599 (hL : jLay t u l m b c h) {K : Int32 → Option Q} (hk : k < 9) : jf_al (jz_I h I) (599 + k) K = K (nI 2) := (if_pos (Or.inl (by rw [show jl_kd (jz_I h I) (599 + k) = 20 from lk_599 hL hk]; decide))).trans (by rw [show jl_ln (jz_I h I) (599 + k) = 2 from ll_599 hL hk]; rfl)
set_option maxRecDepth 100000 in
theorem lk_610 (hL : jLay t u l m b c h) : jl_kd h 610 = 24 := jLay_kd hL (a := 546) (by decide) rfl
set_option maxRecDepth 100000 in
theorem ll_610 (hL : jLay t u l m b c h) : jl_ln h 610 = 80 := jLay_ln hL (a := 546) (by decide) rfl
theorem dA_610 (hL : jLay t u l m b c h) {K : Nat → Option Q} (hi : i < 80) : jf_aa (jz_I h I) 610 (nI i) K = K (611 + i) := kq_aa (Or.inl (lk_610 hL)) (by rw [ll_610 hL]; exact hi) (Nat.lt_trans hi (by decide)) (jLay_jg hL (by unfold jh_J; simp) i hi)
set_option maxRecDepth 100000 in
theorem lkj_610 : ∀ i, i < 80 → jh_K[547 + i]? = some (20, 4) := by decide +kernel
set_option maxRecDepth 100000 in
theorem lk_611 (hL : jLay t u l m b c h) (hk : k < 80) : jl_kd h (611 + k) = 20 := by have := jLay_kd hL (a := 547 + k) (by omega) (lkj_610 k hk); rwa [show 64 + (547 + k) = 611 + k by omega] at this
set_option maxRecDepth 100000 in
theorem ll_611 (hL : jLay t u l m b c h) (hk : k < 80) : jl_ln h (611 + k) = 4 := by have := jLay_ln hL (a := 547 + k) (by omega) (lkj_610 k hk); rwa [show 64 + (547 + k) = 611 + k by omega] at this
theorem dI_611 (hL : jLay t u l m b c h) {K : Int32 → Option Q} (hk : k < 80) (hi : i < 4) : jf_ia (jz_I h I) (611 + k) (nI i) K = K (I (611 + k) i) := kq_ia (lk_611 hL hk) (by rw [ll_611 hL hk]; exact hi) (Nat.lt_trans hi (by decide))
theorem dS_611 (hL : jLay t u l m b c h) {K : LH → Option Q} (hk : k < 80) (hi : i < 4) : jf_is (jz_I h I) (611 + k) (nI i) x K = K (jz_I h (jU I (611 + k) (jV (I (611 + k)) i x))) := kq_is (lk_611 hL hk) (by omega) (by rw [ll_611 hL hk]; exact hi) (Nat.lt_trans hi (by decide))
theorem dL_611 (hL : jLay t u l m b c h) {K : Int32 → Option Q} (hk : k < 80) : jf_al (jz_I h I) (611 + k) K = K (nI 4) := (if_pos (Or.inl (by rw [show jl_kd (jz_I h I) (611 + k) = 20 from lk_611 hL hk]; decide))).trans (by rw [show jl_ln (jz_I h I) (611 + k) = 4 from ll_611 hL hk]; rfl)
set_option maxRecDepth 100000 in
theorem lk_693 (hL : jLay t u l m b c h) : jl_kd h 693 = 24 := jLay_kd hL (a := 629) (by decide) rfl
set_option maxRecDepth 100000 in
theorem ll_693 (hL : jLay t u l m b c h) : jl_ln h 693 = 16 := jLay_ln hL (a := 629) (by decide) rfl
theorem dA_693 (hL : jLay t u l m b c h) {K : Nat → Option Q} (hi : i < 16) : jf_aa (jz_I h I) 693 (nI i) K = K (694 + i) := kq_aa (Or.inl (lk_693 hL)) (by rw [ll_693 hL]; exact hi) (Nat.lt_trans hi (by decide)) (jLay_jg hL (by unfold jh_J; simp) i hi)
set_option maxRecDepth 100000 in
theorem lkj_693 : ∀ i, i < 16 → jh_K[630 + i]? = some (20, 134) := by decide +kernel
set_option maxRecDepth 100000 in
theorem lk_694 (hL : jLay t u l m b c h) (hk : k < 16) : jl_kd h (694 + k) = 20 := by have := jLay_kd hL (a := 630 + k) (by omega) (lkj_693 k hk); rwa [show 64 + (630 + k) = 694 + k by omega] at this
set_option maxRecDepth 100000 in
theorem ll_694 (hL : jLay t u l m b c h) (hk : k < 16) : jl_ln h (694 + k) = 134 := by have := jLay_ln hL (a := 630 + k) (by omega) (lkj_693 k hk); rwa [show 64 + (630 + k) = 694 + k by omega] at this
theorem dI_694 (hL : jLay t u l m b c h) {K : Int32 → Option Q} (hk : k < 16) (hi : i < 134) : jf_ia (jz_I h I) (694 + k) (nI i) K = K (I (694 + k) i) := kq_ia (lk_694 hL hk) (by rw [ll_694 hL hk]; exact hi) (Nat.lt_trans hi (by decide))
theorem dS_694 (hL : jLay t u l m b c h) {K : LH → Option Q} (hk : k < 16) (hi : i < 134) : jf_is (jz_I h I) (694 + k) (nI i) x K = K (jz_I h (jU I (694 + k) (jV (I (694 + k)) i x))) := kq_is (lk_694 hL hk) (by omega) (by rw [ll_694 hL hk]; exact hi) (Nat.lt_trans hi (by decide))
theorem dL_694 (hL : jLay t u l m b c h) {K : Int32 → Option Q} (hk : k < 16) : jf_al (jz_I h I) (694 + k) K = K (nI 134) := (if_pos (Or.inl (by rw [show jl_kd (jz_I h I) (694 + k) = 20 from lk_694 hL hk]; decide))).trans (by rw [show jl_ln (jz_I h I) (694 + k) = 134 from ll_694 hL hk]; rfl)
set_option maxRecDepth 100000 in
theorem lk_710 (hL : jLay t u l m b c h) : jl_kd h 710 = 24 := jLay_kd hL (a := 646) (by decide) rfl
set_option maxRecDepth 100000 in
theorem ll_710 (hL : jLay t u l m b c h) : jl_ln h 710 = 3 := jLay_ln hL (a := 646) (by decide) rfl
theorem dA_710 (hL : jLay t u l m b c h) {K : Nat → Option Q} (hi : i < 3) : jf_aa (jz_I h I) 710 (nI i) K = K (711 + i) := kq_aa (Or.inl (lk_710 hL)) (by rw [ll_710 hL]; exact hi) (Nat.lt_trans hi (by decide)) (jLay_jg hL (by unfold jh_J; simp) i hi)
set_option maxRecDepth 100000 in
theorem lkj_710 : ∀ i, i < 3 → jh_K[647 + i]? = some (20, 2279) := by decide +kernel
set_option maxRecDepth 100000 in
theorem lk_711 (hL : jLay t u l m b c h) (hk : k < 3) : jl_kd h (711 + k) = 20 := by have := jLay_kd hL (a := 647 + k) (by omega) (lkj_710 k hk); rwa [show 64 + (647 + k) = 711 + k by omega] at this
set_option maxRecDepth 100000 in
theorem ll_711 (hL : jLay t u l m b c h) (hk : k < 3) : jl_ln h (711 + k) = 2279 := by have := jLay_ln hL (a := 647 + k) (by omega) (lkj_710 k hk); rwa [show 64 + (647 + k) = 711 + k by omega] at this
theorem dI_711 (hL : jLay t u l m b c h) {K : Int32 → Option Q} (hk : k < 3) (hi : i < 2279) : jf_ia (jz_I h I) (711 + k) (nI i) K = K (I (711 + k) i) := kq_ia (lk_711 hL hk) (by rw [ll_711 hL hk]; exact hi) (Nat.lt_trans hi (by decide))
theorem dS_711 (hL : jLay t u l m b c h) {K : LH → Option Q} (hk : k < 3) (hi : i < 2279) : jf_is (jz_I h I) (711 + k) (nI i) x K = K (jz_I h (jU I (711 + k) (jV (I (711 + k)) i x))) := kq_is (lk_711 hL hk) (by omega) (by rw [ll_711 hL hk]; exact hi) (Nat.lt_trans hi (by decide))
theorem dL_711 (hL : jLay t u l m b c h) {K : Int32 → Option Q} (hk : k < 3) : jf_al (jz_I h I) (711 + k) K = K (nI 2279) := (if_pos (Or.inl (by rw [show jl_kd (jz_I h I) (711 + k) = 20 from lk_711 hL hk]; decide))).trans (by rw [show jl_ln (jz_I h I) (711 + k) = 2279 from ll_711 hL hk]; rfl)
end
section
variable {t u l m b c : Nat} {h : LH} {Q : Type} {I : Nat → Nat → Int32} {k i a : Nat} {x : Int32}
set_option maxRecDepth 100000 in
theorem lk_T (hL : jLay t u l m b c h) (ha : a = 69 ∨ a = 183) : jl_kd h a = 8 := by rcases ha with rfl | rfl; exact jLay_kd hL (a := 5) (by decide) rfl; exact jLay_kd hL (a := 119) (by decide) rfl
theorem dK_T (hL : jLay t u l m b c h) (ha : a = 69 ∨ a = 183) {X : Option Q} : jf_kd (jz_I h I) a 8 X = X := if_pos (lk_T hL ha)
theorem dG_T (hL : jLay t u l m b c h) (ha : a = 69 ∨ a = 183) {K : Int32 → Option Q} : jf_gi (jz_I h I) a 8 k K = K (I a k) := if_pos (lk_T hL ha)
theorem dP_T (hL : jLay t u l m b c h) (ha : a = 69 ∨ a = 183) {K : LH → Option Q} : jf_pi (jz_I h I) a 8 k x K = K (jz_I h (jU I a (jV (I a) k x))) := (if_pos ⟨lk_T hL ha, by omega⟩).trans (by rw [jz_setI])
theorem dR_T_6 (hL : jLay t u l m b c h) (ha : a = 69 ∨ a = 183) {K : Nat → Option Q} : jf_gr (jz_I h I) a 8 6 K = K (a + 1) := by unfold jf_gr; rw [if_pos (show jl_kd (jz_I h I) a = 8 from lk_T hL ha)]; rcases ha with rfl | rfl; (rw [show (jz_I h I).2.2.1 69 6 = some 70 from jLay_pt hL (by unfold jh_P; simp)]; rfl); (rw [show (jz_I h I).2.2.1 183 6 = some 184 from jLay_pt hL (by unfold jh_P; simp)]; rfl)
set_option maxRecDepth 100000 in
theorem lk_T1 (hL : jLay t u l m b c h) (ha : a = 69 ∨ a = 183) : jl_kd h (a + 1) = 20 := by rcases ha with rfl | rfl; exact jLay_kd hL (a := 6) (by decide) rfl; exact jLay_kd hL (a := 120) (by decide) rfl
set_option maxRecDepth 100000 in
theorem ll_T1 (hL : jLay t u l m b c h) (ha : a = 69 ∨ a = 183) : jl_ln h (a + 1) = 9 := by rcases ha with rfl | rfl; exact jLay_ln hL (a := 6) (by decide) rfl; exact jLay_ln hL (a := 120) (by decide) rfl
theorem dI_T1 (hL : jLay t u l m b c h) (ha : a = 69 ∨ a = 183) {K : Int32 → Option Q} (hi : i < 9) : jf_ia (jz_I h I) (a + 1) (nI i) K = K (I (a + 1) i) := kq_ia (lk_T1 hL ha) (by rw [ll_T1 hL ha]; exact hi) (Nat.lt_trans hi (by decide))
theorem dS_T1 (hL : jLay t u l m b c h) (ha : a = 69 ∨ a = 183) {K : LH → Option Q} (hi : i < 9) : jf_is (jz_I h I) (a + 1) (nI i) x K = K (jz_I h (jU I (a + 1) (jV (I (a + 1)) i x))) := kq_is (lk_T1 hL ha) (by omega) (by rw [ll_T1 hL ha]; exact hi) (Nat.lt_trans hi (by decide))
theorem dL_T1 (hL : jLay t u l m b c h) (ha : a = 69 ∨ a = 183) {K : Int32 → Option Q} : jf_al (jz_I h I) (a + 1) K = K (nI 9) := (if_pos (Or.inl (by rw [show jl_kd (jz_I h I) (a + 1) = 20 from lk_T1 hL ha]; decide))).trans (by rw [show jl_ln (jz_I h I) (a + 1) = 9 from ll_T1 hL ha]; rfl)
theorem dR_T_7 (hL : jLay t u l m b c h) (ha : a = 69 ∨ a = 183) {K : Nat → Option Q} : jf_gr (jz_I h I) a 8 7 K = K (a + 2) := by unfold jf_gr; rw [if_pos (show jl_kd (jz_I h I) a = 8 from lk_T hL ha)]; rcases ha with rfl | rfl; (rw [show (jz_I h I).2.2.1 69 7 = some 71 from jLay_pt hL (by unfold jh_P; simp)]; rfl); (rw [show (jz_I h I).2.2.1 183 7 = some 185 from jLay_pt hL (by unfold jh_P; simp)]; rfl)
set_option maxRecDepth 100000 in
theorem lk_T2 (hL : jLay t u l m b c h) (ha : a = 69 ∨ a = 183) : jl_kd h (a + 2) = 20 := by rcases ha with rfl | rfl; exact jLay_kd hL (a := 7) (by decide) rfl; exact jLay_kd hL (a := 121) (by decide) rfl
set_option maxRecDepth 100000 in
theorem ll_T2 (hL : jLay t u l m b c h) (ha : a = 69 ∨ a = 183) : jl_ln h (a + 2) = 6 := by rcases ha with rfl | rfl; exact jLay_ln hL (a := 7) (by decide) rfl; exact jLay_ln hL (a := 121) (by decide) rfl
theorem dI_T2 (hL : jLay t u l m b c h) (ha : a = 69 ∨ a = 183) {K : Int32 → Option Q} (hi : i < 6) : jf_ia (jz_I h I) (a + 2) (nI i) K = K (I (a + 2) i) := kq_ia (lk_T2 hL ha) (by rw [ll_T2 hL ha]; exact hi) (Nat.lt_trans hi (by decide))
theorem dS_T2 (hL : jLay t u l m b c h) (ha : a = 69 ∨ a = 183) {K : LH → Option Q} (hi : i < 6) : jf_is (jz_I h I) (a + 2) (nI i) x K = K (jz_I h (jU I (a + 2) (jV (I (a + 2)) i x))) := kq_is (lk_T2 hL ha) (by omega) (by rw [ll_T2 hL ha]; exact hi) (Nat.lt_trans hi (by decide))
theorem dL_T2 (hL : jLay t u l m b c h) (ha : a = 69 ∨ a = 183) {K : Int32 → Option Q} : jf_al (jz_I h I) (a + 2) K = K (nI 6) := (if_pos (Or.inl (by rw [show jl_kd (jz_I h I) (a + 2) = 20 from lk_T2 hL ha]; decide))).trans (by rw [show jl_ln (jz_I h I) (a + 2) = 6 from ll_T2 hL ha]; rfl)
theorem dR_T_8 (hL : jLay t u l m b c h) (ha : a = 69 ∨ a = 183) {K : Nat → Option Q} : jf_gr (jz_I h I) a 8 8 K = K (a + 3) := by unfold jf_gr; rw [if_pos (show jl_kd (jz_I h I) a = 8 from lk_T hL ha)]; rcases ha with rfl | rfl; (rw [show (jz_I h I).2.2.1 69 8 = some 72 from jLay_pt hL (by unfold jh_P; simp)]; rfl); (rw [show (jz_I h I).2.2.1 183 8 = some 186 from jLay_pt hL (by unfold jh_P; simp)]; rfl)
set_option maxRecDepth 100000 in
theorem lk_T3 (hL : jLay t u l m b c h) (ha : a = 69 ∨ a = 183) : jl_kd h (a + 3) = 20 := by rcases ha with rfl | rfl; exact jLay_kd hL (a := 8) (by decide) rfl; exact jLay_kd hL (a := 122) (by decide) rfl
set_option maxRecDepth 100000 in
theorem ll_T3 (hL : jLay t u l m b c h) (ha : a = 69 ∨ a = 183) : jl_ln h (a + 3) = 6 := by rcases ha with rfl | rfl; exact jLay_ln hL (a := 8) (by decide) rfl; exact jLay_ln hL (a := 122) (by decide) rfl
theorem dI_T3 (hL : jLay t u l m b c h) (ha : a = 69 ∨ a = 183) {K : Int32 → Option Q} (hi : i < 6) : jf_ia (jz_I h I) (a + 3) (nI i) K = K (I (a + 3) i) := kq_ia (lk_T3 hL ha) (by rw [ll_T3 hL ha]; exact hi) (Nat.lt_trans hi (by decide))
theorem dS_T3 (hL : jLay t u l m b c h) (ha : a = 69 ∨ a = 183) {K : LH → Option Q} (hi : i < 6) : jf_is (jz_I h I) (a + 3) (nI i) x K = K (jz_I h (jU I (a + 3) (jV (I (a + 3)) i x))) := kq_is (lk_T3 hL ha) (by omega) (by rw [ll_T3 hL ha]; exact hi) (Nat.lt_trans hi (by decide))
theorem dL_T3 (hL : jLay t u l m b c h) (ha : a = 69 ∨ a = 183) {K : Int32 → Option Q} : jf_al (jz_I h I) (a + 3) K = K (nI 6) := (if_pos (Or.inl (by rw [show jl_kd (jz_I h I) (a + 3) = 20 from lk_T3 hL ha]; decide))).trans (by rw [show jl_ln (jz_I h I) (a + 3) = 6 from ll_T3 hL ha]; rfl)
theorem dR_T_9 (hL : jLay t u l m b c h) (ha : a = 69 ∨ a = 183) {K : Nat → Option Q} : jf_gr (jz_I h I) a 8 9 K = K (a + 4) := by unfold jf_gr; rw [if_pos (show jl_kd (jz_I h I) a = 8 from lk_T hL ha)]; rcases ha with rfl | rfl; (rw [show (jz_I h I).2.2.1 69 9 = some 73 from jLay_pt hL (by unfold jh_P; simp)]; rfl); (rw [show (jz_I h I).2.2.1 183 9 = some 187 from jLay_pt hL (by unfold jh_P; simp)]; rfl)
set_option maxRecDepth 100000 in
theorem lk_T4 (hL : jLay t u l m b c h) (ha : a = 69 ∨ a = 183) : jl_kd h (a + 4) = 20 := by rcases ha with rfl | rfl; exact jLay_kd hL (a := 9) (by decide) rfl; exact jLay_kd hL (a := 123) (by decide) rfl
set_option maxRecDepth 100000 in
theorem ll_T4 (hL : jLay t u l m b c h) (ha : a = 69 ∨ a = 183) : jl_ln h (a + 4) = 6 := by rcases ha with rfl | rfl; exact jLay_ln hL (a := 9) (by decide) rfl; exact jLay_ln hL (a := 123) (by decide) rfl
theorem dI_T4 (hL : jLay t u l m b c h) (ha : a = 69 ∨ a = 183) {K : Int32 → Option Q} (hi : i < 6) : jf_ia (jz_I h I) (a + 4) (nI i) K = K (I (a + 4) i) := kq_ia (lk_T4 hL ha) (by rw [ll_T4 hL ha]; exact hi) (Nat.lt_trans hi (by decide))
theorem dS_T4 (hL : jLay t u l m b c h) (ha : a = 69 ∨ a = 183) {K : LH → Option Q} (hi : i < 6) : jf_is (jz_I h I) (a + 4) (nI i) x K = K (jz_I h (jU I (a + 4) (jV (I (a + 4)) i x))) := kq_is (lk_T4 hL ha) (by omega) (by rw [ll_T4 hL ha]; exact hi) (Nat.lt_trans hi (by decide))
theorem dL_T4 (hL : jLay t u l m b c h) (ha : a = 69 ∨ a = 183) {K : Int32 → Option Q} : jf_al (jz_I h I) (a + 4) K = K (nI 6) := (if_pos (Or.inl (by rw [show jl_kd (jz_I h I) (a + 4) = 20 from lk_T4 hL ha]; decide))).trans (by rw [show jl_ln (jz_I h I) (a + 4) = 6 from ll_T4 hL ha]; rfl)
theorem dR_T_10 (hL : jLay t u l m b c h) (ha : a = 69 ∨ a = 183) {K : Nat → Option Q} : jf_gr (jz_I h I) a 8 10 K = K (a + 5) := by unfold jf_gr; rw [if_pos (show jl_kd (jz_I h I) a = 8 from lk_T hL ha)]; rcases ha with rfl | rfl; (rw [show (jz_I h I).2.2.1 69 10 = some 74 from jLay_pt hL (by unfold jh_P; simp)]; rfl); (rw [show (jz_I h I).2.2.1 183 10 = some 188 from jLay_pt hL (by unfold jh_P; simp)]; rfl)
set_option maxRecDepth 100000 in
theorem lk_T5 (hL : jLay t u l m b c h) (ha : a = 69 ∨ a = 183) : jl_kd h (a + 5) = 20 := by rcases ha with rfl | rfl; exact jLay_kd hL (a := 10) (by decide) rfl; exact jLay_kd hL (a := 124) (by decide) rfl
set_option maxRecDepth 100000 in
theorem ll_T5 (hL : jLay t u l m b c h) (ha : a = 69 ∨ a = 183) : jl_ln h (a + 5) = 6 := by rcases ha with rfl | rfl; exact jLay_ln hL (a := 10) (by decide) rfl; exact jLay_ln hL (a := 124) (by decide) rfl
theorem dI_T5 (hL : jLay t u l m b c h) (ha : a = 69 ∨ a = 183) {K : Int32 → Option Q} (hi : i < 6) : jf_ia (jz_I h I) (a + 5) (nI i) K = K (I (a + 5) i) := kq_ia (lk_T5 hL ha) (by rw [ll_T5 hL ha]; exact hi) (Nat.lt_trans hi (by decide))
theorem dS_T5 (hL : jLay t u l m b c h) (ha : a = 69 ∨ a = 183) {K : LH → Option Q} (hi : i < 6) : jf_is (jz_I h I) (a + 5) (nI i) x K = K (jz_I h (jU I (a + 5) (jV (I (a + 5)) i x))) := kq_is (lk_T5 hL ha) (by omega) (by rw [ll_T5 hL ha]; exact hi) (Nat.lt_trans hi (by decide))
theorem dL_T5 (hL : jLay t u l m b c h) (ha : a = 69 ∨ a = 183) {K : Int32 → Option Q} : jf_al (jz_I h I) (a + 5) K = K (nI 6) := (if_pos (Or.inl (by rw [show jl_kd (jz_I h I) (a + 5) = 20 from lk_T5 hL ha]; decide))).trans (by rw [show jl_ln (jz_I h I) (a + 5) = 6 from ll_T5 hL ha]; rfl)
theorem dR_T_11 (hL : jLay t u l m b c h) (ha : a = 69 ∨ a = 183) {K : Nat → Option Q} : jf_gr (jz_I h I) a 8 11 K = K (a + 6) := by unfold jf_gr; rw [if_pos (show jl_kd (jz_I h I) a = 8 from lk_T hL ha)]; rcases ha with rfl | rfl; (rw [show (jz_I h I).2.2.1 69 11 = some 75 from jLay_pt hL (by unfold jh_P; simp)]; rfl); (rw [show (jz_I h I).2.2.1 183 11 = some 189 from jLay_pt hL (by unfold jh_P; simp)]; rfl)
set_option maxRecDepth 100000 in
theorem lk_T6 (hL : jLay t u l m b c h) (ha : a = 69 ∨ a = 183) : jl_kd h (a + 6) = 20 := by rcases ha with rfl | rfl; exact jLay_kd hL (a := 11) (by decide) rfl; exact jLay_kd hL (a := 125) (by decide) rfl
set_option maxRecDepth 100000 in
theorem ll_T6 (hL : jLay t u l m b c h) (ha : a = 69 ∨ a = 183) : jl_ln h (a + 6) = 24 := by rcases ha with rfl | rfl; exact jLay_ln hL (a := 11) (by decide) rfl; exact jLay_ln hL (a := 125) (by decide) rfl
theorem dI_T6 (hL : jLay t u l m b c h) (ha : a = 69 ∨ a = 183) {K : Int32 → Option Q} (hi : i < 24) : jf_ia (jz_I h I) (a + 6) (nI i) K = K (I (a + 6) i) := kq_ia (lk_T6 hL ha) (by rw [ll_T6 hL ha]; exact hi) (Nat.lt_trans hi (by decide))
theorem dS_T6 (hL : jLay t u l m b c h) (ha : a = 69 ∨ a = 183) {K : LH → Option Q} (hi : i < 24) : jf_is (jz_I h I) (a + 6) (nI i) x K = K (jz_I h (jU I (a + 6) (jV (I (a + 6)) i x))) := kq_is (lk_T6 hL ha) (by omega) (by rw [ll_T6 hL ha]; exact hi) (Nat.lt_trans hi (by decide))
theorem dL_T6 (hL : jLay t u l m b c h) (ha : a = 69 ∨ a = 183) {K : Int32 → Option Q} : jf_al (jz_I h I) (a + 6) K = K (nI 24) := (if_pos (Or.inl (by rw [show jl_kd (jz_I h I) (a + 6) = 20 from lk_T6 hL ha]; decide))).trans (by rw [show jl_ln (jz_I h I) (a + 6) = 24 from ll_T6 hL ha]; rfl)
theorem dR_T_12 (hL : jLay t u l m b c h) (ha : a = 69 ∨ a = 183) {K : Nat → Option Q} : jf_gr (jz_I h I) a 8 12 K = K (a + 7) := by unfold jf_gr; rw [if_pos (show jl_kd (jz_I h I) a = 8 from lk_T hL ha)]; rcases ha with rfl | rfl; (rw [show (jz_I h I).2.2.1 69 12 = some 76 from jLay_pt hL (by unfold jh_P; simp)]; rfl); (rw [show (jz_I h I).2.2.1 183 12 = some 190 from jLay_pt hL (by unfold jh_P; simp)]; rfl)
set_option maxRecDepth 100000 in
theorem lk_T7 (hL : jLay t u l m b c h) (ha : a = 69 ∨ a = 183) : jl_kd h (a + 7) = 20 := by rcases ha with rfl | rfl; exact jLay_kd hL (a := 12) (by decide) rfl; exact jLay_kd hL (a := 126) (by decide) rfl
set_option maxRecDepth 100000 in
theorem ll_T7 (hL : jLay t u l m b c h) (ha : a = 69 ∨ a = 183) : jl_ln h (a + 7) = 6 := by rcases ha with rfl | rfl; exact jLay_ln hL (a := 12) (by decide) rfl; exact jLay_ln hL (a := 126) (by decide) rfl
theorem dI_T7 (hL : jLay t u l m b c h) (ha : a = 69 ∨ a = 183) {K : Int32 → Option Q} (hi : i < 6) : jf_ia (jz_I h I) (a + 7) (nI i) K = K (I (a + 7) i) := kq_ia (lk_T7 hL ha) (by rw [ll_T7 hL ha]; exact hi) (Nat.lt_trans hi (by decide))
theorem dS_T7 (hL : jLay t u l m b c h) (ha : a = 69 ∨ a = 183) {K : LH → Option Q} (hi : i < 6) : jf_is (jz_I h I) (a + 7) (nI i) x K = K (jz_I h (jU I (a + 7) (jV (I (a + 7)) i x))) := kq_is (lk_T7 hL ha) (by omega) (by rw [ll_T7 hL ha]; exact hi) (Nat.lt_trans hi (by decide))
theorem dL_T7 (hL : jLay t u l m b c h) (ha : a = 69 ∨ a = 183) {K : Int32 → Option Q} : jf_al (jz_I h I) (a + 7) K = K (nI 6) := (if_pos (Or.inl (by rw [show jl_kd (jz_I h I) (a + 7) = 20 from lk_T7 hL ha]; decide))).trans (by rw [show jl_ln (jz_I h I) (a + 7) = 6 from ll_T7 hL ha]; rfl)
theorem dR_T_13 (hL : jLay t u l m b c h) (ha : a = 69 ∨ a = 183) {K : Nat → Option Q} : jf_gr (jz_I h I) a 8 13 K = K (a + 8) := by unfold jf_gr; rw [if_pos (show jl_kd (jz_I h I) a = 8 from lk_T hL ha)]; rcases ha with rfl | rfl; (rw [show (jz_I h I).2.2.1 69 13 = some 77 from jLay_pt hL (by unfold jh_P; simp)]; rfl); (rw [show (jz_I h I).2.2.1 183 13 = some 191 from jLay_pt hL (by unfold jh_P; simp)]; rfl)
set_option maxRecDepth 100000 in
theorem lk_T8 (hL : jLay t u l m b c h) (ha : a = 69 ∨ a = 183) : jl_kd h (a + 8) = 20 := by rcases ha with rfl | rfl; exact jLay_kd hL (a := 13) (by decide) rfl; exact jLay_kd hL (a := 127) (by decide) rfl
set_option maxRecDepth 100000 in
theorem ll_T8 (hL : jLay t u l m b c h) (ha : a = 69 ∨ a = 183) : jl_ln h (a + 8) = 6 := by rcases ha with rfl | rfl; exact jLay_ln hL (a := 13) (by decide) rfl; exact jLay_ln hL (a := 127) (by decide) rfl
theorem dI_T8 (hL : jLay t u l m b c h) (ha : a = 69 ∨ a = 183) {K : Int32 → Option Q} (hi : i < 6) : jf_ia (jz_I h I) (a + 8) (nI i) K = K (I (a + 8) i) := kq_ia (lk_T8 hL ha) (by rw [ll_T8 hL ha]; exact hi) (Nat.lt_trans hi (by decide))
theorem dS_T8 (hL : jLay t u l m b c h) (ha : a = 69 ∨ a = 183) {K : LH → Option Q} (hi : i < 6) : jf_is (jz_I h I) (a + 8) (nI i) x K = K (jz_I h (jU I (a + 8) (jV (I (a + 8)) i x))) := kq_is (lk_T8 hL ha) (by omega) (by rw [ll_T8 hL ha]; exact hi) (Nat.lt_trans hi (by decide))
theorem dL_T8 (hL : jLay t u l m b c h) (ha : a = 69 ∨ a = 183) {K : Int32 → Option Q} : jf_al (jz_I h I) (a + 8) K = K (nI 6) := (if_pos (Or.inl (by rw [show jl_kd (jz_I h I) (a + 8) = 20 from lk_T8 hL ha]; decide))).trans (by rw [show jl_ln (jz_I h I) (a + 8) = 6 from ll_T8 hL ha]; rfl)
theorem dR_T_14 (hL : jLay t u l m b c h) (ha : a = 69 ∨ a = 183) {K : Nat → Option Q} : jf_gr (jz_I h I) a 8 14 K = K (a + 9) := by unfold jf_gr; rw [if_pos (show jl_kd (jz_I h I) a = 8 from lk_T hL ha)]; rcases ha with rfl | rfl; (rw [show (jz_I h I).2.2.1 69 14 = some 78 from jLay_pt hL (by unfold jh_P; simp)]; rfl); (rw [show (jz_I h I).2.2.1 183 14 = some 192 from jLay_pt hL (by unfold jh_P; simp)]; rfl)
set_option maxRecDepth 100000 in
theorem lk_T9 (hL : jLay t u l m b c h) (ha : a = 69 ∨ a = 183) : jl_kd h (a + 9) = 20 := by rcases ha with rfl | rfl; exact jLay_kd hL (a := 14) (by decide) rfl; exact jLay_kd hL (a := 128) (by decide) rfl
set_option maxRecDepth 100000 in
theorem ll_T9 (hL : jLay t u l m b c h) (ha : a = 69 ∨ a = 183) : jl_ln h (a + 9) = 10 := by rcases ha with rfl | rfl; exact jLay_ln hL (a := 14) (by decide) rfl; exact jLay_ln hL (a := 128) (by decide) rfl
theorem dI_T9 (hL : jLay t u l m b c h) (ha : a = 69 ∨ a = 183) {K : Int32 → Option Q} (hi : i < 10) : jf_ia (jz_I h I) (a + 9) (nI i) K = K (I (a + 9) i) := kq_ia (lk_T9 hL ha) (by rw [ll_T9 hL ha]; exact hi) (Nat.lt_trans hi (by decide))
theorem dS_T9 (hL : jLay t u l m b c h) (ha : a = 69 ∨ a = 183) {K : LH → Option Q} (hi : i < 10) : jf_is (jz_I h I) (a + 9) (nI i) x K = K (jz_I h (jU I (a + 9) (jV (I (a + 9)) i x))) := kq_is (lk_T9 hL ha) (by omega) (by rw [ll_T9 hL ha]; exact hi) (Nat.lt_trans hi (by decide))
theorem dL_T9 (hL : jLay t u l m b c h) (ha : a = 69 ∨ a = 183) {K : Int32 → Option Q} : jf_al (jz_I h I) (a + 9) K = K (nI 10) := (if_pos (Or.inl (by rw [show jl_kd (jz_I h I) (a + 9) = 20 from lk_T9 hL ha]; decide))).trans (by rw [show jl_ln (jz_I h I) (a + 9) = 10 from ll_T9 hL ha]; rfl)
theorem dR_T_15 (hL : jLay t u l m b c h) (ha : a = 69 ∨ a = 183) {K : Nat → Option Q} : jf_gr (jz_I h I) a 8 15 K = K (a + 10) := by unfold jf_gr; rw [if_pos (show jl_kd (jz_I h I) a = 8 from lk_T hL ha)]; rcases ha with rfl | rfl; (rw [show (jz_I h I).2.2.1 69 15 = some 79 from jLay_pt hL (by unfold jh_P; simp)]; rfl); (rw [show (jz_I h I).2.2.1 183 15 = some 193 from jLay_pt hL (by unfold jh_P; simp)]; rfl)
set_option maxRecDepth 100000 in
theorem lk_T10 (hL : jLay t u l m b c h) (ha : a = 69 ∨ a = 183) : jl_kd h (a + 10) = 20 := by rcases ha with rfl | rfl; exact jLay_kd hL (a := 15) (by decide) rfl; exact jLay_kd hL (a := 129) (by decide) rfl
set_option maxRecDepth 100000 in
theorem ll_T10 (hL : jLay t u l m b c h) (ha : a = 69 ∨ a = 183) : jl_ln h (a + 10) = 10 := by rcases ha with rfl | rfl; exact jLay_ln hL (a := 15) (by decide) rfl; exact jLay_ln hL (a := 129) (by decide) rfl
theorem dI_T10 (hL : jLay t u l m b c h) (ha : a = 69 ∨ a = 183) {K : Int32 → Option Q} (hi : i < 10) : jf_ia (jz_I h I) (a + 10) (nI i) K = K (I (a + 10) i) := kq_ia (lk_T10 hL ha) (by rw [ll_T10 hL ha]; exact hi) (Nat.lt_trans hi (by decide))
theorem dS_T10 (hL : jLay t u l m b c h) (ha : a = 69 ∨ a = 183) {K : LH → Option Q} (hi : i < 10) : jf_is (jz_I h I) (a + 10) (nI i) x K = K (jz_I h (jU I (a + 10) (jV (I (a + 10)) i x))) := kq_is (lk_T10 hL ha) (by omega) (by rw [ll_T10 hL ha]; exact hi) (Nat.lt_trans hi (by decide))
theorem dL_T10 (hL : jLay t u l m b c h) (ha : a = 69 ∨ a = 183) {K : Int32 → Option Q} : jf_al (jz_I h I) (a + 10) K = K (nI 10) := (if_pos (Or.inl (by rw [show jl_kd (jz_I h I) (a + 10) = 20 from lk_T10 hL ha]; decide))).trans (by rw [show jl_ln (jz_I h I) (a + 10) = 10 from ll_T10 hL ha]; rfl)
theorem dR_T_16 (hL : jLay t u l m b c h) (ha : a = 69 ∨ a = 183) {K : Nat → Option Q} : jf_gr (jz_I h I) a 8 16 K = K (a + 11) := by unfold jf_gr; rw [if_pos (show jl_kd (jz_I h I) a = 8 from lk_T hL ha)]; rcases ha with rfl | rfl; (rw [show (jz_I h I).2.2.1 69 16 = some 80 from jLay_pt hL (by unfold jh_P; simp)]; rfl); (rw [show (jz_I h I).2.2.1 183 16 = some 194 from jLay_pt hL (by unfold jh_P; simp)]; rfl)
set_option maxRecDepth 100000 in
theorem lk_T11 (hL : jLay t u l m b c h) (ha : a = 69 ∨ a = 183) : jl_kd h (a + 11) = 20 := by rcases ha with rfl | rfl; exact jLay_kd hL (a := 16) (by decide) rfl; exact jLay_kd hL (a := 130) (by decide) rfl
set_option maxRecDepth 100000 in
theorem ll_T11 (hL : jLay t u l m b c h) (ha : a = 69 ∨ a = 183) : jl_ln h (a + 11) = 10 := by rcases ha with rfl | rfl; exact jLay_ln hL (a := 16) (by decide) rfl; exact jLay_ln hL (a := 130) (by decide) rfl
theorem dI_T11 (hL : jLay t u l m b c h) (ha : a = 69 ∨ a = 183) {K : Int32 → Option Q} (hi : i < 10) : jf_ia (jz_I h I) (a + 11) (nI i) K = K (I (a + 11) i) := kq_ia (lk_T11 hL ha) (by rw [ll_T11 hL ha]; exact hi) (Nat.lt_trans hi (by decide))
theorem dS_T11 (hL : jLay t u l m b c h) (ha : a = 69 ∨ a = 183) {K : LH → Option Q} (hi : i < 10) : jf_is (jz_I h I) (a + 11) (nI i) x K = K (jz_I h (jU I (a + 11) (jV (I (a + 11)) i x))) := kq_is (lk_T11 hL ha) (by omega) (by rw [ll_T11 hL ha]; exact hi) (Nat.lt_trans hi (by decide))
theorem dL_T11 (hL : jLay t u l m b c h) (ha : a = 69 ∨ a = 183) {K : Int32 → Option Q} : jf_al (jz_I h I) (a + 11) K = K (nI 10) := (if_pos (Or.inl (by rw [show jl_kd (jz_I h I) (a + 11) = 20 from lk_T11 hL ha]; decide))).trans (by rw [show jl_ln (jz_I h I) (a + 11) = 10 from ll_T11 hL ha]; rfl)
theorem dR_T_17 (hL : jLay t u l m b c h) (ha : a = 69 ∨ a = 183) {K : Nat → Option Q} : jf_gr (jz_I h I) a 8 17 K = K (a + 12) := by unfold jf_gr; rw [if_pos (show jl_kd (jz_I h I) a = 8 from lk_T hL ha)]; rcases ha with rfl | rfl; (rw [show (jz_I h I).2.2.1 69 17 = some 81 from jLay_pt hL (by unfold jh_P; simp)]; rfl); (rw [show (jz_I h I).2.2.1 183 17 = some 195 from jLay_pt hL (by unfold jh_P; simp)]; rfl)
set_option maxRecDepth 100000 in
theorem lk_T12 (hL : jLay t u l m b c h) (ha : a = 69 ∨ a = 183) : jl_kd h (a + 12) = 20 := by rcases ha with rfl | rfl; exact jLay_kd hL (a := 17) (by decide) rfl; exact jLay_kd hL (a := 131) (by decide) rfl
set_option maxRecDepth 100000 in
theorem ll_T12 (hL : jLay t u l m b c h) (ha : a = 69 ∨ a = 183) : jl_ln h (a + 12) = 8 := by rcases ha with rfl | rfl; exact jLay_ln hL (a := 17) (by decide) rfl; exact jLay_ln hL (a := 131) (by decide) rfl
theorem dI_T12 (hL : jLay t u l m b c h) (ha : a = 69 ∨ a = 183) {K : Int32 → Option Q} (hi : i < 8) : jf_ia (jz_I h I) (a + 12) (nI i) K = K (I (a + 12) i) := kq_ia (lk_T12 hL ha) (by rw [ll_T12 hL ha]; exact hi) (Nat.lt_trans hi (by decide))
theorem dS_T12 (hL : jLay t u l m b c h) (ha : a = 69 ∨ a = 183) {K : LH → Option Q} (hi : i < 8) : jf_is (jz_I h I) (a + 12) (nI i) x K = K (jz_I h (jU I (a + 12) (jV (I (a + 12)) i x))) := kq_is (lk_T12 hL ha) (by omega) (by rw [ll_T12 hL ha]; exact hi) (Nat.lt_trans hi (by decide))
theorem dL_T12 (hL : jLay t u l m b c h) (ha : a = 69 ∨ a = 183) {K : Int32 → Option Q} : jf_al (jz_I h I) (a + 12) K = K (nI 8) := (if_pos (Or.inl (by rw [show jl_kd (jz_I h I) (a + 12) = 20 from lk_T12 hL ha]; decide))).trans (by rw [show jl_ln (jz_I h I) (a + 12) = 8 from ll_T12 hL ha]; rfl)
set_option maxRecDepth 100000 in
theorem lk_L (hL : jLay t u l m b c h) (ha : a = 82 ∨ a = 196) : jl_kd h a = 4 := by rcases ha with rfl | rfl; exact jLay_kd hL (a := 18) (by decide) rfl; exact jLay_kd hL (a := 132) (by decide) rfl
theorem dK_L (hL : jLay t u l m b c h) (ha : a = 82 ∨ a = 196) {X : Option Q} : jf_kd (jz_I h I) a 4 X = X := if_pos (lk_L hL ha)
theorem dG_L (hL : jLay t u l m b c h) (ha : a = 82 ∨ a = 196) {K : Int32 → Option Q} : jf_gi (jz_I h I) a 4 k K = K (I a k) := if_pos (lk_L hL ha)
theorem dP_L (hL : jLay t u l m b c h) (ha : a = 82 ∨ a = 196) {K : LH → Option Q} : jf_pi (jz_I h I) a 4 k x K = K (jz_I h (jU I a (jV (I a) k x))) := (if_pos ⟨lk_L hL ha, by omega⟩).trans (by rw [jz_setI])
theorem dR_L_0 (hL : jLay t u l m b c h) (ha : a = 82 ∨ a = 196) {K : Nat → Option Q} : jf_gr (jz_I h I) a 4 0 K = K (a + 1) := by unfold jf_gr; rw [if_pos (show jl_kd (jz_I h I) a = 4 from lk_L hL ha)]; rcases ha with rfl | rfl; (rw [show (jz_I h I).2.2.1 82 0 = some 83 from jLay_pt hL (by unfold jh_P; simp)]; rfl); (rw [show (jz_I h I).2.2.1 196 0 = some 197 from jLay_pt hL (by unfold jh_P; simp)]; rfl)
set_option maxRecDepth 100000 in
theorem lk_L1 (hL : jLay t u l m b c h) (ha : a = 82 ∨ a = 196) : jl_kd h (a + 1) = 20 := by rcases ha with rfl | rfl; exact jLay_kd hL (a := 19) (by decide) rfl; exact jLay_kd hL (a := 133) (by decide) rfl
set_option maxRecDepth 100000 in
theorem ll_L1 (hL : jLay t u l m b c h) (ha : a = 82 ∨ a = 196) : jl_ln h (a + 1) = 150 := by rcases ha with rfl | rfl; exact jLay_ln hL (a := 19) (by decide) rfl; exact jLay_ln hL (a := 133) (by decide) rfl
theorem dI_L1 (hL : jLay t u l m b c h) (ha : a = 82 ∨ a = 196) {K : Int32 → Option Q} (hi : i < 150) : jf_ia (jz_I h I) (a + 1) (nI i) K = K (I (a + 1) i) := kq_ia (lk_L1 hL ha) (by rw [ll_L1 hL ha]; exact hi) (Nat.lt_trans hi (by decide))
theorem dS_L1 (hL : jLay t u l m b c h) (ha : a = 82 ∨ a = 196) {K : LH → Option Q} (hi : i < 150) : jf_is (jz_I h I) (a + 1) (nI i) x K = K (jz_I h (jU I (a + 1) (jV (I (a + 1)) i x))) := kq_is (lk_L1 hL ha) (by omega) (by rw [ll_L1 hL ha]; exact hi) (Nat.lt_trans hi (by decide))
theorem dL_L1 (hL : jLay t u l m b c h) (ha : a = 82 ∨ a = 196) {K : Int32 → Option Q} : jf_al (jz_I h I) (a + 1) K = K (nI 150) := (if_pos (Or.inl (by rw [show jl_kd (jz_I h I) (a + 1) = 20 from lk_L1 hL ha]; decide))).trans (by rw [show jl_ln (jz_I h I) (a + 1) = 150 from ll_L1 hL ha]; rfl)
theorem dR_L_1 (hL : jLay t u l m b c h) (ha : a = 82 ∨ a = 196) {K : Nat → Option Q} : jf_gr (jz_I h I) a 4 1 K = K (a + 2) := by unfold jf_gr; rw [if_pos (show jl_kd (jz_I h I) a = 4 from lk_L hL ha)]; rcases ha with rfl | rfl; (rw [show (jz_I h I).2.2.1 82 1 = some 84 from jLay_pt hL (by unfold jh_P; simp)]; rfl); (rw [show (jz_I h I).2.2.1 196 1 = some 198 from jLay_pt hL (by unfold jh_P; simp)]; rfl)
set_option maxRecDepth 100000 in
theorem lk_L2 (hL : jLay t u l m b c h) (ha : a = 82 ∨ a = 196) : jl_kd h (a + 2) = 20 := by rcases ha with rfl | rfl; exact jLay_kd hL (a := 20) (by decide) rfl; exact jLay_kd hL (a := 134) (by decide) rfl
set_option maxRecDepth 100000 in
theorem ll_L2 (hL : jLay t u l m b c h) (ha : a = 82 ∨ a = 196) : jl_ln h (a + 2) = 150 := by rcases ha with rfl | rfl; exact jLay_ln hL (a := 20) (by decide) rfl; exact jLay_ln hL (a := 134) (by decide) rfl
theorem dI_L2 (hL : jLay t u l m b c h) (ha : a = 82 ∨ a = 196) {K : Int32 → Option Q} (hi : i < 150) : jf_ia (jz_I h I) (a + 2) (nI i) K = K (I (a + 2) i) := kq_ia (lk_L2 hL ha) (by rw [ll_L2 hL ha]; exact hi) (Nat.lt_trans hi (by decide))
theorem dS_L2 (hL : jLay t u l m b c h) (ha : a = 82 ∨ a = 196) {K : LH → Option Q} (hi : i < 150) : jf_is (jz_I h I) (a + 2) (nI i) x K = K (jz_I h (jU I (a + 2) (jV (I (a + 2)) i x))) := kq_is (lk_L2 hL ha) (by omega) (by rw [ll_L2 hL ha]; exact hi) (Nat.lt_trans hi (by decide))
theorem dL_L2 (hL : jLay t u l m b c h) (ha : a = 82 ∨ a = 196) {K : Int32 → Option Q} : jf_al (jz_I h I) (a + 2) K = K (nI 150) := (if_pos (Or.inl (by rw [show jl_kd (jz_I h I) (a + 2) = 20 from lk_L2 hL ha]; decide))).trans (by rw [show jl_ln (jz_I h I) (a + 2) = 150 from ll_L2 hL ha]; rfl)
set_option maxRecDepth 100000 in
theorem lk_B (hL : jLay t u l m b c h) (ha : a = 199 ∨ a = 202) : jl_kd h a = 0 := by rcases ha with rfl | rfl; exact jLay_kd hL (a := 135) (by decide) rfl; exact jLay_kd hL (a := 138) (by decide) rfl
theorem dK_B (hL : jLay t u l m b c h) (ha : a = 199 ∨ a = 202) {X : Option Q} : jf_kd (jz_I h I) a 0 X = X := if_pos (lk_B hL ha)
theorem dG_B (hL : jLay t u l m b c h) (ha : a = 199 ∨ a = 202) {K : Int32 → Option Q} : jf_gi (jz_I h I) a 0 k K = K (I a k) := if_pos (lk_B hL ha)
theorem dP_B (hL : jLay t u l m b c h) (ha : a = 199 ∨ a = 202) {K : LH → Option Q} : jf_pi (jz_I h I) a 0 k x K = K (jz_I h (jU I a (jV (I a) k x))) := (if_pos ⟨lk_B hL ha, by omega⟩).trans (by rw [jz_setI])
theorem dR_B_0 (hL : jLay t u l m b c h) (ha : a = 199 ∨ a = 202) {K : Nat → Option Q} : jf_gr (jz_I h I) a 0 0 K = K (a + 1) := by unfold jf_gr; rw [if_pos (show jl_kd (jz_I h I) a = 0 from lk_B hL ha)]; rcases ha with rfl | rfl; (rw [show (jz_I h I).2.2.1 199 0 = some 200 from jLay_pt hL (by unfold jh_P; simp)]; rfl); (rw [show (jz_I h I).2.2.1 202 0 = some 203 from jLay_pt hL (by unfold jh_P; simp)]; rfl)
set_option maxRecDepth 100000 in
theorem lk_B1 (hL : jLay t u l m b c h) (ha : a = 199 ∨ a = 202) : jl_kd h (a + 1) = 20 := by rcases ha with rfl | rfl; exact jLay_kd hL (a := 136) (by decide) rfl; exact jLay_kd hL (a := 139) (by decide) rfl
set_option maxRecDepth 100000 in
theorem ll_B1 (hL : jLay t u l m b c h) (ha : a = 199 ∨ a = 202) : jl_ln h (a + 1) = 9 := by rcases ha with rfl | rfl; exact jLay_ln hL (a := 136) (by decide) rfl; exact jLay_ln hL (a := 139) (by decide) rfl
theorem dI_B1 (hL : jLay t u l m b c h) (ha : a = 199 ∨ a = 202) {K : Int32 → Option Q} (hi : i < 9) : jf_ia (jz_I h I) (a + 1) (nI i) K = K (I (a + 1) i) := kq_ia (lk_B1 hL ha) (by rw [ll_B1 hL ha]; exact hi) (Nat.lt_trans hi (by decide))
theorem dS_B1 (hL : jLay t u l m b c h) (ha : a = 199 ∨ a = 202) {K : LH → Option Q} (hi : i < 9) : jf_is (jz_I h I) (a + 1) (nI i) x K = K (jz_I h (jU I (a + 1) (jV (I (a + 1)) i x))) := kq_is (lk_B1 hL ha) (by omega) (by rw [ll_B1 hL ha]; exact hi) (Nat.lt_trans hi (by decide))
theorem dL_B1 (hL : jLay t u l m b c h) (ha : a = 199 ∨ a = 202) {K : Int32 → Option Q} : jf_al (jz_I h I) (a + 1) K = K (nI 9) := (if_pos (Or.inl (by rw [show jl_kd (jz_I h I) (a + 1) = 20 from lk_B1 hL ha]; decide))).trans (by rw [show jl_ln (jz_I h I) (a + 1) = 9 from ll_B1 hL ha]; rfl)
theorem dR_B_1 (hL : jLay t u l m b c h) (ha : a = 199 ∨ a = 202) {K : Nat → Option Q} : jf_gr (jz_I h I) a 0 1 K = K (a + 2) := by unfold jf_gr; rw [if_pos (show jl_kd (jz_I h I) a = 0 from lk_B hL ha)]; rcases ha with rfl | rfl; (rw [show (jz_I h I).2.2.1 199 1 = some 201 from jLay_pt hL (by unfold jh_P; simp)]; rfl); (rw [show (jz_I h I).2.2.1 202 1 = some 204 from jLay_pt hL (by unfold jh_P; simp)]; rfl)
set_option maxRecDepth 100000 in
theorem lk_B2 (hL : jLay t u l m b c h) (ha : a = 199 ∨ a = 202) : jl_kd h (a + 2) = 20 := by rcases ha with rfl | rfl; exact jLay_kd hL (a := 137) (by decide) rfl; exact jLay_kd hL (a := 140) (by decide) rfl
set_option maxRecDepth 100000 in
theorem ll_B2 (hL : jLay t u l m b c h) (ha : a = 199 ∨ a = 202) : jl_ln h (a + 2) = 288 := by rcases ha with rfl | rfl; exact jLay_ln hL (a := 137) (by decide) rfl; exact jLay_ln hL (a := 140) (by decide) rfl
theorem dI_B2 (hL : jLay t u l m b c h) (ha : a = 199 ∨ a = 202) {K : Int32 → Option Q} (hi : i < 288) : jf_ia (jz_I h I) (a + 2) (nI i) K = K (I (a + 2) i) := kq_ia (lk_B2 hL ha) (by rw [ll_B2 hL ha]; exact hi) (Nat.lt_trans hi (by decide))
theorem dS_B2 (hL : jLay t u l m b c h) (ha : a = 199 ∨ a = 202) {K : LH → Option Q} (hi : i < 288) : jf_is (jz_I h I) (a + 2) (nI i) x K = K (jz_I h (jU I (a + 2) (jV (I (a + 2)) i x))) := kq_is (lk_B2 hL ha) (by omega) (by rw [ll_B2 hL ha]; exact hi) (Nat.lt_trans hi (by decide))
theorem dL_B2 (hL : jLay t u l m b c h) (ha : a = 199 ∨ a = 202) {K : Int32 → Option Q} : jf_al (jz_I h I) (a + 2) K = K (nI 288) := (if_pos (Or.inl (by rw [show jl_kd (jz_I h I) (a + 2) = 20 from lk_B2 hL ha]; decide))).trans (by rw [show jl_ln (jz_I h I) (a + 2) = 288 from ll_B2 hL ha]; rfl)
end

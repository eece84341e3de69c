/-! PLAIN LEAN: the class is made -/
def jb_P1 : List (Nat × Nat × Nat) := [(64, 13, 202), (202, 1, 204), (202, 0, 203), (64, 12, 199), (199, 1, 201), (199, 0, 200), (64, 11, 196), (196, 1, 198), (196, 0, 197), (64, 10, 183), (183, 17, 195), (183, 16, 194), (183, 15, 193), (183, 14, 192), (183, 13, 191), (183, 12, 190), (183, 11, 189), (183, 10, 188), (183, 9, 187), (183, 8, 186), (183, 7, 185), (183, 6, 184), (64, 9, 179), (124, 2, 161), (161, 0, 162), (124, 1, 143), (143, 0, 144), (124, 0, 125), (125, 0, 126), (64, 8, 124), (64, 7, 106), (106, 0, 107), (64, 6, 105), (105, 0, 90), (64, 5, 102), (102, 0, 90), (102, 2, 104), (102, 1, 103), (64, 4, 95), (95, 0, 90), (95, 1, 96), (64, 3, 90), (90, 2, 82), (90, 1, 69), (90, 9, 94), (90, 8, 93), (90, 7, 92), (90, 0, 91), (64, 2, 85), (85, 2, 82), (85, 1, 69), (85, 9, 89), (85, 8, 88), (85, 7, 87), (85, 0, 86), (82, 1, 84), (82, 0, 83), (69, 17, 81), (69, 16, 80), (69, 15, 79), (69, 14, 78), (69, 13, 77), (69, 12, 76), (69, 11, 75), (69, 10, 74), (69, 9, 73), (69, 8, 72), (69, 7, 71), (69, 6, 70), (64, 1, 67), (67, 0, 68), (64, 0, 65), (65, 0, 66)]
def jb_J1 : List (Nat × Nat) := [(179, 3), (162, 16), (144, 16), (126, 16), (107, 16), (96, 5)]
set_option maxRecDepth 100000 in
theorem i_SG {L : Nat} {J0 : Nat → Nat → Int32} {h : LH} {P : LH → Prop} (hB : jB L 1 [] [] J0 h) (hP : ∀ h' J', jCL J' 82 s_plain → jCB J' 199 (0, fun _ _ => 0) → J' 65 = jV (J0 65) 3 (-1) → (∀ a, ¬ a = 65 → ¬ (82 ≤ a ∧ a ≤ 83) → ¬ (196 ≤ a ∧ a ≤ 203) → J' a = J0 a) → jB L 141 jb_P1 jb_J1 J' h' → P h') : jW (F_SG_init 64 h) P := by
  unfold F_SG_init
  refine b_nw (A := 65) hB (by decide +kernel) (by decide) rfl (fun h hB => ?_)
  refine b_kd (kk := 7) hB (by decide +kernel) ⟨by decide, by decide⟩ ?_
  refine jW_bd ?_
  try unfold F_Text_init
  refine b_na (k := 600) (A := 66) hB (by decide +kernel) (by decide) rfl (by decide +kernel) (fun h hB => ?_)
  refine b_pr (kk := 7) hB (by decide +kernel) ⟨by decide, by decide⟩ (by decide +kernel) (by decide +kernel) (fun h hB => ?_)
  refine b_pi (kk := 7) hB (by decide +kernel) ⟨by decide, by decide⟩ (fun h hB => ?_)
  refine jW_s ?_
  show jW _ _
  refine b_pr (kk := 18) hB (by decide +kernel) ⟨by decide, by decide⟩ (by decide +kernel) (by decide +kernel) (fun h hB => ?_)
  refine b_nw (A := 67) hB (by decide +kernel) (by decide) rfl (fun h hB => ?_)
  refine b_kd (kk := 5) hB (by decide +kernel) ⟨by decide, by decide⟩ ?_
  refine jW_bd ?_
  try unfold F_Prog_init
  refine b_na (k := 450) (A := 68) hB (by decide +kernel) (by decide) rfl (by decide +kernel) (fun h hB => ?_)
  refine b_pr (kk := 5) hB (by decide +kernel) ⟨by decide, by decide⟩ (by decide +kernel) (by decide +kernel) (fun h hB => ?_)
  refine jW_s ?_
  show jW _ _
  refine b_pr (kk := 18) hB (by decide +kernel) ⟨by decide, by decide⟩ (by decide +kernel) (by decide +kernel) (fun h hB => ?_)
  refine b_nw (A := 69) hB (by decide +kernel) (by decide) rfl (fun h hB => ?_)
  refine b_kd (kk := 18) hB (by decide +kernel) ⟨by decide, by decide⟩ ?_
  refine jW_bd ?_
  try unfold F_Town_init
  refine b_na (k := 9) (A := 70) hB (by decide +kernel) (by decide) rfl (by decide +kernel) (fun h hB => ?_)
  refine b_pr (kk := 18) hB (by decide +kernel) ⟨by decide, by decide⟩ (by decide +kernel) (by decide +kernel) (fun h hB => ?_)
  refine b_na (k := 6) (A := 71) hB (by decide +kernel) (by decide) rfl (by decide +kernel) (fun h hB => ?_)
  refine b_pr (kk := 18) hB (by decide +kernel) ⟨by decide, by decide⟩ (by decide +kernel) (by decide +kernel) (fun h hB => ?_)
  refine b_na (k := 6) (A := 72) hB (by decide +kernel) (by decide) rfl (by decide +kernel) (fun h hB => ?_)
  refine b_pr (kk := 18) hB (by decide +kernel) ⟨by decide, by decide⟩ (by decide +kernel) (by decide +kernel) (fun h hB => ?_)
  refine b_na (k := 6) (A := 73) hB (by decide +kernel) (by decide) rfl (by decide +kernel) (fun h hB => ?_)
  refine b_pr (kk := 18) hB (by decide +kernel) ⟨by decide, by decide⟩ (by decide +kernel) (by decide +kernel) (fun h hB => ?_)
  refine b_na (k := 6) (A := 74) hB (by decide +kernel) (by decide) rfl (by decide +kernel) (fun h hB => ?_)
  refine b_pr (kk := 18) hB (by decide +kernel) ⟨by decide, by decide⟩ (by decide +kernel) (by decide +kernel) (fun h hB => ?_)
  refine b_na (k := 24) (A := 75) hB (by decide +kernel) (by decide) rfl (by decide +kernel) (fun h hB => ?_)
  refine b_pr (kk := 18) hB (by decide +kernel) ⟨by decide, by decide⟩ (by decide +kernel) (by decide +kernel) (fun h hB => ?_)
  refine b_na (k := 6) (A := 76) hB (by decide +kernel) (by decide) rfl (by decide +kernel) (fun h hB => ?_)
  refine b_pr (kk := 18) hB (by decide +kernel) ⟨by decide, by decide⟩ (by decide +kernel) (by decide +kernel) (fun h hB => ?_)
  refine b_na (k := 6) (A := 77) hB (by decide +kernel) (by decide) rfl (by decide +kernel) (fun h hB => ?_)
  refine b_pr (kk := 18) hB (by decide +kernel) ⟨by decide, by decide⟩ (by decide +kernel) (by decide +kernel) (fun h hB => ?_)
  refine b_na (k := 10) (A := 78) hB (by decide +kernel) (by decide) rfl (by decide +kernel) (fun h hB => ?_)
  refine b_pr (kk := 18) hB (by decide +kernel) ⟨by decide, by decide⟩ (by decide +kernel) (by decide +kernel) (fun h hB => ?_)
  refine b_na (k := 10) (A := 79) hB (by decide +kernel) (by decide) rfl (by decide +kernel) (fun h hB => ?_)
  refine b_pr (kk := 18) hB (by decide +kernel) ⟨by decide, by decide⟩ (by decide +kernel) (by decide +kernel) (fun h hB => ?_)
  refine b_na (k := 10) (A := 80) hB (by decide +kernel) (by decide) rfl (by decide +kernel) (fun h hB => ?_)
  refine b_pr (kk := 18) hB (by decide +kernel) ⟨by decide, by decide⟩ (by decide +kernel) (by decide +kernel) (fun h hB => ?_)
  refine b_na (k := 8) (A := 81) hB (by decide +kernel) (by decide) rfl (by decide +kernel) (fun h hB => ?_)
  refine b_pr (kk := 18) hB (by decide +kernel) ⟨by decide, by decide⟩ (by decide +kernel) (by decide +kernel) (fun h hB => ?_)
  refine jW_s ?_
  show jW _ _
  refine b_nw (A := 82) hB (by decide +kernel) (by decide) rfl (fun h hB => ?_)
  refine b_kd (kk := 3) hB (by decide +kernel) ⟨by decide, by decide⟩ ?_
  refine jW_bd ?_
  try unfold F_Law_init
  refine b_na (k := 150) (A := 83) hB (by decide +kernel) (by decide) rfl (by decide +kernel) (fun h hB => ?_)
  refine b_pr (kk := 3) hB (by decide +kernel) ⟨by decide, by decide⟩ (by decide +kernel) (by decide +kernel) (fun h hB => ?_)
  refine b_na (k := 150) (A := 84) hB (by decide +kernel) (by decide) rfl (by decide +kernel) (fun h hB => ?_)
  refine b_pr (kk := 3) hB (by decide +kernel) ⟨by decide, by decide⟩ (by decide +kernel) (by decide +kernel) (fun h hB => ?_)
  refine b_kd (kk := 3) hB (by decide +kernel) ⟨by decide, by decide⟩ ?_
  refine b_plain (kk := 3) hB (by decide +kernel) (by decide +kernel) ⟨by decide, by decide⟩ (by decide +kernel) (fun h J1 c1 w1 hB => ?_)
  refine jW_s ?_
  show jW _ _
  refine b_nw (A := 85) hB (by decide +kernel) (by decide) rfl (fun h hB => ?_)
  refine b_kd (kk := 10) hB (by decide +kernel) ⟨by decide, by decide⟩ ?_
  refine jW_bd ?_
  try unfold F_Scene_init
  refine b_na (k := 134) (A := 86) hB (by decide +kernel) (by decide) rfl (by decide +kernel) (fun h hB => ?_)
  refine b_pr (kk := 10) hB (by decide +kernel) ⟨by decide, by decide⟩ (by decide +kernel) (by decide +kernel) (fun h hB => ?_)
  refine b_na (k := 9) (A := 87) hB (by decide +kernel) (by decide) rfl (by decide +kernel) (fun h hB => ?_)
  refine b_pr (kk := 10) hB (by decide +kernel) ⟨by decide, by decide⟩ (by decide +kernel) (by decide +kernel) (fun h hB => ?_)
  refine b_na (k := 9) (A := 88) hB (by decide +kernel) (by decide) rfl (by decide +kernel) (fun h hB => ?_)
  refine b_pr (kk := 10) hB (by decide +kernel) ⟨by decide, by decide⟩ (by decide +kernel) (by decide +kernel) (fun h hB => ?_)
  refine b_na (k := 7) (A := 89) hB (by decide +kernel) (by decide) rfl (by decide +kernel) (fun h hB => ?_)
  refine b_pr (kk := 10) hB (by decide +kernel) ⟨by decide, by decide⟩ (by decide +kernel) (by decide +kernel) (fun h hB => ?_)
  refine b_pr (kk := 10) hB (by decide +kernel) ⟨by decide, by decide⟩ (by decide +kernel) (by decide +kernel) (fun h hB => ?_)
  refine b_pr (kk := 10) hB (by decide +kernel) ⟨by decide, by decide⟩ (by decide +kernel) (by decide +kernel) (fun h hB => ?_)
  refine jW_s ?_
  show jW _ _
  refine b_pr (kk := 18) hB (by decide +kernel) ⟨by decide, by decide⟩ (by decide +kernel) (by decide +kernel) (fun h hB => ?_)
  refine b_nw (A := 90) hB (by decide +kernel) (by decide) rfl (fun h hB => ?_)
  refine b_kd (kk := 10) hB (by decide +kernel) ⟨by decide, by decide⟩ ?_
  refine jW_bd ?_
  try unfold F_Scene_init
  refine b_na (k := 134) (A := 91) hB (by decide +kernel) (by decide) rfl (by decide +kernel) (fun h hB => ?_)
  refine b_pr (kk := 10) hB (by decide +kernel) ⟨by decide, by decide⟩ (by decide +kernel) (by decide +kernel) (fun h hB => ?_)
  refine b_na (k := 9) (A := 92) hB (by decide +kernel) (by decide) rfl (by decide +kernel) (fun h hB => ?_)
  refine b_pr (kk := 10) hB (by decide +kernel) ⟨by decide, by decide⟩ (by decide +kernel) (by decide +kernel) (fun h hB => ?_)
  refine b_na (k := 9) (A := 93) hB (by decide +kernel) (by decide) rfl (by decide +kernel) (fun h hB => ?_)
  refine b_pr (kk := 10) hB (by decide +kernel) ⟨by decide, by decide⟩ (by decide +kernel) (by decide +kernel) (fun h hB => ?_)
  refine b_na (k := 7) (A := 94) hB (by decide +kernel) (by decide) rfl (by decide +kernel) (fun h hB => ?_)
  refine b_pr (kk := 10) hB (by decide +kernel) ⟨by decide, by decide⟩ (by decide +kernel) (by decide +kernel) (fun h hB => ?_)
  refine b_pr (kk := 10) hB (by decide +kernel) ⟨by decide, by decide⟩ (by decide +kernel) (by decide +kernel) (fun h hB => ?_)
  refine b_pr (kk := 10) hB (by decide +kernel) ⟨by decide, by decide⟩ (by decide +kernel) (by decide +kernel) (fun h hB => ?_)
  refine jW_s ?_
  show jW _ _
  refine b_pr (kk := 18) hB (by decide +kernel) ⟨by decide, by decide⟩ (by decide +kernel) (by decide +kernel) (fun h hB => ?_)
  refine b_nw (A := 95) hB (by decide +kernel) (by decide) rfl (fun h hB => ?_)
  refine b_gr (kk := 18) (v := 90) hB (by decide +kernel) ⟨by decide, by decide⟩ (by decide +kernel) ?_
  refine b_kd (kk := 8) hB (by decide +kernel) ⟨by decide, by decide⟩ ?_
  refine jW_bd ?_
  try unfold F_Keep_init
  refine b_mn (A := 96) (nn := 5) (kk := 134) hB (by decide +kernel) (by decide) rfl (by decide +kernel) (fun h hB => ?_)
  refine b_pr (kk := 8) hB (by decide +kernel) ⟨by decide, by decide⟩ (by decide +kernel) (by decide +kernel) (fun h hB => ?_)
  refine b_pr (kk := 8) hB (by decide +kernel) ⟨by decide, by decide⟩ (by decide +kernel) (by decide +kernel) (fun h hB => ?_)
  refine jW_s ?_
  show jW _ _
  refine b_pr (kk := 18) hB (by decide +kernel) ⟨by decide, by decide⟩ (by decide +kernel) (by decide +kernel) (fun h hB => ?_)
  refine b_nw (A := 102) hB (by decide +kernel) (by decide) rfl (fun h hB => ?_)
  refine b_gr (kk := 18) (v := 90) hB (by decide +kernel) ⟨by decide, by decide⟩ (by decide +kernel) ?_
  refine b_kd (kk := 8) hB (by decide +kernel) ⟨by decide, by decide⟩ ?_
  refine jW_bd ?_
  try unfold F_Watch_init
  refine b_na (k := 216) (A := 103) hB (by decide +kernel) (by decide) rfl (by decide +kernel) (fun h hB => ?_)
  refine b_pr (kk := 8) hB (by decide +kernel) ⟨by decide, by decide⟩ (by decide +kernel) (by decide +kernel) (fun h hB => ?_)
  refine b_na (k := 9) (A := 104) hB (by decide +kernel) (by decide) rfl (by decide +kernel) (fun h hB => ?_)
  refine b_pr (kk := 8) hB (by decide +kernel) ⟨by decide, by decide⟩ (by decide +kernel) (by decide +kernel) (fun h hB => ?_)
  refine b_pr (kk := 8) hB (by decide +kernel) ⟨by decide, by decide⟩ (by decide +kernel) (by decide +kernel) (fun h hB => ?_)
  refine jW_s ?_
  show jW _ _
  refine b_pr (kk := 18) hB (by decide +kernel) ⟨by decide, by decide⟩ (by decide +kernel) (by decide +kernel) (fun h hB => ?_)
  refine b_nw (A := 105) hB (by decide +kernel) (by decide) rfl (fun h hB => ?_)
  refine b_gr (kk := 18) (v := 90) hB (by decide +kernel) ⟨by decide, by decide⟩ (by decide +kernel) ?_
  refine b_kd (kk := 4) hB (by decide +kernel) ⟨by decide, by decide⟩ ?_
  refine jW_bd ?_
  try unfold F_Days_init
  refine b_pr (kk := 4) hB (by decide +kernel) ⟨by decide, by decide⟩ (by decide +kernel) (by decide +kernel) (fun h hB => ?_)
  refine jW_s ?_
  show jW _ _
  refine b_pr (kk := 18) hB (by decide +kernel) ⟨by decide, by decide⟩ (by decide +kernel) (by decide +kernel) (fun h hB => ?_)
  refine b_nw (A := 106) hB (by decide +kernel) (by decide) rfl (fun h hB => ?_)
  refine b_kd (kk := 2) hB (by decide +kernel) ⟨by decide, by decide⟩ ?_
  refine jW_bd ?_
  try unfold F_Hist_init
  refine b_mn (A := 107) (nn := 16) (kk := 134) hB (by decide +kernel) (by decide) rfl (by decide +kernel) (fun h hB => ?_)
  refine b_pr (kk := 2) hB (by decide +kernel) ⟨by decide, by decide⟩ (by decide +kernel) (by decide +kernel) (fun h hB => ?_)
  refine jW_s ?_
  show jW _ _
  refine b_pr (kk := 18) hB (by decide +kernel) ⟨by decide, by decide⟩ (by decide +kernel) (by decide +kernel) (fun h hB => ?_)
  refine b_na (k := 3) (A := 124) hB (by decide +kernel) (by decide) rfl (by decide +kernel) (fun h hB => ?_)
  refine b_pr (kk := 18) hB (by decide +kernel) ⟨by decide, by decide⟩ (by decide +kernel) (by decide +kernel) (fun h hB => ?_)
  show jW (F_SG_init_l134 (996 + 4) 64 (0 : Int32) h) _
  show jW (F_SG_init_c134 (F_SG_init_l134 (996 + 3)) 64 (0 : Int32) h) _
  unfold F_SG_init_c134
  rw [if_pos (by decide)]
  refine b_gr (kk := 18) (v := 124) hB (by decide +kernel) ⟨by decide, by decide⟩ (by decide +kernel) ?_
  refine b_nw (A := 125) hB (by decide +kernel) (by decide) rfl (fun h hB => ?_)
  refine b_kd (kk := 2) hB (by decide +kernel) ⟨by decide, by decide⟩ ?_
  refine jW_bd ?_
  try unfold F_Hist_init
  refine b_mn (A := 126) (nn := 16) (kk := 134) hB (by decide +kernel) (by decide) rfl (by decide +kernel) (fun h hB => ?_)
  refine b_pr (kk := 2) hB (by decide +kernel) ⟨by decide, by decide⟩ (by decide +kernel) (by decide +kernel) (fun h hB => ?_)
  refine jW_s ?_
  show jW _ _
  refine b_as (i := 0) (k := 2) (kk := 3) hB (by decide +kernel) ⟨by decide, by decide⟩ (by decide +kernel) (by decide +kernel) ⟨by decide, by decide⟩ (by decide +kernel) (by decide +kernel) (fun h hB => ?_)
  show jW (F_SG_init_c134 (F_SG_init_l134 (996 + 2)) 64 (1 : Int32) h) _
  unfold F_SG_init_c134
  rw [if_pos (by decide)]
  refine b_gr (kk := 18) (v := 124) hB (by decide +kernel) ⟨by decide, by decide⟩ (by decide +kernel) ?_
  refine b_nw (A := 143) hB (by decide +kernel) (by decide) rfl (fun h hB => ?_)
  refine b_kd (kk := 2) hB (by decide +kernel) ⟨by decide, by decide⟩ ?_
  refine jW_bd ?_
  try unfold F_Hist_init
  refine b_mn (A := 144) (nn := 16) (kk := 134) hB (by decide +kernel) (by decide) rfl (by decide +kernel) (fun h hB => ?_)
  refine b_pr (kk := 2) hB (by decide +kernel) ⟨by decide, by decide⟩ (by decide +kernel) (by decide +kernel) (fun h hB => ?_)
  refine jW_s ?_
  show jW _ _
  refine b_as (i := 1) (k := 2) (kk := 3) hB (by decide +kernel) ⟨by decide, by decide⟩ (by decide +kernel) (by decide +kernel) ⟨by decide, by decide⟩ (by decide +kernel) (by decide +kernel) (fun h hB => ?_)
  show jW (F_SG_init_c134 (F_SG_init_l134 (996 + 1)) 64 (2 : Int32) h) _
  unfold F_SG_init_c134
  rw [if_pos (by decide)]
  refine b_gr (kk := 18) (v := 124) hB (by decide +kernel) ⟨by decide, by decide⟩ (by decide +kernel) ?_
  refine b_nw (A := 161) hB (by decide +kernel) (by decide) rfl (fun h hB => ?_)
  refine b_kd (kk := 2) hB (by decide +kernel) ⟨by decide, by decide⟩ ?_
  refine jW_bd ?_
  try unfold F_Hist_init
  refine b_mn (A := 162) (nn := 16) (kk := 134) hB (by decide +kernel) (by decide) rfl (by decide +kernel) (fun h hB => ?_)
  refine b_pr (kk := 2) hB (by decide +kernel) ⟨by decide, by decide⟩ (by decide +kernel) (by decide +kernel) (fun h hB => ?_)
  refine jW_s ?_
  show jW _ _
  refine b_as (i := 2) (k := 2) (kk := 3) hB (by decide +kernel) ⟨by decide, by decide⟩ (by decide +kernel) (by decide +kernel) ⟨by decide, by decide⟩ (by decide +kernel) (by decide +kernel) (fun h hB => ?_)
  show jW (F_SG_init_c134 (F_SG_init_l134 (996 + 0)) 64 (3 : Int32) h) _
  unfold F_SG_init_c134
  rw [if_neg (by decide)]
  refine b_mn (A := 179) (nn := 3) (kk := 134) hB (by decide +kernel) (by decide) rfl (by decide +kernel) (fun h hB => ?_)
  refine b_pr (kk := 18) hB (by decide +kernel) ⟨by decide, by decide⟩ (by decide +kernel) (by decide +kernel) (fun h hB => ?_)
  refine b_nw (A := 183) hB (by decide +kernel) (by decide) rfl (fun h hB => ?_)
  refine b_kd (kk := 18) hB (by decide +kernel) ⟨by decide, by decide⟩ ?_
  refine jW_bd ?_
  try unfold F_Town_init
  refine b_na (k := 9) (A := 184) hB (by decide +kernel) (by decide) rfl (by decide +kernel) (fun h hB => ?_)
  refine b_pr (kk := 18) hB (by decide +kernel) ⟨by decide, by decide⟩ (by decide +kernel) (by decide +kernel) (fun h hB => ?_)
  refine b_na (k := 6) (A := 185) hB (by decide +kernel) (by decide) rfl (by decide +kernel) (fun h hB => ?_)
  refine b_pr (kk := 18) hB (by decide +kernel) ⟨by decide, by decide⟩ (by decide +kernel) (by decide +kernel) (fun h hB => ?_)
  refine b_na (k := 6) (A := 186) hB (by decide +kernel) (by decide) rfl (by decide +kernel) (fun h hB => ?_)
  refine b_pr (kk := 18) hB (by decide +kernel) ⟨by decide, by decide⟩ (by decide +kernel) (by decide +kernel) (fun h hB => ?_)
  refine b_na (k := 6) (A := 187) hB (by decide +kernel) (by decide) rfl (by decide +kernel) (fun h hB => ?_)
  refine b_pr (kk := 18) hB (by decide +kernel) ⟨by decide, by decide⟩ (by decide +kernel) (by decide +kernel) (fun h hB => ?_)
  refine b_na (k := 6) (A := 188) hB (by decide +kernel) (by decide) rfl (by decide +kernel) (fun h hB => ?_)
  refine b_pr (kk := 18) hB (by decide +kernel) ⟨by decide, by decide⟩ (by decide +kernel) (by decide +kernel) (fun h hB => ?_)
  refine b_na (k := 24) (A := 189) hB (by decide +kernel) (by decide) rfl (by decide +kernel) (fun h hB => ?_)
  refine b_pr (kk := 18) hB (by decide +kernel) ⟨by decide, by decide⟩ (by decide +kernel) (by decide +kernel) (fun h hB => ?_)
  refine b_na (k := 6) (A := 190) hB (by decide +kernel) (by decide) rfl (by decide +kernel) (fun h hB => ?_)
  refine b_pr (kk := 18) hB (by decide +kernel) ⟨by decide, by decide⟩ (by decide +kernel) (by decide +kernel) (fun h hB => ?_)
  refine b_na (k := 6) (A := 191) hB (by decide +kernel) (by decide) rfl (by decide +kernel) (fun h hB => ?_)
  refine b_pr (kk := 18) hB (by decide +kernel) ⟨by decide, by decide⟩ (by decide +kernel) (by decide +kernel) (fun h hB => ?_)
  refine b_na (k := 10) (A := 192) hB (by decide +kernel) (by decide) rfl (by decide +kernel) (fun h hB => ?_)
  refine b_pr (kk := 18) hB (by decide +kernel) ⟨by decide, by decide⟩ (by decide +kernel) (by decide +kernel) (fun h hB => ?_)
  refine b_na (k := 10) (A := 193) hB (by decide +kernel) (by decide) rfl (by decide +kernel) (fun h hB => ?_)
  refine b_pr (kk := 18) hB (by decide +kernel) ⟨by decide, by decide⟩ (by decide +kernel) (by decide +kernel) (fun h hB => ?_)
  refine b_na (k := 10) (A := 194) hB (by decide +kernel) (by decide) rfl (by decide +kernel) (fun h hB => ?_)
  refine b_pr (kk := 18) hB (by decide +kernel) ⟨by decide, by decide⟩ (by decide +kernel) (by decide +kernel) (fun h hB => ?_)
  refine b_na (k := 8) (A := 195) hB (by decide +kernel) (by decide) rfl (by decide +kernel) (fun h hB => ?_)
  refine b_pr (kk := 18) hB (by decide +kernel) ⟨by decide, by decide⟩ (by decide +kernel) (by decide +kernel) (fun h hB => ?_)
  refine jW_s ?_
  show jW _ _
  refine b_pr (kk := 18) hB (by decide +kernel) ⟨by decide, by decide⟩ (by decide +kernel) (by decide +kernel) (fun h hB => ?_)
  refine b_nw (A := 196) hB (by decide +kernel) (by decide) rfl (fun h hB => ?_)
  refine b_kd (kk := 3) hB (by decide +kernel) ⟨by decide, by decide⟩ ?_
  refine jW_bd ?_
  try unfold F_Law_init
  refine b_na (k := 150) (A := 197) hB (by decide +kernel) (by decide) rfl (by decide +kernel) (fun h hB => ?_)
  refine b_pr (kk := 3) hB (by decide +kernel) ⟨by decide, by decide⟩ (by decide +kernel) (by decide +kernel) (fun h hB => ?_)
  refine b_na (k := 150) (A := 198) hB (by decide +kernel) (by decide) rfl (by decide +kernel) (fun h hB => ?_)
  refine b_pr (kk := 3) hB (by decide +kernel) ⟨by decide, by decide⟩ (by decide +kernel) (by decide +kernel) (fun h hB => ?_)
  refine b_kd (kk := 3) hB (by decide +kernel) ⟨by decide, by decide⟩ ?_
  refine b_plain (kk := 3) hB (by decide +kernel) (by decide +kernel) ⟨by decide, by decide⟩ (by decide +kernel) (fun h J2 c2 w2 hB => ?_)
  refine jW_s ?_
  show jW _ _
  refine b_pr (kk := 18) hB (by decide +kernel) ⟨by decide, by decide⟩ (by decide +kernel) (by decide +kernel) (fun h hB => ?_)
  refine b_nw (A := 199) hB (by decide +kernel) (by decide) rfl (fun h hB => ?_)
  refine b_kd (kk := 3) hB (by decide +kernel) ⟨by decide, by decide⟩ ?_
  refine jW_bd ?_
  try unfold F_Book_init
  refine b_na (k := 9) (A := 200) hB (by decide +kernel) (by decide) rfl (by decide +kernel) (fun h hB => ?_)
  refine b_pr (kk := 3) hB (by decide +kernel) ⟨by decide, by decide⟩ (by decide +kernel) (by decide +kernel) (fun h hB => ?_)
  refine b_na (k := 288) (A := 201) hB (by decide +kernel) (by decide) rfl (by decide +kernel) (fun h hB => ?_)
  refine b_pr (kk := 3) hB (by decide +kernel) ⟨by decide, by decide⟩ (by decide +kernel) (by decide +kernel) (fun h hB => ?_)
  refine b_kd (kk := 3) hB (by decide +kernel) ⟨by decide, by decide⟩ ?_
  refine b_clear (kk := 3) (f := fun _ _ => 0) hB (by decide +kernel) (by decide +kernel) ⟨by decide, by decide⟩ (by decide +kernel) (fun h J3 c3 w3 hB => ?_)
  refine jW_s ?_
  show jW _ _
  refine b_pr (kk := 18) hB (by decide +kernel) ⟨by decide, by decide⟩ (by decide +kernel) (by decide +kernel) (fun h hB => ?_)
  refine b_nw (A := 202) hB (by decide +kernel) (by decide) rfl (fun h hB => ?_)
  refine b_kd (kk := 3) hB (by decide +kernel) ⟨by decide, by decide⟩ ?_
  refine jW_bd ?_
  try unfold F_Book_init
  refine b_na (k := 9) (A := 203) hB (by decide +kernel) (by decide) rfl (by decide +kernel) (fun h hB => ?_)
  refine b_pr (kk := 3) hB (by decide +kernel) ⟨by decide, by decide⟩ (by decide +kernel) (by decide +kernel) (fun h hB => ?_)
  refine b_na (k := 288) (A := 204) hB (by decide +kernel) (by decide) rfl (by decide +kernel) (fun h hB => ?_)
  refine b_pr (kk := 3) hB (by decide +kernel) ⟨by decide, by decide⟩ (by decide +kernel) (by decide +kernel) (fun h hB => ?_)
  refine b_kd (kk := 3) hB (by decide +kernel) ⟨by decide, by decide⟩ ?_
  refine b_clear (kk := 3) (f := fun _ _ => 0) hB (by decide +kernel) (by decide +kernel) ⟨by decide, by decide⟩ (by decide +kernel) (fun h J4 c4 w4 hB => ?_)
  refine jW_s ?_
  show jW _ _
  refine b_pr (kk := 18) hB (by decide +kernel) ⟨by decide, by decide⟩ (by decide +kernel) (by decide +kernel) (fun h hB => ?_)
  refine jW_s (hP h J4 ?_ ?_ ?_ (fun a x1 x2 x3 => ?_) hB)
  · exact jCL_cg (fun a ha => by rw [w4 a (by omega) (by omega), w3 a (by omega) (by omega), w2 a (by omega) (by omega)]) c1
  · exact jCB_cg (fun a ha => by rw [w4 a (by omega) (by omega)]) c3
  · rw [w4 65 (by omega) (by omega), w3 65 (by omega) (by omega), w2 65 (by omega) (by omega), w1 65 (by omega) (by omega), jU_eq]
  · rw [w4 a (by omega) (by omega), w3 a (by omega) (by omega), w2 a (by omega) (by omega), w1 a (by omega) (by omega), jU_ne x1]

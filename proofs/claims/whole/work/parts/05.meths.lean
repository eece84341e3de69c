noncomputable def jm_bb (m : Nat) : ByteArray := jm_b.getD m ⟨#[]⟩
noncomputable def jm_rr (m : Nat) : Option FieldType := jm_r.getD m none
noncomputable def jm_hh (m : Nat) : List (Nat × Nat × Nat × Nat) := jm_h.getD m []
noncomputable def jm_ml (m : Nat) : Nat := (jt_Ml[m]?).elim 0 (fun M => M.2.2.2.2.2)
/-- the words of a method: its code (with its table), what kind it is, which it selects, that its class is initialised -/
noncomputable def jm_P (m : Nat) : Prop := ((jm_hh m = [] ∧ Cond.code (jm_yy m) (jm_bb m) (jm_ml m) (jm_rr m) ∈ jb) ∨ (jm_hh m ≠ [] ∧ Cond.codeWith (jm_yy m) (jm_bb m) (jm_ml m) (jm_rr m) (jm_hh m) ∈ jb)) ∧ (if (jt_A.getD m (0, 999)).2 = 999 then Cond.static (jm_yy m) ∈ jb else Cond.instanceMethod (jm_yy m) ∈ jb ∧ ((jm_yy m).name = "<init>" ∨ Cond.selects (jm_yy m).cls (jm_yy m) (jm_yy m) ∈ jb)) ∧ Cond.initialized (jm_yy m).cls ∈ jb
set_option maxRecDepth 100000 in
theorem jm_P_0 : jm_P 0 := ⟨Or.inl ⟨rfl, jb_2 (i := 125) rfl rfl⟩, jb_neg (by decide) ⟨jb_2 (i := 124) rfl rfl, Or.inl rfl⟩, jb_1 (i := 11) rfl rfl⟩
set_option maxRecDepth 100000 in
theorem jm_P_1 : jm_P 1 := ⟨Or.inl ⟨rfl, jb_2 (i := 130) rfl rfl⟩, jb_neg (by decide) ⟨jb_2 (i := 128) rfl rfl, Or.inr (jb_2 (i := 129) rfl rfl)⟩, jb_1 (i := 11) rfl rfl⟩
set_option maxRecDepth 100000 in
theorem jm_P_2 : jm_P 2 := ⟨Or.inl ⟨rfl, jb_4 (i := 228) rfl rfl⟩, jb_neg (by decide) ⟨jb_4 (i := 226) rfl rfl, Or.inr (jb_4 (i := 227) rfl rfl)⟩, jb_1 (i := 11) rfl rfl⟩
set_option maxRecDepth 100000 in
theorem jm_P_3 : jm_P 3 := ⟨Or.inl ⟨rfl, jb_4 (i := 233) rfl rfl⟩, jb_neg (by decide) ⟨jb_4 (i := 232) rfl rfl, Or.inr (jb_0 (i := 32) rfl rfl)⟩, jb_1 (i := 11) rfl rfl⟩
set_option maxRecDepth 100000 in
theorem jm_P_4 : jm_P 4 := ⟨Or.inl ⟨rfl, jb_4 (i := 238) rfl rfl⟩, jb_neg (by decide) ⟨jb_4 (i := 236) rfl rfl, Or.inr (jb_4 (i := 237) rfl rfl)⟩, jb_1 (i := 11) rfl rfl⟩
set_option maxRecDepth 100000 in
theorem jm_P_5 : jm_P 5 := ⟨Or.inl ⟨rfl, jb_5 (i := 232) rfl rfl⟩, jb_neg (by decide) ⟨jb_5 (i := 230) rfl rfl, Or.inr (jb_5 (i := 231) rfl rfl)⟩, jb_1 (i := 11) rfl rfl⟩
set_option maxRecDepth 100000 in
theorem jm_P_6 : jm_P 6 := ⟨Or.inl ⟨rfl, jb_6 (i := 1) rfl rfl⟩, jb_neg (by decide) ⟨jb_6 (i := 0) rfl rfl, Or.inr (jb_0 (i := 46) rfl rfl)⟩, jb_1 (i := 11) rfl rfl⟩
set_option maxRecDepth 100000 in
theorem jm_P_7 : jm_P 7 := ⟨Or.inl ⟨rfl, jb_6 (i := 12) rfl rfl⟩, jb_neg (by decide) ⟨jb_6 (i := 10) rfl rfl, Or.inr (jb_6 (i := 11) rfl rfl)⟩, jb_1 (i := 11) rfl rfl⟩
set_option maxRecDepth 100000 in
theorem jm_P_8 : jm_P 8 := ⟨Or.inl ⟨rfl, jb_6 (i := 23) rfl rfl⟩, jb_neg (by decide) ⟨jb_6 (i := 21) rfl rfl, Or.inr (jb_6 (i := 22) rfl rfl)⟩, jb_1 (i := 11) rfl rfl⟩
set_option maxRecDepth 100000 in
theorem jm_P_9 : jm_P 9 := ⟨Or.inl ⟨rfl, jb_6 (i := 27) rfl rfl⟩, jb_neg (by decide) ⟨jb_6 (i := 26) rfl rfl, Or.inr (jb_0 (i := 47) rfl rfl)⟩, jb_1 (i := 11) rfl rfl⟩
set_option maxRecDepth 100000 in
theorem jm_P_10 : jm_P 10 := ⟨Or.inl ⟨rfl, jb_6 (i := 31) rfl rfl⟩, jb_neg (by decide) ⟨jb_6 (i := 29) rfl rfl, Or.inr (jb_6 (i := 30) rfl rfl)⟩, jb_1 (i := 11) rfl rfl⟩
set_option maxRecDepth 100000 in
theorem jm_P_11 : jm_P 11 := ⟨Or.inl ⟨rfl, jb_2 (i := 87) rfl rfl⟩, jb_neg (by decide) ⟨jb_2 (i := 86) rfl rfl, Or.inl rfl⟩, jb_1 (i := 9) rfl rfl⟩
set_option maxRecDepth 100000 in
theorem jm_P_12 : jm_P 12 := ⟨Or.inl ⟨rfl, jb_6 (i := 121) rfl rfl⟩, jb_neg (by decide) ⟨jb_6 (i := 119) rfl rfl, Or.inr (jb_6 (i := 120) rfl rfl)⟩, jb_1 (i := 9) rfl rfl⟩
set_option maxRecDepth 100000 in
theorem jm_P_13 : jm_P 13 := ⟨Or.inl ⟨rfl, jb_6 (i := 125) rfl rfl⟩, jb_neg (by decide) ⟨jb_6 (i := 124) rfl rfl, Or.inr (jb_0 (i := 50) rfl rfl)⟩, jb_1 (i := 9) rfl rfl⟩
set_option maxRecDepth 100000 in
theorem jm_P_14 : jm_P 14 := ⟨Or.inl ⟨rfl, jb_6 (i := 135) rfl rfl⟩, jb_neg (by decide) ⟨jb_6 (i := 134) rfl rfl, Or.inr (jb_0 (i := 51) rfl rfl)⟩, jb_1 (i := 9) rfl rfl⟩
set_option maxRecDepth 100000 in
theorem jm_P_15 : jm_P 15 := ⟨Or.inl ⟨rfl, jb_2 (i := 108) rfl rfl⟩, jb_neg (by decide) ⟨jb_2 (i := 107) rfl rfl, Or.inl rfl⟩, jb_1 (i := 10) rfl rfl⟩
set_option maxRecDepth 100000 in
theorem jm_P_16 : jm_P 16 := ⟨Or.inl ⟨rfl, jb_2 (i := 216) rfl rfl⟩, jb_neg (by decide) ⟨jb_2 (i := 214) rfl rfl, Or.inr (jb_2 (i := 215) rfl rfl)⟩, jb_1 (i := 10) rfl rfl⟩
set_option maxRecDepth 100000 in
theorem jm_P_17 : jm_P 17 := ⟨Or.inl ⟨rfl, jb_3 (i := 34) rfl rfl⟩, jb_neg (by decide) ⟨jb_3 (i := 32) rfl rfl, Or.inr (jb_3 (i := 33) rfl rfl)⟩, jb_1 (i := 10) rfl rfl⟩
set_option maxRecDepth 100000 in
theorem jm_P_18 : jm_P 18 := ⟨Or.inl ⟨rfl, jb_4 (i := 128) rfl rfl⟩, jb_neg (by decide) ⟨jb_4 (i := 126) rfl rfl, Or.inr (jb_4 (i := 127) rfl rfl)⟩, jb_1 (i := 10) rfl rfl⟩
set_option maxRecDepth 100000 in
theorem jm_P_19 : jm_P 19 := ⟨Or.inl ⟨rfl, jb_2 (i := 17) rfl rfl⟩, jb_neg (by decide) ⟨jb_2 (i := 16) rfl rfl, Or.inl rfl⟩, jb_1 (i := 7) rfl rfl⟩
set_option maxRecDepth 100000 in
theorem jm_P_20 : jm_P 20 := ⟨Or.inl ⟨rfl, jb_5 (i := 142) rfl rfl⟩, jb_neg (by decide) ⟨jb_5 (i := 140) rfl rfl, Or.inr (jb_5 (i := 141) rfl rfl)⟩, jb_1 (i := 7) rfl rfl⟩
set_option maxRecDepth 100000 in
theorem jm_P_21 : jm_P 21 := ⟨Or.inl ⟨rfl, jb_5 (i := 147) rfl rfl⟩, jb_neg (by decide) ⟨jb_5 (i := 146) rfl rfl, Or.inr (jb_0 (i := 37) rfl rfl)⟩, jb_1 (i := 7) rfl rfl⟩
set_option maxRecDepth 100000 in
theorem jm_P_22 : jm_P 22 := ⟨Or.inl ⟨rfl, jb_1 (i := 186) rfl rfl⟩, jb_neg (by decide) ⟨jb_1 (i := 185) rfl rfl, Or.inl rfl⟩, jb_1 (i := 5) rfl rfl⟩
set_option maxRecDepth 100000 in
theorem jm_P_23 : jm_P 23 := ⟨Or.inl ⟨rfl, jb_1 (i := 191) rfl rfl⟩, jb_neg (by decide) ⟨jb_1 (i := 189) rfl rfl, Or.inr (jb_1 (i := 190) rfl rfl)⟩, jb_1 (i := 5) rfl rfl⟩
set_option maxRecDepth 100000 in
theorem jm_P_24 : jm_P 24 := ⟨Or.inl ⟨rfl, jb_1 (i := 195) rfl rfl⟩, jb_neg (by decide) ⟨jb_1 (i := 194) rfl rfl, Or.inr (jb_0 (i := 0) rfl rfl)⟩, jb_1 (i := 5) rfl rfl⟩
set_option maxRecDepth 100000 in
theorem jm_P_25 : jm_P 25 := ⟨Or.inl ⟨rfl, jb_1 (i := 199) rfl rfl⟩, jb_neg (by decide) ⟨jb_1 (i := 198) rfl rfl, Or.inr (jb_0 (i := 1) rfl rfl)⟩, jb_1 (i := 5) rfl rfl⟩
set_option maxRecDepth 100000 in
theorem jm_P_26 : jm_P 26 := ⟨Or.inl ⟨rfl, jb_4 (i := 35) rfl rfl⟩, jb_neg (by decide) ⟨jb_4 (i := 33) rfl rfl, Or.inr (jb_4 (i := 34) rfl rfl)⟩, jb_1 (i := 5) rfl rfl⟩
set_option maxRecDepth 100000 in
theorem jm_P_27 : jm_P 27 := ⟨Or.inl ⟨rfl, jb_4 (i := 39) rfl rfl⟩, jb_neg (by decide) ⟨jb_4 (i := 38) rfl rfl, Or.inr (jb_0 (i := 13) rfl rfl)⟩, jb_1 (i := 5) rfl rfl⟩
set_option maxRecDepth 100000 in
theorem jm_P_28 : jm_P 28 := ⟨Or.inl ⟨rfl, jb_4 (i := 43) rfl rfl⟩, jb_neg (by decide) ⟨jb_4 (i := 42) rfl rfl, Or.inr (jb_0 (i := 14) rfl rfl)⟩, jb_1 (i := 5) rfl rfl⟩
set_option maxRecDepth 100000 in
theorem jm_P_29 : jm_P 29 := ⟨Or.inl ⟨rfl, jb_4 (i := 47) rfl rfl⟩, jb_neg (by decide) ⟨jb_4 (i := 46) rfl rfl, Or.inr (jb_0 (i := 15) rfl rfl)⟩, jb_1 (i := 5) rfl rfl⟩
set_option maxRecDepth 100000 in
theorem jm_P_30 : jm_P 30 := ⟨Or.inl ⟨rfl, jb_4 (i := 57) rfl rfl⟩, jb_neg (by decide) ⟨jb_4 (i := 56) rfl rfl, Or.inr (jb_0 (i := 16) rfl rfl)⟩, jb_1 (i := 5) rfl rfl⟩
set_option maxRecDepth 100000 in
theorem jm_P_31 : jm_P 31 := ⟨Or.inl ⟨rfl, jb_4 (i := 69) rfl rfl⟩, jb_neg (by decide) ⟨jb_4 (i := 68) rfl rfl, Or.inr (jb_0 (i := 17) rfl rfl)⟩, jb_1 (i := 5) rfl rfl⟩
set_option maxRecDepth 100000 in
theorem jm_P_32 : jm_P 32 := ⟨Or.inl ⟨rfl, jb_4 (i := 75) rfl rfl⟩, jb_neg (by decide) ⟨jb_4 (i := 74) rfl rfl, Or.inr (jb_0 (i := 18) rfl rfl)⟩, jb_1 (i := 5) rfl rfl⟩
set_option maxRecDepth 100000 in
theorem jm_P_33 : jm_P 33 := ⟨Or.inl ⟨rfl, jb_4 (i := 199) rfl rfl⟩, jb_neg (by decide) ⟨jb_4 (i := 197) rfl rfl, Or.inr (jb_4 (i := 198) rfl rfl)⟩, jb_1 (i := 5) rfl rfl⟩
set_option maxRecDepth 100000 in
theorem jm_P_34 : jm_P 34 := ⟨Or.inl ⟨rfl, jb_4 (i := 203) rfl rfl⟩, jb_neg (by decide) ⟨jb_4 (i := 202) rfl rfl, Or.inr (jb_0 (i := 29) rfl rfl)⟩, jb_1 (i := 5) rfl rfl⟩
set_option maxRecDepth 100000 in
theorem jm_P_35 : jm_P 35 := ⟨Or.inl ⟨rfl, jb_1 (i := 70) rfl rfl⟩, jb_neg (by decide) ⟨jb_1 (i := 69) rfl rfl, Or.inl rfl⟩, jb_1 (i := 3) rfl rfl⟩
set_option maxRecDepth 100000 in
theorem jm_P_36 : jm_P 36 := ⟨Or.inl ⟨rfl, jb_4 (i := 97) rfl rfl⟩, jb_neg (by decide) ⟨jb_4 (i := 95) rfl rfl, Or.inr (jb_4 (i := 96) rfl rfl)⟩, jb_1 (i := 3) rfl rfl⟩
set_option maxRecDepth 100000 in
theorem jm_P_37 : jm_P 37 := ⟨Or.inl ⟨rfl, jb_4 (i := 101) rfl rfl⟩, jb_neg (by decide) ⟨jb_4 (i := 100) rfl rfl, Or.inr (jb_0 (i := 19) rfl rfl)⟩, jb_1 (i := 3) rfl rfl⟩
set_option maxRecDepth 100000 in
theorem jm_P_38 : jm_P 38 := ⟨Or.inl ⟨rfl, jb_4 (i := 106) rfl rfl⟩, jb_neg (by decide) ⟨jb_4 (i := 105) rfl rfl, Or.inr (jb_0 (i := 20) rfl rfl)⟩, jb_1 (i := 3) rfl rfl⟩
set_option maxRecDepth 100000 in
theorem jm_P_39 : jm_P 39 := ⟨Or.inl ⟨rfl, jb_4 (i := 114) rfl rfl⟩, jb_neg (by decide) ⟨jb_4 (i := 113) rfl rfl, Or.inr (jb_0 (i := 21) rfl rfl)⟩, jb_1 (i := 3) rfl rfl⟩
set_option maxRecDepth 100000 in
theorem jm_P_40 : jm_P 40 := ⟨Or.inl ⟨rfl, jb_4 (i := 121) rfl rfl⟩, jb_neg (by decide) ⟨jb_4 (i := 120) rfl rfl, Or.inr (jb_0 (i := 22) rfl rfl)⟩, jb_1 (i := 3) rfl rfl⟩
set_option maxRecDepth 100000 in
theorem jm_P_41 : jm_P 41 := ⟨Or.inl ⟨rfl, jb_4 (i := 133) rfl rfl⟩, jb_neg (by decide) ⟨jb_4 (i := 131) rfl rfl, Or.inr (jb_4 (i := 132) rfl rfl)⟩, jb_1 (i := 3) rfl rfl⟩
set_option maxRecDepth 100000 in
theorem jm_P_42 : jm_P 42 := ⟨Or.inl ⟨rfl, jb_4 (i := 137) rfl rfl⟩, jb_neg (by decide) ⟨jb_4 (i := 136) rfl rfl, Or.inr (jb_0 (i := 23) rfl rfl)⟩, jb_1 (i := 3) rfl rfl⟩
set_option maxRecDepth 100000 in
theorem jm_P_43 : jm_P 43 := ⟨Or.inl ⟨rfl, jb_4 (i := 142) rfl rfl⟩, jb_neg (by decide) ⟨jb_4 (i := 141) rfl rfl, Or.inr (jb_0 (i := 24) rfl rfl)⟩, jb_1 (i := 3) rfl rfl⟩
set_option maxRecDepth 100000 in
theorem jm_P_44 : jm_P 44 := ⟨Or.inl ⟨rfl, jb_1 (i := 214) rfl rfl⟩, jb_neg (by decide) ⟨jb_1 (i := 213) rfl rfl, Or.inl rfl⟩, jb_1 (i := 6) rfl rfl⟩
set_option maxRecDepth 100000 in
theorem jm_P_45 : jm_P 45 := ⟨Or.inl ⟨rfl, jb_2 (i := 220) rfl rfl⟩, jb_neg (by decide) ⟨jb_2 (i := 218) rfl rfl, Or.inr (jb_2 (i := 219) rfl rfl)⟩, jb_1 (i := 6) rfl rfl⟩
set_option maxRecDepth 100000 in
theorem jm_P_46 : jm_P 46 := ⟨Or.inl ⟨rfl, jb_3 (i := 1) rfl rfl⟩, jb_neg (by decide) ⟨jb_2 (i := 239) rfl rfl, Or.inr (jb_3 (i := 0) rfl rfl)⟩, jb_1 (i := 6) rfl rfl⟩
set_option maxRecDepth 100000 in
theorem jm_P_47 : jm_P 47 := ⟨Or.inl ⟨rfl, jb_3 (i := 5) rfl rfl⟩, jb_neg (by decide) ⟨jb_3 (i := 3) rfl rfl, Or.inr (jb_3 (i := 4) rfl rfl)⟩, jb_1 (i := 6) rfl rfl⟩
set_option maxRecDepth 100000 in
theorem jm_P_48 : jm_P 48 := ⟨Or.inl ⟨rfl, jb_3 (i := 19) rfl rfl⟩, jb_neg (by decide) ⟨jb_3 (i := 17) rfl rfl, Or.inr (jb_3 (i := 18) rfl rfl)⟩, jb_1 (i := 6) rfl rfl⟩
set_option maxRecDepth 100000 in
theorem jm_P_49 : jm_P 49 := ⟨Or.inl ⟨rfl, jb_3 (i := 30) rfl rfl⟩, jb_neg (by decide) ⟨jb_3 (i := 28) rfl rfl, Or.inr (jb_3 (i := 29) rfl rfl)⟩, jb_1 (i := 6) rfl rfl⟩
set_option maxRecDepth 100000 in
theorem jm_P_50 : jm_P 50 := ⟨Or.inl ⟨rfl, jb_4 (i := 24) rfl rfl⟩, jb_neg (by decide) ⟨jb_4 (i := 22) rfl rfl, Or.inr (jb_4 (i := 23) rfl rfl)⟩, jb_1 (i := 6) rfl rfl⟩
set_option maxRecDepth 100000 in
theorem jm_P_51 : jm_P 51 := ⟨Or.inl ⟨rfl, jb_4 (i := 146) rfl rfl⟩, jb_neg (by decide) ⟨jb_4 (i := 144) rfl rfl, Or.inr (jb_4 (i := 145) rfl rfl)⟩, jb_1 (i := 6) rfl rfl⟩
set_option maxRecDepth 100000 in
theorem jm_P_52 : jm_P 52 := ⟨Or.inl ⟨rfl, jb_4 (i := 150) rfl rfl⟩, jb_neg (by decide) ⟨jb_4 (i := 148) rfl rfl, Or.inr (jb_4 (i := 149) rfl rfl)⟩, jb_1 (i := 6) rfl rfl⟩
set_option maxRecDepth 100000 in
theorem jm_P_53 : jm_P 53 := ⟨Or.inl ⟨rfl, jb_4 (i := 154) rfl rfl⟩, jb_neg (by decide) ⟨jb_4 (i := 152) rfl rfl, Or.inr (jb_4 (i := 153) rfl rfl)⟩, jb_1 (i := 6) rfl rfl⟩
set_option maxRecDepth 100000 in
theorem jm_P_54 : jm_P 54 := ⟨Or.inl ⟨rfl, jb_4 (i := 158) rfl rfl⟩, jb_neg (by decide) ⟨jb_4 (i := 156) rfl rfl, Or.inr (jb_4 (i := 157) rfl rfl)⟩, jb_1 (i := 6) rfl rfl⟩
set_option maxRecDepth 100000 in
theorem jm_P_55 : jm_P 55 := ⟨Or.inl ⟨rfl, jb_4 (i := 162) rfl rfl⟩, jb_neg (by decide) ⟨jb_4 (i := 160) rfl rfl, Or.inr (jb_4 (i := 161) rfl rfl)⟩, jb_1 (i := 6) rfl rfl⟩
set_option maxRecDepth 100000 in
theorem jm_P_56 : jm_P 56 := ⟨Or.inl ⟨rfl, jb_4 (i := 167) rfl rfl⟩, jb_neg (by decide) ⟨jb_4 (i := 165) rfl rfl, Or.inr (jb_4 (i := 166) rfl rfl)⟩, jb_1 (i := 6) rfl rfl⟩
set_option maxRecDepth 100000 in
theorem jm_P_57 : jm_P 57 := ⟨Or.inl ⟨rfl, jb_4 (i := 171) rfl rfl⟩, jb_neg (by decide) ⟨jb_4 (i := 170) rfl rfl, Or.inr (jb_0 (i := 25) rfl rfl)⟩, jb_1 (i := 6) rfl rfl⟩
set_option maxRecDepth 100000 in
theorem jm_P_58 : jm_P 58 := ⟨Or.inl ⟨rfl, jb_4 (i := 183) rfl rfl⟩, jb_neg (by decide) ⟨jb_4 (i := 182) rfl rfl, Or.inr (jb_0 (i := 26) rfl rfl)⟩, jb_1 (i := 6) rfl rfl⟩
set_option maxRecDepth 100000 in
theorem jm_P_59 : jm_P 59 := ⟨Or.inl ⟨rfl, jb_4 (i := 187) rfl rfl⟩, jb_neg (by decide) ⟨jb_4 (i := 185) rfl rfl, Or.inr (jb_4 (i := 186) rfl rfl)⟩, jb_1 (i := 6) rfl rfl⟩
set_option maxRecDepth 100000 in
theorem jm_P_60 : jm_P 60 := ⟨Or.inl ⟨rfl, jb_4 (i := 191) rfl rfl⟩, jb_neg (by decide) ⟨jb_4 (i := 190) rfl rfl, Or.inr (jb_0 (i := 27) rfl rfl)⟩, jb_1 (i := 6) rfl rfl⟩
set_option maxRecDepth 100000 in
theorem jm_P_61 : jm_P 61 := ⟨Or.inl ⟨rfl, jb_4 (i := 195) rfl rfl⟩, jb_neg (by decide) ⟨jb_4 (i := 194) rfl rfl, Or.inr (jb_0 (i := 28) rfl rfl)⟩, jb_1 (i := 6) rfl rfl⟩
set_option maxRecDepth 100000 in
theorem jm_P_62 : jm_P 62 := ⟨Or.inl ⟨rfl, jb_4 (i := 207) rfl rfl⟩, jb_neg (by decide) ⟨jb_4 (i := 206) rfl rfl, Or.inr (jb_0 (i := 30) rfl rfl)⟩, jb_1 (i := 6) rfl rfl⟩
set_option maxRecDepth 100000 in
theorem jm_P_63 : jm_P 63 := ⟨Or.inl ⟨rfl, jb_4 (i := 211) rfl rfl⟩, jb_neg (by decide) ⟨jb_4 (i := 209) rfl rfl, Or.inr (jb_4 (i := 210) rfl rfl)⟩, jb_1 (i := 6) rfl rfl⟩
set_option maxRecDepth 100000 in
theorem jm_P_64 : jm_P 64 := ⟨Or.inl ⟨rfl, jb_4 (i := 216) rfl rfl⟩, jb_neg (by decide) ⟨jb_4 (i := 215) rfl rfl, Or.inr (jb_0 (i := 31) rfl rfl)⟩, jb_1 (i := 6) rfl rfl⟩
set_option maxRecDepth 100000 in
theorem jm_P_65 : jm_P 65 := ⟨Or.inl ⟨rfl, jb_5 (i := 12) rfl rfl⟩, jb_neg (by decide) ⟨jb_5 (i := 10) rfl rfl, Or.inr (jb_5 (i := 11) rfl rfl)⟩, jb_1 (i := 6) rfl rfl⟩
set_option maxRecDepth 100000 in
theorem jm_P_66 : jm_P 66 := ⟨Or.inl ⟨rfl, jb_5 (i := 16) rfl rfl⟩, jb_neg (by decide) ⟨jb_5 (i := 14) rfl rfl, Or.inr (jb_5 (i := 15) rfl rfl)⟩, jb_1 (i := 6) rfl rfl⟩
set_option maxRecDepth 100000 in
theorem jm_P_67 : jm_P 67 := ⟨Or.inl ⟨rfl, jb_5 (i := 20) rfl rfl⟩, jb_neg (by decide) ⟨jb_5 (i := 18) rfl rfl, Or.inr (jb_5 (i := 19) rfl rfl)⟩, jb_1 (i := 6) rfl rfl⟩
set_option maxRecDepth 100000 in
theorem jm_P_68 : jm_P 68 := ⟨Or.inl ⟨rfl, jb_5 (i := 24) rfl rfl⟩, jb_neg (by decide) ⟨jb_5 (i := 22) rfl rfl, Or.inr (jb_5 (i := 23) rfl rfl)⟩, jb_1 (i := 6) rfl rfl⟩
set_option maxRecDepth 100000 in
theorem jm_P_69 : jm_P 69 := ⟨Or.inl ⟨rfl, jb_5 (i := 60) rfl rfl⟩, jb_neg (by decide) ⟨jb_5 (i := 58) rfl rfl, Or.inr (jb_5 (i := 59) rfl rfl)⟩, jb_1 (i := 6) rfl rfl⟩
set_option maxRecDepth 100000 in
theorem jm_P_70 : jm_P 70 := ⟨Or.inl ⟨rfl, jb_5 (i := 64) rfl rfl⟩, jb_neg (by decide) ⟨jb_5 (i := 62) rfl rfl, Or.inr (jb_5 (i := 63) rfl rfl)⟩, jb_1 (i := 6) rfl rfl⟩
set_option maxRecDepth 100000 in
theorem jm_P_71 : jm_P 71 := ⟨Or.inl ⟨rfl, jb_5 (i := 69) rfl rfl⟩, jb_neg (by decide) ⟨jb_5 (i := 67) rfl rfl, Or.inr (jb_5 (i := 68) rfl rfl)⟩, jb_1 (i := 6) rfl rfl⟩
set_option maxRecDepth 100000 in
theorem jm_P_72 : jm_P 72 := ⟨Or.inl ⟨rfl, jb_5 (i := 85) rfl rfl⟩, jb_neg (by decide) ⟨jb_5 (i := 83) rfl rfl, Or.inr (jb_5 (i := 84) rfl rfl)⟩, jb_1 (i := 6) rfl rfl⟩
set_option maxRecDepth 100000 in
theorem jm_P_73 : jm_P 73 := ⟨Or.inl ⟨rfl, jb_5 (i := 112) rfl rfl⟩, jb_neg (by decide) ⟨jb_5 (i := 110) rfl rfl, Or.inr (jb_5 (i := 111) rfl rfl)⟩, jb_1 (i := 6) rfl rfl⟩
set_option maxRecDepth 100000 in
theorem jm_P_74 : jm_P 74 := ⟨Or.inl ⟨rfl, jb_5 (i := 217) rfl rfl⟩, jb_neg (by decide) ⟨jb_5 (i := 215) rfl rfl, Or.inr (jb_5 (i := 216) rfl rfl)⟩, jb_1 (i := 6) rfl rfl⟩
set_option maxRecDepth 100000 in
theorem jm_P_75 : jm_P 75 := ⟨Or.inl ⟨rfl, jb_5 (i := 221) rfl rfl⟩, jb_neg (by decide) ⟨jb_5 (i := 220) rfl rfl, Or.inr (jb_0 (i := 45) rfl rfl)⟩, jb_1 (i := 6) rfl rfl⟩
set_option maxRecDepth 100000 in
theorem jm_P_76 : jm_P 76 := ⟨Or.inl ⟨rfl, jb_6 (i := 44) rfl rfl⟩, jb_neg (by decide) ⟨jb_6 (i := 42) rfl rfl, Or.inr (jb_6 (i := 43) rfl rfl)⟩, jb_1 (i := 6) rfl rfl⟩
set_option maxRecDepth 100000 in
theorem jm_P_77 : jm_P 77 := ⟨Or.inl ⟨rfl, jb_6 (i := 80) rfl rfl⟩, jb_neg (by decide) ⟨jb_6 (i := 78) rfl rfl, Or.inr (jb_6 (i := 79) rfl rfl)⟩, jb_1 (i := 6) rfl rfl⟩
set_option maxRecDepth 100000 in
theorem jm_P_78 : jm_P 78 := ⟨Or.inl ⟨rfl, jb_6 (i := 110) rfl rfl⟩, jb_neg (by decide) ⟨jb_6 (i := 108) rfl rfl, Or.inr (jb_6 (i := 109) rfl rfl)⟩, jb_1 (i := 6) rfl rfl⟩
set_option maxRecDepth 100000 in
theorem jm_P_79 : jm_P 79 := ⟨Or.inl ⟨rfl, jb_6 (i := 130) rfl rfl⟩, jb_neg (by decide) ⟨jb_6 (i := 128) rfl rfl, Or.inr (jb_6 (i := 129) rfl rfl)⟩, jb_1 (i := 6) rfl rfl⟩
set_option maxRecDepth 100000 in
theorem jm_P_80 : jm_P 80 := ⟨Or.inl ⟨rfl, jb_6 (i := 140) rfl rfl⟩, jb_neg (by decide) ⟨jb_6 (i := 138) rfl rfl, Or.inr (jb_6 (i := 139) rfl rfl)⟩, jb_1 (i := 6) rfl rfl⟩
set_option maxRecDepth 100000 in
theorem jm_P_81 : jm_P 81 := ⟨Or.inl ⟨rfl, jb_1 (i := 37) rfl rfl⟩, jb_neg (by decide) ⟨jb_1 (i := 36) rfl rfl, Or.inl rfl⟩, jb_1 (i := 2) rfl rfl⟩
set_option maxRecDepth 100000 in
theorem jm_P_82 : jm_P 82 := ⟨Or.inl ⟨rfl, jb_2 (i := 204) rfl rfl⟩, jb_neg (by decide) ⟨jb_2 (i := 202) rfl rfl, Or.inr (jb_2 (i := 203) rfl rfl)⟩, jb_1 (i := 2) rfl rfl⟩
set_option maxRecDepth 100000 in
theorem jm_P_83 : jm_P 83 := ⟨Or.inl ⟨rfl, jb_3 (i := 134) rfl rfl⟩, jb_neg (by decide) ⟨jb_3 (i := 132) rfl rfl, Or.inr (jb_3 (i := 133) rfl rfl)⟩, jb_1 (i := 2) rfl rfl⟩
set_option maxRecDepth 100000 in
theorem jm_P_84 : jm_P 84 := ⟨Or.inl ⟨rfl, jb_3 (i := 145) rfl rfl⟩, jb_neg (by decide) ⟨jb_3 (i := 143) rfl rfl, Or.inr (jb_3 (i := 144) rfl rfl)⟩, jb_1 (i := 2) rfl rfl⟩
set_option maxRecDepth 100000 in
theorem jm_P_85 : jm_P 85 := ⟨Or.inl ⟨rfl, jb_3 (i := 153) rfl rfl⟩, jb_neg (by decide) ⟨jb_3 (i := 151) rfl rfl, Or.inr (jb_3 (i := 152) rfl rfl)⟩, jb_1 (i := 2) rfl rfl⟩
set_option maxRecDepth 100000 in
theorem jm_P_86 : jm_P 86 := ⟨Or.inl ⟨rfl, jb_3 (i := 159) rfl rfl⟩, jb_neg (by decide) ⟨jb_3 (i := 157) rfl rfl, Or.inr (jb_3 (i := 158) rfl rfl)⟩, jb_1 (i := 2) rfl rfl⟩
set_option maxRecDepth 100000 in
theorem jm_P_87 : jm_P 87 := ⟨Or.inl ⟨rfl, jb_3 (i := 215) rfl rfl⟩, jb_neg (by decide) ⟨jb_3 (i := 213) rfl rfl, Or.inr (jb_3 (i := 214) rfl rfl)⟩, jb_1 (i := 2) rfl rfl⟩
set_option maxRecDepth 100000 in
theorem jm_P_88 : jm_P 88 := ⟨Or.inl ⟨rfl, jb_3 (i := 219) rfl rfl⟩, jb_neg (by decide) ⟨jb_3 (i := 218) rfl rfl, Or.inr (jb_0 (i := 7) rfl rfl)⟩, jb_1 (i := 2) rfl rfl⟩
set_option maxRecDepth 100000 in
theorem jm_P_89 : jm_P 89 := ⟨Or.inl ⟨rfl, jb_3 (i := 223) rfl rfl⟩, jb_neg (by decide) ⟨jb_3 (i := 221) rfl rfl, Or.inr (jb_3 (i := 222) rfl rfl)⟩, jb_1 (i := 2) rfl rfl⟩
set_option maxRecDepth 100000 in
theorem jm_P_90 : jm_P 90 := ⟨Or.inl ⟨rfl, jb_4 (i := 14) rfl rfl⟩, jb_neg (by decide) ⟨jb_4 (i := 12) rfl rfl, Or.inr (jb_4 (i := 13) rfl rfl)⟩, jb_1 (i := 2) rfl rfl⟩
set_option maxRecDepth 100000 in
theorem jm_P_91 : jm_P 91 := ⟨Or.inl ⟨rfl, jb_4 (i := 18) rfl rfl⟩, jb_neg (by decide) ⟨jb_4 (i := 16) rfl rfl, Or.inr (jb_4 (i := 17) rfl rfl)⟩, jb_1 (i := 2) rfl rfl⟩
set_option maxRecDepth 100000 in
theorem jm_P_92 : jm_P 92 := ⟨Or.inl ⟨rfl, jb_4 (i := 51) rfl rfl⟩, jb_neg (by decide) ⟨jb_4 (i := 49) rfl rfl, Or.inr (jb_4 (i := 50) rfl rfl)⟩, jb_1 (i := 2) rfl rfl⟩
set_option maxRecDepth 100000 in
theorem jm_P_93 : jm_P 93 := ⟨Or.inl ⟨rfl, jb_4 (i := 61) rfl rfl⟩, jb_neg (by decide) ⟨jb_4 (i := 59) rfl rfl, Or.inr (jb_4 (i := 60) rfl rfl)⟩, jb_1 (i := 2) rfl rfl⟩
set_option maxRecDepth 100000 in
theorem jm_P_94 : jm_P 94 := ⟨Or.inl ⟨rfl, jb_4 (i := 86) rfl rfl⟩, jb_neg (by decide) ⟨jb_4 (i := 84) rfl rfl, Or.inr (jb_4 (i := 85) rfl rfl)⟩, jb_1 (i := 2) rfl rfl⟩
set_option maxRecDepth 100000 in
theorem jm_P_95 : jm_P 95 := ⟨Or.inl ⟨rfl, jb_1 (i := 95) rfl rfl⟩, jb_neg (by decide) ⟨jb_1 (i := 94) rfl rfl, Or.inl rfl⟩, jb_1 (i := 4) rfl rfl⟩
set_option maxRecDepth 100000 in
theorem jm_P_96 : jm_P 96 := ⟨Or.inl ⟨rfl, jb_3 (i := 9) rfl rfl⟩, jb_neg (by decide) ⟨jb_3 (i := 7) rfl rfl, Or.inr (jb_3 (i := 8) rfl rfl)⟩, jb_1 (i := 4) rfl rfl⟩
set_option maxRecDepth 100000 in
theorem jm_P_97 : jm_P 97 := ⟨Or.inl ⟨rfl, jb_3 (i := 141) rfl rfl⟩, jb_neg (by decide) ⟨jb_3 (i := 139) rfl rfl, Or.inr (jb_3 (i := 140) rfl rfl)⟩, jb_1 (i := 4) rfl rfl⟩
set_option maxRecDepth 100000 in
theorem jm_P_98 : jm_P 98 := ⟨Or.inl ⟨rfl, jb_3 (i := 149) rfl rfl⟩, jb_neg (by decide) ⟨jb_3 (i := 148) rfl rfl, Or.inr (jb_0 (i := 5) rfl rfl)⟩, jb_1 (i := 4) rfl rfl⟩
set_option maxRecDepth 100000 in
theorem jm_P_99 : jm_P 99 := ⟨Or.inl ⟨rfl, jb_3 (i := 211) rfl rfl⟩, jb_neg (by decide) ⟨jb_3 (i := 210) rfl rfl, Or.inr (jb_0 (i := 6) rfl rfl)⟩, jb_1 (i := 4) rfl rfl⟩
set_option maxRecDepth 100000 in
theorem jm_P_100 : jm_P 100 := ⟨Or.inl ⟨rfl, jb_3 (i := 230) rfl rfl⟩, jb_neg (by decide) ⟨jb_3 (i := 229) rfl rfl, Or.inr (jb_0 (i := 8) rfl rfl)⟩, jb_1 (i := 4) rfl rfl⟩
set_option maxRecDepth 100000 in
theorem jm_P_101 : jm_P 101 := ⟨Or.inl ⟨rfl, jb_3 (i := 235) rfl rfl⟩, jb_neg (by decide) ⟨jb_3 (i := 234) rfl rfl, Or.inr (jb_0 (i := 9) rfl rfl)⟩, jb_1 (i := 4) rfl rfl⟩
set_option maxRecDepth 100000 in
theorem jm_P_102 : jm_P 102 := ⟨Or.inl ⟨rfl, jb_4 (i := 0) rfl rfl⟩, jb_neg (by decide) ⟨jb_3 (i := 239) rfl rfl, Or.inr (jb_0 (i := 10) rfl rfl)⟩, jb_1 (i := 4) rfl rfl⟩
set_option maxRecDepth 100000 in
theorem jm_P_103 : jm_P 103 := ⟨Or.inl ⟨rfl, jb_4 (i := 5) rfl rfl⟩, jb_neg (by decide) ⟨jb_4 (i := 4) rfl rfl, Or.inr (jb_0 (i := 11) rfl rfl)⟩, jb_1 (i := 4) rfl rfl⟩
set_option maxRecDepth 100000 in
theorem jm_P_104 : jm_P 104 := ⟨Or.inl ⟨rfl, jb_4 (i := 10) rfl rfl⟩, jb_neg (by decide) ⟨jb_4 (i := 9) rfl rfl, Or.inr (jb_0 (i := 12) rfl rfl)⟩, jb_1 (i := 4) rfl rfl⟩
set_option maxRecDepth 100000 in
theorem jm_P_105 : jm_P 105 := ⟨Or.inl ⟨rfl, jb_4 (i := 175) rfl rfl⟩, jb_neg (by decide) ⟨jb_4 (i := 173) rfl rfl, Or.inr (jb_4 (i := 174) rfl rfl)⟩, jb_1 (i := 4) rfl rfl⟩
set_option maxRecDepth 100000 in
theorem jm_P_106 : jm_P 106 := ⟨Or.inl ⟨rfl, jb_4 (i := 179) rfl rfl⟩, jb_neg (by decide) ⟨jb_4 (i := 177) rfl rfl, Or.inr (jb_4 (i := 178) rfl rfl)⟩, jb_1 (i := 4) rfl rfl⟩
set_option maxRecDepth 100000 in
theorem jm_P_107 : jm_P 107 := ⟨Or.inl ⟨rfl, jb_5 (i := 237) rfl rfl⟩, jb_neg (by decide) ⟨jb_5 (i := 235) rfl rfl, Or.inr (jb_5 (i := 236) rfl rfl)⟩, jb_1 (i := 4) rfl rfl⟩
set_option maxRecDepth 100000 in
theorem jm_P_108 : jm_P 108 := ⟨Or.inl ⟨rfl, jb_2 (i := 52) rfl rfl⟩, jb_neg (by decide) ⟨jb_2 (i := 51) rfl rfl, Or.inl rfl⟩, jb_1 (i := 8) rfl rfl⟩
set_option maxRecDepth 100000 in
theorem jm_P_109 : jm_P 109 := ⟨Or.inl ⟨rfl, jb_5 (i := 178) rfl rfl⟩, jb_neg (by decide) ⟨jb_5 (i := 176) rfl rfl, Or.inr (jb_5 (i := 177) rfl rfl)⟩, jb_1 (i := 8) rfl rfl⟩
set_option maxRecDepth 100000 in
theorem jm_P_110 : jm_P 110 := ⟨Or.inl ⟨rfl, jb_5 (i := 183) rfl rfl⟩, jb_neg (by decide) ⟨jb_5 (i := 182) rfl rfl, Or.inr (jb_0 (i := 39) rfl rfl)⟩, jb_1 (i := 8) rfl rfl⟩
set_option maxRecDepth 100000 in
theorem jm_P_111 : jm_P 111 := ⟨Or.inl ⟨rfl, jb_5 (i := 189) rfl rfl⟩, jb_neg (by decide) ⟨jb_5 (i := 188) rfl rfl, Or.inr (jb_0 (i := 40) rfl rfl)⟩, jb_1 (i := 8) rfl rfl⟩
set_option maxRecDepth 100000 in
theorem jm_P_112 : jm_P 112 := ⟨Or.inl ⟨rfl, jb_5 (i := 193) rfl rfl⟩, jb_neg (by decide) ⟨jb_5 (i := 192) rfl rfl, Or.inr (jb_0 (i := 41) rfl rfl)⟩, jb_1 (i := 8) rfl rfl⟩
set_option maxRecDepth 100000 in
theorem jm_P_113 : jm_P 113 := ⟨Or.inl ⟨rfl, jb_5 (i := 198) rfl rfl⟩, jb_neg (by decide) ⟨jb_5 (i := 197) rfl rfl, Or.inr (jb_0 (i := 42) rfl rfl)⟩, jb_1 (i := 8) rfl rfl⟩
set_option maxRecDepth 100000 in
theorem jm_P_114 : jm_P 114 := ⟨Or.inl ⟨rfl, jb_5 (i := 202) rfl rfl⟩, jb_neg (by decide) ⟨jb_5 (i := 201) rfl rfl, Or.inr (jb_0 (i := 43) rfl rfl)⟩, jb_1 (i := 8) rfl rfl⟩
set_option maxRecDepth 100000 in
theorem jm_P_115 : jm_P 115 := ⟨Or.inl ⟨rfl, jb_1 (i := 29) rfl rfl⟩, jb_neg (by decide) ⟨jb_1 (i := 28) rfl rfl, Or.inl rfl⟩, jb_1 (i := 1) rfl rfl⟩
set_option maxRecDepth 100000 in
theorem jm_P_116 : jm_P 116 := ⟨Or.inl ⟨rfl, jb_2 (i := 200) rfl rfl⟩, jb_neg (by decide) ⟨jb_2 (i := 198) rfl rfl, Or.inr (jb_2 (i := 199) rfl rfl)⟩, jb_1 (i := 1) rfl rfl⟩
set_option maxRecDepth 100000 in
theorem jm_P_117 : jm_P 117 := ⟨Or.inl ⟨rfl, jb_2 (i := 208) rfl rfl⟩, jb_neg (by decide) ⟨jb_2 (i := 206) rfl rfl, Or.inr (jb_2 (i := 207) rfl rfl)⟩, jb_1 (i := 1) rfl rfl⟩
set_option maxRecDepth 100000 in
theorem jm_P_118 : jm_P 118 := ⟨Or.inl ⟨rfl, jb_2 (i := 212) rfl rfl⟩, jb_neg (by decide) ⟨jb_2 (i := 210) rfl rfl, Or.inr (jb_2 (i := 211) rfl rfl)⟩, jb_1 (i := 1) rfl rfl⟩
set_option maxRecDepth 100000 in
theorem jm_P_119 : jm_P 119 := ⟨Or.inl ⟨rfl, jb_2 (i := 227) rfl rfl⟩, jb_neg (by decide) ⟨jb_2 (i := 225) rfl rfl, Or.inr (jb_2 (i := 226) rfl rfl)⟩, jb_1 (i := 1) rfl rfl⟩
set_option maxRecDepth 100000 in
theorem jm_P_120 : jm_P 120 := ⟨Or.inl ⟨rfl, jb_2 (i := 237) rfl rfl⟩, jb_neg (by decide) ⟨jb_2 (i := 235) rfl rfl, Or.inr (jb_2 (i := 236) rfl rfl)⟩, jb_1 (i := 1) rfl rfl⟩
set_option maxRecDepth 100000 in
theorem jm_P_121 : jm_P 121 := ⟨Or.inl ⟨rfl, jb_3 (i := 14) rfl rfl⟩, jb_neg (by decide) ⟨jb_3 (i := 12) rfl rfl, Or.inr (jb_3 (i := 13) rfl rfl)⟩, jb_1 (i := 1) rfl rfl⟩
set_option maxRecDepth 100000 in
theorem jm_P_122 : jm_P 122 := ⟨Or.inl ⟨rfl, jb_3 (i := 26) rfl rfl⟩, jb_neg (by decide) ⟨jb_3 (i := 24) rfl rfl, Or.inr (jb_3 (i := 25) rfl rfl)⟩, jb_1 (i := 1) rfl rfl⟩
set_option maxRecDepth 100000 in
theorem jm_P_123 : jm_P 123 := ⟨Or.inl ⟨rfl, jb_3 (i := 39) rfl rfl⟩, jb_neg (by decide) ⟨jb_3 (i := 37) rfl rfl, Or.inr (jb_3 (i := 38) rfl rfl)⟩, jb_1 (i := 1) rfl rfl⟩
set_option maxRecDepth 100000 in
theorem jm_P_124 : jm_P 124 := ⟨Or.inl ⟨rfl, jb_3 (i := 44) rfl rfl⟩, jb_neg (by decide) ⟨jb_3 (i := 42) rfl rfl, Or.inr (jb_3 (i := 43) rfl rfl)⟩, jb_1 (i := 1) rfl rfl⟩
set_option maxRecDepth 100000 in
theorem jm_P_125 : jm_P 125 := ⟨Or.inl ⟨rfl, jb_3 (i := 48) rfl rfl⟩, jb_neg (by decide) ⟨jb_3 (i := 46) rfl rfl, Or.inr (jb_3 (i := 47) rfl rfl)⟩, jb_1 (i := 1) rfl rfl⟩
set_option maxRecDepth 100000 in
theorem jm_P_126 : jm_P 126 := ⟨Or.inl ⟨rfl, jb_3 (i := 56) rfl rfl⟩, jb_neg (by decide) ⟨jb_3 (i := 54) rfl rfl, Or.inr (jb_3 (i := 55) rfl rfl)⟩, jb_1 (i := 1) rfl rfl⟩
set_option maxRecDepth 100000 in
theorem jm_P_127 : jm_P 127 := ⟨Or.inl ⟨rfl, jb_3 (i := 60) rfl rfl⟩, jb_neg (by decide) ⟨jb_3 (i := 59) rfl rfl, Or.inr (jb_0 (i := 2) rfl rfl)⟩, jb_1 (i := 1) rfl rfl⟩
set_option maxRecDepth 100000 in
theorem jm_P_128 : jm_P 128 := ⟨Or.inl ⟨rfl, jb_3 (i := 64) rfl rfl⟩, jb_neg (by decide) ⟨jb_3 (i := 63) rfl rfl, Or.inr (jb_0 (i := 3) rfl rfl)⟩, jb_1 (i := 1) rfl rfl⟩
set_option maxRecDepth 100000 in
theorem jm_P_129 : jm_P 129 := ⟨Or.inl ⟨rfl, jb_4 (i := 31) rfl rfl⟩, jb_neg (by decide) ⟨jb_4 (i := 29) rfl rfl, Or.inr (jb_4 (i := 30) rfl rfl)⟩, jb_1 (i := 1) rfl rfl⟩
set_option maxRecDepth 100000 in
theorem jm_P_130 : jm_P 130 := ⟨Or.inl ⟨rfl, jb_4 (i := 93) rfl rfl⟩, jb_neg (by decide) ⟨jb_4 (i := 91) rfl rfl, Or.inr (jb_4 (i := 92) rfl rfl)⟩, jb_1 (i := 1) rfl rfl⟩
set_option maxRecDepth 100000 in
theorem jm_P_131 : jm_P 131 := ⟨Or.inl ⟨rfl, jb_4 (i := 224) rfl rfl⟩, jb_neg (by decide) ⟨jb_4 (i := 222) rfl rfl, Or.inr (jb_4 (i := 223) rfl rfl)⟩, jb_1 (i := 1) rfl rfl⟩
set_option maxRecDepth 100000 in
theorem jm_P_132 : jm_P 132 := ⟨Or.inl ⟨rfl, jb_5 (i := 7) rfl rfl⟩, jb_neg (by decide) ⟨jb_5 (i := 5) rfl rfl, Or.inr (jb_5 (i := 6) rfl rfl)⟩, jb_1 (i := 1) rfl rfl⟩
set_option maxRecDepth 100000 in
theorem jm_P_133 : jm_P 133 := ⟨Or.inl ⟨rfl, jb_5 (i := 32) rfl rfl⟩, jb_neg (by decide) ⟨jb_5 (i := 30) rfl rfl, Or.inr (jb_5 (i := 31) rfl rfl)⟩, jb_1 (i := 1) rfl rfl⟩
set_option maxRecDepth 100000 in
theorem jm_P_134 : jm_P 134 := ⟨Or.inl ⟨rfl, jb_5 (i := 36) rfl rfl⟩, jb_neg (by decide) ⟨jb_5 (i := 35) rfl rfl, Or.inr (jb_0 (i := 33) rfl rfl)⟩, jb_1 (i := 1) rfl rfl⟩
set_option maxRecDepth 100000 in
theorem jm_P_135 : jm_P 135 := ⟨Or.inl ⟨rfl, jb_5 (i := 40) rfl rfl⟩, jb_neg (by decide) ⟨jb_5 (i := 39) rfl rfl, Or.inr (jb_0 (i := 34) rfl rfl)⟩, jb_1 (i := 1) rfl rfl⟩
set_option maxRecDepth 100000 in
theorem jm_P_136 : jm_P 136 := ⟨Or.inl ⟨rfl, jb_5 (i := 76) rfl rfl⟩, jb_neg (by decide) ⟨jb_5 (i := 74) rfl rfl, Or.inr (jb_5 (i := 75) rfl rfl)⟩, jb_1 (i := 1) rfl rfl⟩
set_option maxRecDepth 100000 in
theorem jm_P_137 : jm_P 137 := ⟨Or.inl ⟨rfl, jb_5 (i := 80) rfl rfl⟩, jb_neg (by decide) ⟨jb_5 (i := 79) rfl rfl, Or.inr (jb_0 (i := 35) rfl rfl)⟩, jb_1 (i := 1) rfl rfl⟩
set_option maxRecDepth 100000 in
theorem jm_P_138 : jm_P 138 := ⟨Or.inl ⟨rfl, jb_5 (i := 92) rfl rfl⟩, jb_neg (by decide) ⟨jb_5 (i := 90) rfl rfl, Or.inr (jb_5 (i := 91) rfl rfl)⟩, jb_1 (i := 1) rfl rfl⟩
set_option maxRecDepth 100000 in
theorem jm_P_139 : jm_P 139 := ⟨Or.inl ⟨rfl, jb_5 (i := 100) rfl rfl⟩, jb_neg (by decide) ⟨jb_5 (i := 98) rfl rfl, Or.inr (jb_5 (i := 99) rfl rfl)⟩, jb_1 (i := 1) rfl rfl⟩
set_option maxRecDepth 100000 in
theorem jm_P_140 : jm_P 140 := ⟨Or.inl ⟨rfl, jb_5 (i := 108) rfl rfl⟩, jb_neg (by decide) ⟨jb_5 (i := 106) rfl rfl, Or.inr (jb_5 (i := 107) rfl rfl)⟩, jb_1 (i := 1) rfl rfl⟩
set_option maxRecDepth 100000 in
theorem jm_P_141 : jm_P 141 := ⟨Or.inl ⟨rfl, jb_5 (i := 119) rfl rfl⟩, jb_neg (by decide) ⟨jb_5 (i := 117) rfl rfl, Or.inr (jb_5 (i := 118) rfl rfl)⟩, jb_1 (i := 1) rfl rfl⟩
set_option maxRecDepth 100000 in
theorem jm_P_142 : jm_P 142 := ⟨Or.inl ⟨rfl, jb_5 (i := 123) rfl rfl⟩, jb_neg (by decide) ⟨jb_5 (i := 122) rfl rfl, Or.inr (jb_0 (i := 36) rfl rfl)⟩, jb_1 (i := 1) rfl rfl⟩
set_option maxRecDepth 100000 in
theorem jm_P_143 : jm_P 143 := ⟨Or.inl ⟨rfl, jb_5 (i := 131) rfl rfl⟩, jb_neg (by decide) ⟨jb_5 (i := 129) rfl rfl, Or.inr (jb_5 (i := 130) rfl rfl)⟩, jb_1 (i := 1) rfl rfl⟩
set_option maxRecDepth 100000 in
theorem jm_P_144 : jm_P 144 := ⟨Or.inl ⟨rfl, jb_5 (i := 138) rfl rfl⟩, jb_neg (by decide) ⟨jb_5 (i := 136) rfl rfl, Or.inr (jb_5 (i := 137) rfl rfl)⟩, jb_1 (i := 1) rfl rfl⟩
set_option maxRecDepth 100000 in
theorem jm_P_145 : jm_P 145 := ⟨Or.inl ⟨rfl, jb_5 (i := 159) rfl rfl⟩, jb_neg (by decide) ⟨jb_5 (i := 157) rfl rfl, Or.inr (jb_5 (i := 158) rfl rfl)⟩, jb_1 (i := 1) rfl rfl⟩
set_option maxRecDepth 100000 in
theorem jm_P_146 : jm_P 146 := ⟨Or.inl ⟨rfl, jb_5 (i := 163) rfl rfl⟩, jb_neg (by decide) ⟨jb_5 (i := 162) rfl rfl, Or.inr (jb_0 (i := 38) rfl rfl)⟩, jb_1 (i := 1) rfl rfl⟩
set_option maxRecDepth 100000 in
theorem jm_P_147 : jm_P 147 := ⟨Or.inl ⟨rfl, jb_5 (i := 174) rfl rfl⟩, jb_neg (by decide) ⟨jb_5 (i := 172) rfl rfl, Or.inr (jb_5 (i := 173) rfl rfl)⟩, jb_1 (i := 1) rfl rfl⟩
set_option maxRecDepth 100000 in
theorem jm_P_148 : jm_P 148 := ⟨Or.inl ⟨rfl, jb_5 (i := 209) rfl rfl⟩, jb_neg (by decide) ⟨jb_5 (i := 207) rfl rfl, Or.inr (jb_5 (i := 208) rfl rfl)⟩, jb_1 (i := 1) rfl rfl⟩
set_option maxRecDepth 100000 in
theorem jm_P_149 : jm_P 149 := ⟨Or.inl ⟨rfl, jb_5 (i := 213) rfl rfl⟩, jb_neg (by decide) ⟨jb_5 (i := 212) rfl rfl, Or.inr (jb_0 (i := 44) rfl rfl)⟩, jb_1 (i := 1) rfl rfl⟩
set_option maxRecDepth 100000 in
theorem jm_P_150 : jm_P 150 := ⟨Or.inl ⟨rfl, jb_5 (i := 228) rfl rfl⟩, jb_neg (by decide) ⟨jb_5 (i := 226) rfl rfl, Or.inr (jb_5 (i := 227) rfl rfl)⟩, jb_1 (i := 1) rfl rfl⟩
set_option maxRecDepth 100000 in
theorem jm_P_151 : jm_P 151 := ⟨Or.inl ⟨rfl, jb_6 (i := 8) rfl rfl⟩, jb_neg (by decide) ⟨jb_6 (i := 6) rfl rfl, Or.inr (jb_6 (i := 7) rfl rfl)⟩, jb_1 (i := 1) rfl rfl⟩
set_option maxRecDepth 100000 in
theorem jm_P_152 : jm_P 152 := ⟨Or.inl ⟨rfl, jb_6 (i := 19) rfl rfl⟩, jb_neg (by decide) ⟨jb_6 (i := 17) rfl rfl, Or.inr (jb_6 (i := 18) rfl rfl)⟩, jb_1 (i := 1) rfl rfl⟩
set_option maxRecDepth 100000 in
theorem jm_P_153 : jm_P 153 := ⟨Or.inl ⟨rfl, jb_6 (i := 40) rfl rfl⟩, jb_neg (by decide) ⟨jb_6 (i := 38) rfl rfl, Or.inr (jb_6 (i := 39) rfl rfl)⟩, jb_1 (i := 1) rfl rfl⟩
set_option maxRecDepth 100000 in
theorem jm_P_154 : jm_P 154 := ⟨Or.inl ⟨rfl, jb_6 (i := 51) rfl rfl⟩, jb_neg (by decide) ⟨jb_6 (i := 49) rfl rfl, Or.inr (jb_6 (i := 50) rfl rfl)⟩, jb_1 (i := 1) rfl rfl⟩
set_option maxRecDepth 100000 in
theorem jm_P_155 : jm_P 155 := ⟨Or.inl ⟨rfl, jb_6 (i := 58) rfl rfl⟩, jb_neg (by decide) ⟨jb_6 (i := 56) rfl rfl, Or.inr (jb_6 (i := 57) rfl rfl)⟩, jb_1 (i := 1) rfl rfl⟩
set_option maxRecDepth 100000 in
theorem jm_P_156 : jm_P 156 := ⟨Or.inl ⟨rfl, jb_6 (i := 65) rfl rfl⟩, jb_neg (by decide) ⟨jb_6 (i := 63) rfl rfl, Or.inr (jb_6 (i := 64) rfl rfl)⟩, jb_1 (i := 1) rfl rfl⟩
set_option maxRecDepth 100000 in
theorem jm_P_157 : jm_P 157 := ⟨Or.inl ⟨rfl, jb_6 (i := 69) rfl rfl⟩, jb_neg (by decide) ⟨jb_6 (i := 68) rfl rfl, Or.inr (jb_0 (i := 48) rfl rfl)⟩, jb_1 (i := 1) rfl rfl⟩
set_option maxRecDepth 100000 in
theorem jm_P_158 : jm_P 158 := ⟨Or.inl ⟨rfl, jb_6 (i := 76) rfl rfl⟩, jb_neg (by decide) ⟨jb_6 (i := 74) rfl rfl, Or.inr (jb_6 (i := 75) rfl rfl)⟩, jb_1 (i := 1) rfl rfl⟩
set_option maxRecDepth 100000 in
theorem jm_P_159 : jm_P 159 := ⟨Or.inl ⟨rfl, jb_6 (i := 88) rfl rfl⟩, jb_neg (by decide) ⟨jb_6 (i := 86) rfl rfl, Or.inr (jb_6 (i := 87) rfl rfl)⟩, jb_1 (i := 1) rfl rfl⟩
set_option maxRecDepth 100000 in
theorem jm_P_160 : jm_P 160 := ⟨Or.inl ⟨rfl, jb_6 (i := 92) rfl rfl⟩, jb_neg (by decide) ⟨jb_6 (i := 91) rfl rfl, Or.inr (jb_0 (i := 49) rfl rfl)⟩, jb_1 (i := 1) rfl rfl⟩
set_option maxRecDepth 100000 in
theorem jm_P_161 : jm_P 161 := ⟨Or.inl ⟨rfl, jb_6 (i := 99) rfl rfl⟩, jb_neg (by decide) ⟨jb_6 (i := 97) rfl rfl, Or.inr (jb_6 (i := 98) rfl rfl)⟩, jb_1 (i := 1) rfl rfl⟩
set_option maxRecDepth 100000 in
theorem jm_P_162 : jm_P 162 := ⟨Or.inl ⟨rfl, jb_6 (i := 106) rfl rfl⟩, jb_neg (by decide) ⟨jb_6 (i := 104) rfl rfl, Or.inr (jb_6 (i := 105) rfl rfl)⟩, jb_1 (i := 1) rfl rfl⟩
set_option maxRecDepth 100000 in
theorem jm_P_163 : jm_P 163 := ⟨Or.inl ⟨rfl, jb_6 (i := 117) rfl rfl⟩, jb_neg (by decide) ⟨jb_6 (i := 115) rfl rfl, Or.inr (jb_6 (i := 116) rfl rfl)⟩, jb_1 (i := 1) rfl rfl⟩
set_option maxRecDepth 100000 in
theorem jm_P_164 : jm_P 164 := ⟨Or.inl ⟨rfl, jb_6 (i := 149) rfl rfl⟩, jb_neg (by decide) ⟨jb_6 (i := 147) rfl rfl, Or.inr (jb_6 (i := 148) rfl rfl)⟩, jb_1 (i := 1) rfl rfl⟩
set_option maxRecDepth 100000 in
theorem jm_P_165 : jm_P 165 := ⟨Or.inl ⟨rfl, jb_6 (i := 154) rfl rfl⟩, jb_neg (by decide) ⟨jb_6 (i := 153) rfl rfl, Or.inl rfl⟩, jb_1 (i := 12) rfl rfl⟩
set_option maxRecDepth 100000 in
theorem jm_P_166 : jm_P 166 := ⟨Or.inl ⟨rfl, jb_6 (i := 160) rfl rfl⟩, jb_neg (by decide) ⟨jb_6 (i := 159) rfl rfl, Or.inr (jb_0 (i := 52) rfl rfl)⟩, jb_1 (i := 12) rfl rfl⟩
set_option maxRecDepth 100000 in
theorem jm_P_167 : jm_P 167 := ⟨Or.inl ⟨rfl, jb_6 (i := 163) rfl rfl⟩, jb_pos rfl (jb_6 (i := 162) rfl rfl), jb_1 (i := 12) rfl rfl⟩
set_option maxRecDepth 100000 in
theorem jm_P_168 : jm_P 168 := ⟨Or.inl ⟨rfl, jb_7 (i := 87) rfl rfl⟩, jb_neg (by decide) ⟨jb_7 (i := 85) rfl rfl, Or.inr (jb_7 (i := 86) rfl rfl)⟩, jb_1 (i := 12) rfl rfl⟩
set_option maxRecDepth 100000 in
theorem jm_P_169 : jm_P 169 := ⟨Or.inl ⟨rfl, jb_7 (i := 91) rfl rfl⟩, jb_neg (by decide) ⟨jb_7 (i := 89) rfl rfl, Or.inr (jb_7 (i := 90) rfl rfl)⟩, jb_1 (i := 12) rfl rfl⟩
set_option maxRecDepth 100000 in
theorem jm_P_170 : jm_P 170 := ⟨Or.inl ⟨rfl, jb_7 (i := 95) rfl rfl⟩, jb_neg (by decide) ⟨jb_7 (i := 93) rfl rfl, Or.inr (jb_7 (i := 94) rfl rfl)⟩, jb_1 (i := 12) rfl rfl⟩
set_option maxRecDepth 100000 in
theorem jm_P_171 : jm_P 171 := ⟨Or.inl ⟨rfl, jb_7 (i := 98) rfl rfl⟩, jb_pos rfl (jb_7 (i := 97) rfl rfl), jb_1 (i := 12) rfl rfl⟩
set_option maxRecDepth 100000 in
theorem jm_P_172 : jm_P 172 := ⟨Or.inl ⟨rfl, jb_7 (i := 102) rfl rfl⟩, jb_neg (by decide) ⟨jb_7 (i := 101) rfl rfl, Or.inr (jb_0 (i := 53) rfl rfl)⟩, jb_1 (i := 12) rfl rfl⟩
set_option maxRecDepth 100000 in
theorem jm_P_173 : jm_P 173 := ⟨Or.inl ⟨rfl, jb_7 (i := 106) rfl rfl⟩, jb_neg (by decide) ⟨jb_7 (i := 105) rfl rfl, Or.inr (jb_0 (i := 54) rfl rfl)⟩, jb_1 (i := 12) rfl rfl⟩
set_option maxRecDepth 100000 in
theorem jm_P_174 : jm_P 174 := ⟨Or.inl ⟨rfl, jb_7 (i := 110) rfl rfl⟩, jb_neg (by decide) ⟨jb_7 (i := 109) rfl rfl, Or.inr (jb_0 (i := 55) rfl rfl)⟩, jb_1 (i := 12) rfl rfl⟩
set_option maxRecDepth 100000 in
theorem jm_P_175 : jm_P 175 := ⟨Or.inl ⟨rfl, jb_7 (i := 114) rfl rfl⟩, jb_neg (by decide) ⟨jb_7 (i := 113) rfl rfl, Or.inr (jb_0 (i := 56) rfl rfl)⟩, jb_1 (i := 12) rfl rfl⟩
set_option maxRecDepth 100000 in
theorem jm_P_176 : jm_P 176 := ⟨Or.inl ⟨rfl, jb_7 (i := 118) rfl rfl⟩, jb_neg (by decide) ⟨jb_7 (i := 117) rfl rfl, Or.inr (jb_0 (i := 57) rfl rfl)⟩, jb_1 (i := 12) rfl rfl⟩
set_option maxRecDepth 100000 in
theorem jm_P_177 : jm_P 177 := ⟨Or.inl ⟨rfl, jb_7 (i := 122) rfl rfl⟩, jb_neg (by decide) ⟨jb_7 (i := 121) rfl rfl, Or.inr (jb_0 (i := 58) rfl rfl)⟩, jb_1 (i := 12) rfl rfl⟩
set_option maxRecDepth 100000 in
theorem jm_P_178 : jm_P 178 := ⟨Or.inl ⟨rfl, jb_7 (i := 126) rfl rfl⟩, jb_neg (by decide) ⟨jb_7 (i := 125) rfl rfl, Or.inr (jb_0 (i := 59) rfl rfl)⟩, jb_1 (i := 12) rfl rfl⟩
set_option maxRecDepth 100000 in
theorem jm_P_179 : jm_P 179 := ⟨Or.inl ⟨rfl, jb_7 (i := 130) rfl rfl⟩, jb_neg (by decide) ⟨jb_7 (i := 129) rfl rfl, Or.inr (jb_0 (i := 60) rfl rfl)⟩, jb_1 (i := 12) rfl rfl⟩
set_option maxRecDepth 100000 in
theorem jm_P_180 : jm_P 180 := ⟨Or.inl ⟨rfl, jb_7 (i := 133) rfl rfl⟩, jb_pos rfl (jb_7 (i := 132) rfl rfl), jb_1 (i := 12) rfl rfl⟩
set_option maxRecDepth 100000 in
theorem jm_P_181 : jm_P 181 := ⟨Or.inl ⟨rfl, jb_7 (i := 136) rfl rfl⟩, jb_pos rfl (jb_7 (i := 135) rfl rfl), jb_1 (i := 12) rfl rfl⟩
set_option maxRecDepth 100000 in
theorem jm_P_182 : jm_P 182 := ⟨Or.inl ⟨rfl, jb_7 (i := 140) rfl rfl⟩, jb_neg (by decide) ⟨jb_7 (i := 139) rfl rfl, Or.inr (jb_0 (i := 61) rfl rfl)⟩, jb_1 (i := 12) rfl rfl⟩
set_option maxRecDepth 100000 in
theorem jm_P_183 : jm_P 183 := ⟨Or.inl ⟨rfl, jb_7 (i := 143) rfl rfl⟩, jb_pos rfl (jb_7 (i := 142) rfl rfl), jb_1 (i := 12) rfl rfl⟩
set_option maxRecDepth 100000 in
theorem jm_P_184 : jm_P 184 := ⟨Or.inl ⟨rfl, jb_7 (i := 147) rfl rfl⟩, jb_neg (by decide) ⟨jb_7 (i := 146) rfl rfl, Or.inr (jb_0 (i := 62) rfl rfl)⟩, jb_1 (i := 12) rfl rfl⟩
set_option maxRecDepth 100000 in
theorem jm_P_185 : jm_P 185 := ⟨Or.inl ⟨rfl, jb_7 (i := 151) rfl rfl⟩, jb_neg (by decide) ⟨jb_7 (i := 150) rfl rfl, Or.inr (jb_0 (i := 63) rfl rfl)⟩, jb_1 (i := 12) rfl rfl⟩
set_option maxRecDepth 100000 in
theorem jm_P_186 : jm_P 186 := ⟨Or.inl ⟨rfl, jb_7 (i := 154) rfl rfl⟩, jb_pos rfl (jb_7 (i := 153) rfl rfl), jb_1 (i := 12) rfl rfl⟩
set_option maxRecDepth 100000 in
theorem jm_P_187 : jm_P 187 := ⟨Or.inl ⟨rfl, jb_7 (i := 159) rfl rfl⟩, jb_neg (by decide) ⟨jb_7 (i := 158) rfl rfl, Or.inr (jb_0 (i := 64) rfl rfl)⟩, jb_1 (i := 12) rfl rfl⟩
set_option maxRecDepth 100000 in
theorem jm_P_188 : jm_P 188 := ⟨Or.inl ⟨rfl, jb_7 (i := 163) rfl rfl⟩, jb_neg (by decide) ⟨jb_7 (i := 162) rfl rfl, Or.inr (jb_0 (i := 65) rfl rfl)⟩, jb_1 (i := 12) rfl rfl⟩
set_option maxRecDepth 100000 in
theorem jm_P_189 : jm_P 189 := ⟨Or.inl ⟨rfl, jb_7 (i := 167) rfl rfl⟩, jb_neg (by decide) ⟨jb_7 (i := 165) rfl rfl, Or.inr (jb_7 (i := 166) rfl rfl)⟩, jb_1 (i := 12) rfl rfl⟩
set_option maxRecDepth 100000 in
theorem jm_P_190 : jm_P 190 := ⟨Or.inl ⟨rfl, jb_7 (i := 171) rfl rfl⟩, jb_neg (by decide) ⟨jb_7 (i := 170) rfl rfl, Or.inr (jb_0 (i := 66) rfl rfl)⟩, jb_1 (i := 12) rfl rfl⟩
set_option maxRecDepth 100000 in
theorem jm_P_191 : jm_P 191 := ⟨Or.inl ⟨rfl, jb_7 (i := 175) rfl rfl⟩, jb_neg (by decide) ⟨jb_7 (i := 174) rfl rfl, Or.inr (jb_0 (i := 67) rfl rfl)⟩, jb_1 (i := 12) rfl rfl⟩
set_option maxRecDepth 100000 in
theorem jm_P_192 : jm_P 192 := ⟨Or.inl ⟨rfl, jb_7 (i := 179) rfl rfl⟩, jb_neg (by decide) ⟨jb_7 (i := 178) rfl rfl, Or.inr (jb_0 (i := 68) rfl rfl)⟩, jb_1 (i := 12) rfl rfl⟩
set_option maxRecDepth 100000 in
theorem jm_P_193 : jm_P 193 := ⟨Or.inl ⟨rfl, jb_7 (i := 183) rfl rfl⟩, jb_neg (by decide) ⟨jb_7 (i := 182) rfl rfl, Or.inr (jb_0 (i := 69) rfl rfl)⟩, jb_1 (i := 12) rfl rfl⟩
set_option maxRecDepth 100000 in
theorem jm_P_194 : jm_P 194 := ⟨Or.inl ⟨rfl, jb_7 (i := 187) rfl rfl⟩, jb_neg (by decide) ⟨jb_7 (i := 186) rfl rfl, Or.inr (jb_0 (i := 70) rfl rfl)⟩, jb_1 (i := 12) rfl rfl⟩
set_option maxRecDepth 100000 in
theorem jm_P_195 : jm_P 195 := ⟨Or.inl ⟨rfl, jb_7 (i := 191) rfl rfl⟩, jb_neg (by decide) ⟨jb_7 (i := 190) rfl rfl, Or.inr (jb_0 (i := 71) rfl rfl)⟩, jb_1 (i := 12) rfl rfl⟩
set_option maxRecDepth 100000 in
theorem jm_P_196 : jm_P 196 := ⟨Or.inl ⟨rfl, jb_7 (i := 195) rfl rfl⟩, jb_neg (by decide) ⟨jb_7 (i := 194) rfl rfl, Or.inr (jb_0 (i := 72) rfl rfl)⟩, jb_1 (i := 12) rfl rfl⟩
set_option maxRecDepth 100000 in
theorem jm_P_197 : jm_P 197 := ⟨Or.inl ⟨rfl, jb_7 (i := 199) rfl rfl⟩, jb_neg (by decide) ⟨jb_7 (i := 198) rfl rfl, Or.inr (jb_0 (i := 73) rfl rfl)⟩, jb_1 (i := 12) rfl rfl⟩
set_option maxRecDepth 100000 in
theorem jm_P_198 : jm_P 198 := ⟨Or.inl ⟨rfl, jb_7 (i := 203) rfl rfl⟩, jb_neg (by decide) ⟨jb_7 (i := 201) rfl rfl, Or.inr (jb_7 (i := 202) rfl rfl)⟩, jb_1 (i := 12) rfl rfl⟩
set_option maxRecDepth 100000 in
theorem jm_P_199 : jm_P 199 := ⟨Or.inl ⟨rfl, jb_7 (i := 206) rfl rfl⟩, jb_pos rfl (jb_7 (i := 205) rfl rfl), jb_1 (i := 12) rfl rfl⟩
set_option maxRecDepth 100000 in
theorem jm_P_200 : jm_P 200 := ⟨Or.inl ⟨rfl, jb_7 (i := 210) rfl rfl⟩, jb_neg (by decide) ⟨jb_7 (i := 208) rfl rfl, Or.inr (jb_7 (i := 209) rfl rfl)⟩, jb_1 (i := 12) rfl rfl⟩
set_option maxRecDepth 100000 in
theorem jm_P_201 : jm_P 201 := ⟨Or.inl ⟨rfl, jb_7 (i := 214) rfl rfl⟩, jb_neg (by decide) ⟨jb_7 (i := 212) rfl rfl, Or.inr (jb_7 (i := 213) rfl rfl)⟩, jb_1 (i := 12) rfl rfl⟩
set_option maxRecDepth 100000 in
theorem jm_P_202 : jm_P 202 := ⟨Or.inl ⟨rfl, jb_7 (i := 218) rfl rfl⟩, jb_neg (by decide) ⟨jb_7 (i := 217) rfl rfl, Or.inr (jb_0 (i := 74) rfl rfl)⟩, jb_1 (i := 12) rfl rfl⟩
set_option maxRecDepth 100000 in
theorem jm_P_203 : jm_P 203 := ⟨Or.inl ⟨rfl, jb_7 (i := 222) rfl rfl⟩, jb_neg (by decide) ⟨jb_7 (i := 221) rfl rfl, Or.inr (jb_0 (i := 75) rfl rfl)⟩, jb_1 (i := 12) rfl rfl⟩
set_option maxRecDepth 100000 in
theorem jm_P_204 : jm_P 204 := ⟨Or.inl ⟨rfl, jb_7 (i := 225) rfl rfl⟩, jb_pos rfl (jb_7 (i := 224) rfl rfl), jb_1 (i := 12) rfl rfl⟩
set_option maxRecDepth 100000 in
theorem jm_P_205 : jm_P 205 := ⟨Or.inl ⟨rfl, jb_7 (i := 229) rfl rfl⟩, jb_neg (by decide) ⟨jb_7 (i := 228) rfl rfl, Or.inr (jb_0 (i := 76) rfl rfl)⟩, jb_1 (i := 12) rfl rfl⟩
set_option maxRecDepth 100000 in
theorem jm_P_206 : jm_P 206 := ⟨Or.inl ⟨rfl, jb_7 (i := 233) rfl rfl⟩, jb_neg (by decide) ⟨jb_7 (i := 232) rfl rfl, Or.inr (jb_0 (i := 77) rfl rfl)⟩, jb_1 (i := 12) rfl rfl⟩
set_option maxRecDepth 100000 in
theorem jm_P_207 : jm_P 207 := ⟨Or.inl ⟨rfl, jb_7 (i := 237) rfl rfl⟩, jb_neg (by decide) ⟨jb_7 (i := 236) rfl rfl, Or.inr (jb_0 (i := 78) rfl rfl)⟩, jb_1 (i := 12) rfl rfl⟩
set_option maxRecDepth 100000 in
theorem jm_P_208 : jm_P 208 := ⟨Or.inl ⟨rfl, jb_8 (i := 1) rfl rfl⟩, jb_neg (by decide) ⟨jb_8 (i := 0) rfl rfl, Or.inr (jb_0 (i := 79) rfl rfl)⟩, jb_1 (i := 12) rfl rfl⟩
set_option maxRecDepth 100000 in
theorem jm_P_209 : jm_P 209 := ⟨Or.inl ⟨rfl, jb_8 (i := 5) rfl rfl⟩, jb_neg (by decide) ⟨jb_8 (i := 4) rfl rfl, Or.inr (jb_0 (i := 80) rfl rfl)⟩, jb_1 (i := 12) rfl rfl⟩
set_option maxRecDepth 100000 in
theorem jm_P_210 : jm_P 210 := ⟨Or.inl ⟨rfl, jb_8 (i := 9) rfl rfl⟩, jb_neg (by decide) ⟨jb_8 (i := 8) rfl rfl, Or.inr (jb_0 (i := 81) rfl rfl)⟩, jb_1 (i := 12) rfl rfl⟩
set_option maxRecDepth 100000 in
theorem jm_P_211 : jm_P 211 := ⟨Or.inl ⟨rfl, jb_8 (i := 13) rfl rfl⟩, jb_neg (by decide) ⟨jb_8 (i := 12) rfl rfl, Or.inr (jb_0 (i := 82) rfl rfl)⟩, jb_1 (i := 12) rfl rfl⟩
set_option maxRecDepth 100000 in
theorem jm_P_212 : jm_P 212 := ⟨Or.inl ⟨rfl, jb_8 (i := 17) rfl rfl⟩, jb_neg (by decide) ⟨jb_8 (i := 16) rfl rfl, Or.inr (jb_0 (i := 83) rfl rfl)⟩, jb_1 (i := 12) rfl rfl⟩
set_option maxRecDepth 100000 in
theorem jm_P_213 : jm_P 213 := ⟨Or.inl ⟨rfl, jb_8 (i := 21) rfl rfl⟩, jb_neg (by decide) ⟨jb_8 (i := 20) rfl rfl, Or.inr (jb_0 (i := 84) rfl rfl)⟩, jb_1 (i := 12) rfl rfl⟩
set_option maxRecDepth 100000 in
theorem jm_P_214 : jm_P 214 := ⟨Or.inl ⟨rfl, jb_8 (i := 25) rfl rfl⟩, jb_neg (by decide) ⟨jb_8 (i := 24) rfl rfl, Or.inr (jb_0 (i := 85) rfl rfl)⟩, jb_1 (i := 12) rfl rfl⟩
set_option maxRecDepth 100000 in
theorem jm_P_215 : jm_P 215 := ⟨Or.inl ⟨rfl, jb_8 (i := 29) rfl rfl⟩, jb_neg (by decide) ⟨jb_8 (i := 28) rfl rfl, Or.inr (jb_0 (i := 86) rfl rfl)⟩, jb_1 (i := 12) rfl rfl⟩
set_option maxRecDepth 100000 in
theorem jm_P_216 : jm_P 216 := ⟨Or.inl ⟨rfl, jb_8 (i := 33) rfl rfl⟩, jb_neg (by decide) ⟨jb_8 (i := 32) rfl rfl, Or.inr (jb_0 (i := 87) rfl rfl)⟩, jb_1 (i := 12) rfl rfl⟩
set_option maxRecDepth 100000 in
theorem jm_P_217 : jm_P 217 := ⟨Or.inl ⟨rfl, jb_8 (i := 37) rfl rfl⟩, jb_neg (by decide) ⟨jb_8 (i := 36) rfl rfl, Or.inr (jb_0 (i := 88) rfl rfl)⟩, jb_1 (i := 12) rfl rfl⟩
set_option maxRecDepth 100000 in
theorem jm_P_218 : jm_P 218 := ⟨Or.inl ⟨rfl, jb_8 (i := 41) rfl rfl⟩, jb_neg (by decide) ⟨jb_8 (i := 40) rfl rfl, Or.inr (jb_0 (i := 89) rfl rfl)⟩, jb_1 (i := 12) rfl rfl⟩
set_option maxRecDepth 100000 in
theorem jm_P_219 : jm_P 219 := ⟨Or.inl ⟨rfl, jb_8 (i := 45) rfl rfl⟩, jb_neg (by decide) ⟨jb_8 (i := 44) rfl rfl, Or.inr (jb_0 (i := 90) rfl rfl)⟩, jb_1 (i := 12) rfl rfl⟩
set_option maxRecDepth 100000 in
theorem jm_P_220 : jm_P 220 := ⟨Or.inl ⟨rfl, jb_8 (i := 48) rfl rfl⟩, jb_pos rfl (jb_8 (i := 47) rfl rfl), jb_1 (i := 12) rfl rfl⟩
set_option maxRecDepth 100000 in
theorem jm_P_221 : jm_P 221 := ⟨Or.inl ⟨rfl, jb_8 (i := 51) rfl rfl⟩, jb_pos rfl (jb_8 (i := 50) rfl rfl), jb_1 (i := 12) rfl rfl⟩
set_option maxRecDepth 100000 in
theorem jm_P_222 : jm_P 222 := ⟨Or.inl ⟨rfl, jb_8 (i := 54) rfl rfl⟩, jb_pos rfl (jb_8 (i := 53) rfl rfl), jb_1 (i := 12) rfl rfl⟩
set_option maxRecDepth 100000 in
theorem jm_P_223 : jm_P 223 := ⟨Or.inl ⟨rfl, jb_8 (i := 58) rfl rfl⟩, jb_neg (by decide) ⟨jb_8 (i := 57) rfl rfl, Or.inr (jb_0 (i := 91) rfl rfl)⟩, jb_1 (i := 12) rfl rfl⟩
set_option maxRecDepth 100000 in
theorem jm_P_224 : jm_P 224 := ⟨Or.inl ⟨rfl, jb_8 (i := 62) rfl rfl⟩, jb_neg (by decide) ⟨jb_8 (i := 60) rfl rfl, Or.inr (jb_8 (i := 61) rfl rfl)⟩, jb_1 (i := 12) rfl rfl⟩
set_option maxRecDepth 100000 in
theorem jm_P_225 : jm_P 225 := ⟨Or.inl ⟨rfl, jb_8 (i := 66) rfl rfl⟩, jb_neg (by decide) ⟨jb_8 (i := 64) rfl rfl, Or.inr (jb_8 (i := 65) rfl rfl)⟩, jb_1 (i := 12) rfl rfl⟩
set_option maxRecDepth 100000 in
theorem jm_P_226 : jm_P 226 := ⟨Or.inl ⟨rfl, jb_8 (i := 70) rfl rfl⟩, jb_neg (by decide) ⟨jb_8 (i := 69) rfl rfl, Or.inr (jb_0 (i := 92) rfl rfl)⟩, jb_1 (i := 12) rfl rfl⟩
set_option maxRecDepth 100000 in
theorem jm_P_227 : jm_P 227 := ⟨Or.inl ⟨rfl, jb_8 (i := 73) rfl rfl⟩, jb_pos rfl (jb_8 (i := 72) rfl rfl), jb_1 (i := 12) rfl rfl⟩
set_option maxRecDepth 100000 in
theorem jm_P_228 : jm_P 228 := ⟨Or.inl ⟨rfl, jb_8 (i := 77) rfl rfl⟩, jb_neg (by decide) ⟨jb_8 (i := 75) rfl rfl, Or.inr (jb_8 (i := 76) rfl rfl)⟩, jb_1 (i := 12) rfl rfl⟩
set_option maxRecDepth 100000 in
theorem jm_P_229 : jm_P 229 := ⟨Or.inl ⟨rfl, jb_8 (i := 81) rfl rfl⟩, jb_neg (by decide) ⟨jb_8 (i := 80) rfl rfl, Or.inr (jb_0 (i := 93) rfl rfl)⟩, jb_1 (i := 12) rfl rfl⟩
set_option maxRecDepth 100000 in
theorem jm_P_230 : jm_P 230 := ⟨Or.inl ⟨rfl, jb_8 (i := 85) rfl rfl⟩, jb_neg (by decide) ⟨jb_8 (i := 83) rfl rfl, Or.inr (jb_8 (i := 84) rfl rfl)⟩, jb_1 (i := 12) rfl rfl⟩
set_option maxRecDepth 100000 in
theorem jm_P_231 : jm_P 231 := ⟨Or.inl ⟨rfl, jb_8 (i := 89) rfl rfl⟩, jb_neg (by decide) ⟨jb_8 (i := 88) rfl rfl, Or.inr (jb_0 (i := 94) rfl rfl)⟩, jb_1 (i := 12) rfl rfl⟩
set_option maxRecDepth 100000 in
theorem jm_P_232 : jm_P 232 := ⟨Or.inl ⟨rfl, jb_8 (i := 93) rfl rfl⟩, jb_neg (by decide) ⟨jb_8 (i := 91) rfl rfl, Or.inr (jb_8 (i := 92) rfl rfl)⟩, jb_1 (i := 12) rfl rfl⟩
set_option maxRecDepth 100000 in
theorem jm_P_233 : jm_P 233 := ⟨Or.inl ⟨rfl, jb_8 (i := 97) rfl rfl⟩, jb_neg (by decide) ⟨jb_8 (i := 95) rfl rfl, Or.inr (jb_8 (i := 96) rfl rfl)⟩, jb_1 (i := 12) rfl rfl⟩
set_option maxRecDepth 100000 in
theorem jm_P_234 : jm_P 234 := ⟨Or.inl ⟨rfl, jb_8 (i := 101) rfl rfl⟩, jb_neg (by decide) ⟨jb_8 (i := 99) rfl rfl, Or.inr (jb_8 (i := 100) rfl rfl)⟩, jb_1 (i := 12) rfl rfl⟩
set_option maxRecDepth 100000 in
theorem jm_P_235 : jm_P 235 := ⟨Or.inl ⟨rfl, jb_8 (i := 105) rfl rfl⟩, jb_neg (by decide) ⟨jb_8 (i := 103) rfl rfl, Or.inr (jb_8 (i := 104) rfl rfl)⟩, jb_1 (i := 12) rfl rfl⟩
set_option maxRecDepth 100000 in
theorem jm_P_236 : jm_P 236 := ⟨Or.inl ⟨rfl, jb_8 (i := 109) rfl rfl⟩, jb_neg (by decide) ⟨jb_8 (i := 108) rfl rfl, Or.inr (jb_0 (i := 95) rfl rfl)⟩, jb_1 (i := 12) rfl rfl⟩
set_option maxRecDepth 100000 in
theorem jm_P_237 : jm_P 237 := ⟨Or.inl ⟨rfl, jb_8 (i := 113) rfl rfl⟩, jb_neg (by decide) ⟨jb_8 (i := 111) rfl rfl, Or.inr (jb_8 (i := 112) rfl rfl)⟩, jb_1 (i := 12) rfl rfl⟩
set_option maxRecDepth 100000 in
theorem jm_P_238 : jm_P 238 := ⟨Or.inl ⟨rfl, jb_8 (i := 117) rfl rfl⟩, jb_neg (by decide) ⟨jb_8 (i := 115) rfl rfl, Or.inr (jb_8 (i := 116) rfl rfl)⟩, jb_1 (i := 12) rfl rfl⟩
set_option maxRecDepth 100000 in
theorem jm_P_239 : jm_P 239 := ⟨Or.inl ⟨rfl, jb_8 (i := 121) rfl rfl⟩, jb_neg (by decide) ⟨jb_8 (i := 120) rfl rfl, Or.inr (jb_0 (i := 96) rfl rfl)⟩, jb_1 (i := 12) rfl rfl⟩
set_option maxRecDepth 100000 in
theorem jm_P_240 : jm_P 240 := ⟨Or.inl ⟨rfl, jb_8 (i := 125) rfl rfl⟩, jb_neg (by decide) ⟨jb_8 (i := 123) rfl rfl, Or.inr (jb_8 (i := 124) rfl rfl)⟩, jb_1 (i := 12) rfl rfl⟩
set_option maxRecDepth 100000 in
theorem jm_P_241 : jm_P 241 := ⟨Or.inl ⟨rfl, jb_8 (i := 129) rfl rfl⟩, jb_neg (by decide) ⟨jb_8 (i := 128) rfl rfl, Or.inr (jb_0 (i := 97) rfl rfl)⟩, jb_1 (i := 12) rfl rfl⟩
set_option maxRecDepth 100000 in
theorem jm_P_242 : jm_P 242 := ⟨Or.inl ⟨rfl, jb_8 (i := 133) rfl rfl⟩, jb_neg (by decide) ⟨jb_8 (i := 131) rfl rfl, Or.inr (jb_8 (i := 132) rfl rfl)⟩, jb_1 (i := 12) rfl rfl⟩
set_option maxRecDepth 100000 in
theorem jm_P_243 : jm_P 243 := ⟨Or.inl ⟨rfl, jb_8 (i := 137) rfl rfl⟩, jb_neg (by decide) ⟨jb_8 (i := 136) rfl rfl, Or.inr (jb_0 (i := 98) rfl rfl)⟩, jb_1 (i := 12) rfl rfl⟩
set_option maxRecDepth 100000 in
theorem jm_P_244 : jm_P 244 := ⟨Or.inl ⟨rfl, jb_8 (i := 141) rfl rfl⟩, jb_neg (by decide) ⟨jb_8 (i := 140) rfl rfl, Or.inr (jb_0 (i := 99) rfl rfl)⟩, jb_1 (i := 12) rfl rfl⟩
set_option maxRecDepth 100000 in
theorem jm_P_245 : jm_P 245 := ⟨Or.inl ⟨rfl, jb_8 (i := 145) rfl rfl⟩, jb_neg (by decide) ⟨jb_8 (i := 143) rfl rfl, Or.inr (jb_8 (i := 144) rfl rfl)⟩, jb_1 (i := 12) rfl rfl⟩
set_option maxRecDepth 100000 in
theorem jm_P_246 : jm_P 246 := ⟨Or.inl ⟨rfl, jb_8 (i := 149) rfl rfl⟩, jb_neg (by decide) ⟨jb_8 (i := 148) rfl rfl, Or.inr (jb_0 (i := 100) rfl rfl)⟩, jb_1 (i := 12) rfl rfl⟩
set_option maxRecDepth 100000 in
theorem jm_P_247 : jm_P 247 := ⟨Or.inl ⟨rfl, jb_8 (i := 153) rfl rfl⟩, jb_neg (by decide) ⟨jb_8 (i := 151) rfl rfl, Or.inr (jb_8 (i := 152) rfl rfl)⟩, jb_1 (i := 12) rfl rfl⟩
set_option maxRecDepth 100000 in
theorem jm_P_248 : jm_P 248 := ⟨Or.inl ⟨rfl, jb_8 (i := 157) rfl rfl⟩, jb_neg (by decide) ⟨jb_8 (i := 156) rfl rfl, Or.inr (jb_0 (i := 101) rfl rfl)⟩, jb_1 (i := 12) rfl rfl⟩
set_option maxRecDepth 100000 in
theorem jm_P_249 : jm_P 249 := ⟨Or.inl ⟨rfl, jb_8 (i := 161) rfl rfl⟩, jb_neg (by decide) ⟨jb_8 (i := 160) rfl rfl, Or.inr (jb_0 (i := 102) rfl rfl)⟩, jb_1 (i := 12) rfl rfl⟩
set_option maxRecDepth 100000 in
theorem jm_P_250 : jm_P 250 := ⟨Or.inl ⟨rfl, jb_8 (i := 165) rfl rfl⟩, jb_neg (by decide) ⟨jb_8 (i := 164) rfl rfl, Or.inr (jb_0 (i := 103) rfl rfl)⟩, jb_1 (i := 12) rfl rfl⟩
set_option maxRecDepth 100000 in
theorem jm_P_251 : jm_P 251 := ⟨Or.inl ⟨rfl, jb_8 (i := 169) rfl rfl⟩, jb_neg (by decide) ⟨jb_8 (i := 167) rfl rfl, Or.inr (jb_8 (i := 168) rfl rfl)⟩, jb_1 (i := 12) rfl rfl⟩
set_option maxRecDepth 100000 in
theorem jm_P_252 : jm_P 252 := ⟨Or.inl ⟨rfl, jb_8 (i := 173) rfl rfl⟩, jb_neg (by decide) ⟨jb_8 (i := 171) rfl rfl, Or.inr (jb_8 (i := 172) rfl rfl)⟩, jb_1 (i := 12) rfl rfl⟩
set_option maxRecDepth 100000 in
theorem jm_P_253 : jm_P 253 := ⟨Or.inl ⟨rfl, jb_8 (i := 177) rfl rfl⟩, jb_neg (by decide) ⟨jb_8 (i := 176) rfl rfl, Or.inr (jb_0 (i := 104) rfl rfl)⟩, jb_1 (i := 12) rfl rfl⟩
set_option maxRecDepth 100000 in
theorem jm_P_254 : jm_P 254 := ⟨Or.inl ⟨rfl, jb_8 (i := 181) rfl rfl⟩, jb_neg (by decide) ⟨jb_8 (i := 180) rfl rfl, Or.inr (jb_0 (i := 105) rfl rfl)⟩, jb_1 (i := 12) rfl rfl⟩
set_option maxRecDepth 100000 in
theorem jm_P_255 : jm_P 255 := ⟨Or.inl ⟨rfl, jb_8 (i := 185) rfl rfl⟩, jb_neg (by decide) ⟨jb_8 (i := 183) rfl rfl, Or.inr (jb_8 (i := 184) rfl rfl)⟩, jb_1 (i := 12) rfl rfl⟩
set_option maxRecDepth 100000 in
theorem jm_P_256 : jm_P 256 := ⟨Or.inl ⟨rfl, jb_8 (i := 189) rfl rfl⟩, jb_neg (by decide) ⟨jb_8 (i := 188) rfl rfl, Or.inr (jb_0 (i := 106) rfl rfl)⟩, jb_1 (i := 12) rfl rfl⟩
set_option maxRecDepth 100000 in
theorem jm_P_257 : jm_P 257 := ⟨Or.inl ⟨rfl, jb_8 (i := 193) rfl rfl⟩, jb_neg (by decide) ⟨jb_8 (i := 191) rfl rfl, Or.inr (jb_8 (i := 192) rfl rfl)⟩, jb_1 (i := 12) rfl rfl⟩
set_option maxRecDepth 100000 in
theorem jm_P_258 : jm_P 258 := ⟨Or.inl ⟨rfl, jb_8 (i := 197) rfl rfl⟩, jb_neg (by decide) ⟨jb_8 (i := 196) rfl rfl, Or.inr (jb_0 (i := 107) rfl rfl)⟩, jb_1 (i := 12) rfl rfl⟩
set_option maxRecDepth 100000 in
theorem jm_P_259 : jm_P 259 := ⟨Or.inl ⟨rfl, jb_8 (i := 201) rfl rfl⟩, jb_neg (by decide) ⟨jb_8 (i := 200) rfl rfl, Or.inr (jb_0 (i := 108) rfl rfl)⟩, jb_1 (i := 12) rfl rfl⟩
set_option maxRecDepth 100000 in
theorem jm_P_260 : jm_P 260 := ⟨Or.inl ⟨rfl, jb_8 (i := 205) rfl rfl⟩, jb_neg (by decide) ⟨jb_8 (i := 203) rfl rfl, Or.inr (jb_8 (i := 204) rfl rfl)⟩, jb_1 (i := 12) rfl rfl⟩
set_option maxRecDepth 100000 in
theorem jm_P_261 : jm_P 261 := ⟨Or.inl ⟨rfl, jb_8 (i := 209) rfl rfl⟩, jb_neg (by decide) ⟨jb_8 (i := 207) rfl rfl, Or.inr (jb_8 (i := 208) rfl rfl)⟩, jb_1 (i := 12) rfl rfl⟩
set_option maxRecDepth 100000 in
theorem jm_P_262 : jm_P 262 := ⟨Or.inl ⟨rfl, jb_8 (i := 213) rfl rfl⟩, jb_neg (by decide) ⟨jb_8 (i := 212) rfl rfl, Or.inr (jb_0 (i := 109) rfl rfl)⟩, jb_1 (i := 12) rfl rfl⟩
set_option maxRecDepth 100000 in
theorem jm_P_263 : jm_P 263 := ⟨Or.inl ⟨rfl, jb_8 (i := 217) rfl rfl⟩, jb_neg (by decide) ⟨jb_8 (i := 215) rfl rfl, Or.inr (jb_8 (i := 216) rfl rfl)⟩, jb_1 (i := 12) rfl rfl⟩
set_option maxRecDepth 100000 in
theorem jm_P_264 : jm_P 264 := ⟨Or.inl ⟨rfl, jb_8 (i := 221) rfl rfl⟩, jb_neg (by decide) ⟨jb_8 (i := 219) rfl rfl, Or.inr (jb_8 (i := 220) rfl rfl)⟩, jb_1 (i := 12) rfl rfl⟩
set_option maxRecDepth 100000 in
theorem jm_P_265 : jm_P 265 := ⟨Or.inl ⟨rfl, jb_8 (i := 225) rfl rfl⟩, jb_neg (by decide) ⟨jb_8 (i := 224) rfl rfl, Or.inr (jb_0 (i := 110) rfl rfl)⟩, jb_1 (i := 12) rfl rfl⟩
set_option maxRecDepth 100000 in
theorem jm_P_266 : jm_P 266 := ⟨Or.inl ⟨rfl, jb_8 (i := 229) rfl rfl⟩, jb_neg (by decide) ⟨jb_8 (i := 227) rfl rfl, Or.inr (jb_8 (i := 228) rfl rfl)⟩, jb_1 (i := 12) rfl rfl⟩
set_option maxRecDepth 100000 in
theorem jm_P_267 : jm_P 267 := ⟨Or.inl ⟨rfl, jb_8 (i := 233) rfl rfl⟩, jb_neg (by decide) ⟨jb_8 (i := 231) rfl rfl, Or.inr (jb_8 (i := 232) rfl rfl)⟩, jb_1 (i := 12) rfl rfl⟩
set_option maxRecDepth 100000 in
theorem jm_P_268 : jm_P 268 := ⟨Or.inl ⟨rfl, jb_8 (i := 237) rfl rfl⟩, jb_neg (by decide) ⟨jb_8 (i := 235) rfl rfl, Or.inr (jb_8 (i := 236) rfl rfl)⟩, jb_1 (i := 12) rfl rfl⟩
set_option maxRecDepth 100000 in
theorem jm_P_269 : jm_P 269 := ⟨Or.inl ⟨rfl, jb_9 (i := 1) rfl rfl⟩, jb_neg (by decide) ⟨jb_8 (i := 239) rfl rfl, Or.inr (jb_9 (i := 0) rfl rfl)⟩, jb_1 (i := 12) rfl rfl⟩
set_option maxRecDepth 100000 in
theorem jm_P_270 : jm_P 270 := ⟨Or.inl ⟨rfl, jb_9 (i := 5) rfl rfl⟩, jb_neg (by decide) ⟨jb_9 (i := 3) rfl rfl, Or.inr (jb_9 (i := 4) rfl rfl)⟩, jb_1 (i := 12) rfl rfl⟩
set_option maxRecDepth 100000 in
theorem jm_P_271 : jm_P 271 := ⟨Or.inl ⟨rfl, jb_9 (i := 9) rfl rfl⟩, jb_neg (by decide) ⟨jb_9 (i := 8) rfl rfl, Or.inr (jb_0 (i := 111) rfl rfl)⟩, jb_1 (i := 12) rfl rfl⟩
set_option maxRecDepth 100000 in
theorem jm_P_272 : jm_P 272 := ⟨Or.inl ⟨rfl, jb_9 (i := 13) rfl rfl⟩, jb_neg (by decide) ⟨jb_9 (i := 11) rfl rfl, Or.inr (jb_9 (i := 12) rfl rfl)⟩, jb_1 (i := 12) rfl rfl⟩
set_option maxRecDepth 100000 in
theorem jm_P_273 : jm_P 273 := ⟨Or.inl ⟨rfl, jb_9 (i := 16) rfl rfl⟩, jb_pos rfl (jb_9 (i := 15) rfl rfl), jb_1 (i := 12) rfl rfl⟩
set_option maxRecDepth 100000 in
theorem jm_P_274 : jm_P 274 := ⟨Or.inl ⟨rfl, jb_9 (i := 20) rfl rfl⟩, jb_neg (by decide) ⟨jb_9 (i := 19) rfl rfl, Or.inr (jb_0 (i := 112) rfl rfl)⟩, jb_1 (i := 12) rfl rfl⟩
set_option maxRecDepth 100000 in
theorem jm_P_275 : jm_P 275 := ⟨Or.inl ⟨rfl, jb_9 (i := 25) rfl rfl⟩, jb_neg (by decide) ⟨jb_9 (i := 24) rfl rfl, Or.inr (jb_0 (i := 113) rfl rfl)⟩, jb_1 (i := 12) rfl rfl⟩
set_option maxRecDepth 100000 in
theorem jm_P_276 : jm_P 276 := ⟨Or.inl ⟨rfl, jb_9 (i := 29) rfl rfl⟩, jb_neg (by decide) ⟨jb_9 (i := 27) rfl rfl, Or.inr (jb_9 (i := 28) rfl rfl)⟩, jb_1 (i := 12) rfl rfl⟩
set_option maxRecDepth 100000 in
theorem jm_P_277 : jm_P 277 := ⟨Or.inl ⟨rfl, jb_9 (i := 33) rfl rfl⟩, jb_neg (by decide) ⟨jb_9 (i := 31) rfl rfl, Or.inr (jb_9 (i := 32) rfl rfl)⟩, jb_1 (i := 12) rfl rfl⟩
set_option maxRecDepth 100000 in
theorem jm_P_278 : jm_P 278 := ⟨Or.inl ⟨rfl, jb_9 (i := 37) rfl rfl⟩, jb_neg (by decide) ⟨jb_9 (i := 36) rfl rfl, Or.inr (jb_0 (i := 114) rfl rfl)⟩, jb_1 (i := 12) rfl rfl⟩
set_option maxRecDepth 100000 in
theorem jm_P_279 : jm_P 279 := ⟨Or.inl ⟨rfl, jb_9 (i := 41) rfl rfl⟩, jb_neg (by decide) ⟨jb_9 (i := 40) rfl rfl, Or.inr (jb_0 (i := 115) rfl rfl)⟩, jb_1 (i := 12) rfl rfl⟩
set_option maxRecDepth 100000 in
theorem jm_P_280 : jm_P 280 := ⟨Or.inl ⟨rfl, jb_9 (i := 45) rfl rfl⟩, jb_neg (by decide) ⟨jb_9 (i := 43) rfl rfl, Or.inr (jb_9 (i := 44) rfl rfl)⟩, jb_1 (i := 12) rfl rfl⟩
set_option maxRecDepth 100000 in
theorem jm_P_281 : jm_P 281 := ⟨Or.inl ⟨rfl, jb_9 (i := 49) rfl rfl⟩, jb_neg (by decide) ⟨jb_9 (i := 47) rfl rfl, Or.inr (jb_9 (i := 48) rfl rfl)⟩, jb_1 (i := 12) rfl rfl⟩
set_option maxRecDepth 100000 in
theorem jm_P_282 : jm_P 282 := ⟨Or.inl ⟨rfl, jb_9 (i := 53) rfl rfl⟩, jb_neg (by decide) ⟨jb_9 (i := 51) rfl rfl, Or.inr (jb_9 (i := 52) rfl rfl)⟩, jb_1 (i := 12) rfl rfl⟩
set_option maxRecDepth 100000 in
theorem jm_P_283 : jm_P 283 := ⟨Or.inr ⟨by decide, jb_3 (i := 51) rfl rfl⟩, jb_pos rfl (jb_3 (i := 50) rfl rfl), jb_1 (i := 0) rfl rfl⟩
set_option maxRecDepth 100000 in
theorem jm_P_284 : jm_P 284 := ⟨Or.inr ⟨by decide, jb_4 (i := 27) rfl rfl⟩, jb_pos rfl (jb_4 (i := 26) rfl rfl), jb_1 (i := 0) rfl rfl⟩
set_option maxRecDepth 100000 in
theorem jm_P_285 : jm_P 285 := ⟨Or.inr ⟨by decide, jb_4 (i := 89) rfl rfl⟩, jb_pos rfl (jb_4 (i := 88) rfl rfl), jb_1 (i := 0) rfl rfl⟩
set_option maxRecDepth 100000 in
theorem jm_P_286 : jm_P 286 := ⟨Or.inr ⟨by decide, jb_4 (i := 220) rfl rfl⟩, jb_pos rfl (jb_4 (i := 219) rfl rfl), jb_1 (i := 0) rfl rfl⟩
set_option maxRecDepth 100000 in
theorem jm_P_287 : jm_P 287 := ⟨Or.inr ⟨by decide, jb_5 (i := 3) rfl rfl⟩, jb_pos rfl (jb_5 (i := 2) rfl rfl), jb_1 (i := 0) rfl rfl⟩
set_option maxRecDepth 100000 in
theorem jm_P_288 : jm_P 288 := ⟨Or.inr ⟨by decide, jb_5 (i := 27) rfl rfl⟩, jb_pos rfl (jb_5 (i := 26) rfl rfl), jb_1 (i := 0) rfl rfl⟩
set_option maxRecDepth 100000 in
theorem jm_P_289 : jm_P 289 := ⟨Or.inr ⟨by decide, jb_5 (i := 72) rfl rfl⟩, jb_pos rfl (jb_5 (i := 71) rfl rfl), jb_1 (i := 0) rfl rfl⟩
set_option maxRecDepth 100000 in
theorem jm_P_290 : jm_P 290 := ⟨Or.inr ⟨by decide, jb_5 (i := 88) rfl rfl⟩, jb_pos rfl (jb_5 (i := 87) rfl rfl), jb_1 (i := 0) rfl rfl⟩
set_option maxRecDepth 100000 in
theorem jm_P_291 : jm_P 291 := ⟨Or.inr ⟨by decide, jb_5 (i := 96) rfl rfl⟩, jb_pos rfl (jb_5 (i := 95) rfl rfl), jb_1 (i := 0) rfl rfl⟩
set_option maxRecDepth 100000 in
theorem jm_P_292 : jm_P 292 := ⟨Or.inr ⟨by decide, jb_5 (i := 104) rfl rfl⟩, jb_pos rfl (jb_5 (i := 103) rfl rfl), jb_1 (i := 0) rfl rfl⟩
set_option maxRecDepth 100000 in
theorem jm_P_293 : jm_P 293 := ⟨Or.inr ⟨by decide, jb_5 (i := 115) rfl rfl⟩, jb_pos rfl (jb_5 (i := 114) rfl rfl), jb_1 (i := 0) rfl rfl⟩
set_option maxRecDepth 100000 in
theorem jm_P_294 : jm_P 294 := ⟨Or.inr ⟨by decide, jb_5 (i := 127) rfl rfl⟩, jb_pos rfl (jb_5 (i := 126) rfl rfl), jb_1 (i := 0) rfl rfl⟩
set_option maxRecDepth 100000 in
theorem jm_P_295 : jm_P 295 := ⟨Or.inr ⟨by decide, jb_5 (i := 134) rfl rfl⟩, jb_pos rfl (jb_5 (i := 133) rfl rfl), jb_1 (i := 0) rfl rfl⟩
set_option maxRecDepth 100000 in
theorem jm_P_296 : jm_P 296 := ⟨Or.inr ⟨by decide, jb_5 (i := 155) rfl rfl⟩, jb_pos rfl (jb_5 (i := 154) rfl rfl), jb_1 (i := 0) rfl rfl⟩
set_option maxRecDepth 100000 in
theorem jm_P_297 : jm_P 297 := ⟨Or.inr ⟨by decide, jb_5 (i := 170) rfl rfl⟩, jb_pos rfl (jb_5 (i := 169) rfl rfl), jb_1 (i := 0) rfl rfl⟩
set_option maxRecDepth 100000 in
theorem jm_P_298 : jm_P 298 := ⟨Or.inr ⟨by decide, jb_5 (i := 205) rfl rfl⟩, jb_pos rfl (jb_5 (i := 204) rfl rfl), jb_1 (i := 0) rfl rfl⟩
set_option maxRecDepth 100000 in
theorem jm_P_299 : jm_P 299 := ⟨Or.inr ⟨by decide, jb_5 (i := 224) rfl rfl⟩, jb_pos rfl (jb_5 (i := 223) rfl rfl), jb_1 (i := 0) rfl rfl⟩
set_option maxRecDepth 100000 in
theorem jm_P_300 : jm_P 300 := ⟨Or.inr ⟨by decide, jb_6 (i := 4) rfl rfl⟩, jb_pos rfl (jb_6 (i := 3) rfl rfl), jb_1 (i := 0) rfl rfl⟩
set_option maxRecDepth 100000 in
theorem jm_P_301 : jm_P 301 := ⟨Or.inr ⟨by decide, jb_6 (i := 15) rfl rfl⟩, jb_pos rfl (jb_6 (i := 14) rfl rfl), jb_1 (i := 0) rfl rfl⟩
set_option maxRecDepth 100000 in
theorem jm_P_302 : jm_P 302 := ⟨Or.inr ⟨by decide, jb_6 (i := 36) rfl rfl⟩, jb_pos rfl (jb_6 (i := 35) rfl rfl), jb_1 (i := 0) rfl rfl⟩
set_option maxRecDepth 100000 in
theorem jm_P_303 : jm_P 303 := ⟨Or.inr ⟨by decide, jb_6 (i := 47) rfl rfl⟩, jb_pos rfl (jb_6 (i := 46) rfl rfl), jb_1 (i := 0) rfl rfl⟩
set_option maxRecDepth 100000 in
theorem jm_P_304 : jm_P 304 := ⟨Or.inr ⟨by decide, jb_6 (i := 54) rfl rfl⟩, jb_pos rfl (jb_6 (i := 53) rfl rfl), jb_1 (i := 0) rfl rfl⟩
set_option maxRecDepth 100000 in
theorem jm_P_305 : jm_P 305 := ⟨Or.inr ⟨by decide, jb_6 (i := 61) rfl rfl⟩, jb_pos rfl (jb_6 (i := 60) rfl rfl), jb_1 (i := 0) rfl rfl⟩
set_option maxRecDepth 100000 in
theorem jm_P_306 : jm_P 306 := ⟨Or.inr ⟨by decide, jb_6 (i := 72) rfl rfl⟩, jb_pos rfl (jb_6 (i := 71) rfl rfl), jb_1 (i := 0) rfl rfl⟩
set_option maxRecDepth 100000 in
theorem jm_P_307 : jm_P 307 := ⟨Or.inr ⟨by decide, jb_6 (i := 84) rfl rfl⟩, jb_pos rfl (jb_6 (i := 83) rfl rfl), jb_1 (i := 0) rfl rfl⟩
set_option maxRecDepth 100000 in
theorem jm_P_308 : jm_P 308 := ⟨Or.inr ⟨by decide, jb_6 (i := 95) rfl rfl⟩, jb_pos rfl (jb_6 (i := 94) rfl rfl), jb_1 (i := 0) rfl rfl⟩
set_option maxRecDepth 100000 in
theorem jm_P_309 : jm_P 309 := ⟨Or.inr ⟨by decide, jb_6 (i := 102) rfl rfl⟩, jb_pos rfl (jb_6 (i := 101) rfl rfl), jb_1 (i := 0) rfl rfl⟩
set_option maxRecDepth 100000 in
theorem jm_P_310 : jm_P 310 := ⟨Or.inr ⟨by decide, jb_6 (i := 113) rfl rfl⟩, jb_pos rfl (jb_6 (i := 112) rfl rfl), jb_1 (i := 0) rfl rfl⟩
set_option maxRecDepth 100000 in
theorem jm_P_311 : jm_P 311 := ⟨Or.inr ⟨by decide, jb_6 (i := 145) rfl rfl⟩, jb_pos rfl (jb_6 (i := 144) rfl rfl), jb_1 (i := 0) rfl rfl⟩
set_option maxRecDepth 100000 in
theorem jm_P_312 : jm_P 312 := ⟨Or.inl ⟨rfl, jb_3 (i := 163) rfl rfl⟩, jb_neg (by decide) ⟨jb_3 (i := 161) rfl rfl, Or.inr (jb_3 (i := 162) rfl rfl)⟩, jb_1 (i := 18) rfl rfl⟩
set_option maxRecDepth 100000 in
theorem jm_P_313 : jm_P 313 := ⟨Or.inl ⟨rfl, jb_3 (i := 167) rfl rfl⟩, jb_neg (by decide) ⟨jb_3 (i := 165) rfl rfl, Or.inr (jb_3 (i := 166) rfl rfl)⟩, jb_1 (i := 18) rfl rfl⟩
set_option maxRecDepth 100000 in
theorem jm_P_314 : jm_P 314 := ⟨Or.inl ⟨rfl, jb_3 (i := 173) rfl rfl⟩, jb_neg (by decide) ⟨jb_3 (i := 171) rfl rfl, Or.inr (jb_3 (i := 172) rfl rfl)⟩, jb_1 (i := 18) rfl rfl⟩
set_option maxRecDepth 100000 in
theorem jm_P_315 : jm_P 315 := ⟨Or.inl ⟨rfl, jb_3 (i := 177) rfl rfl⟩, jb_neg (by decide) ⟨jb_3 (i := 175) rfl rfl, Or.inr (jb_3 (i := 176) rfl rfl)⟩, jb_1 (i := 18) rfl rfl⟩
set_option maxRecDepth 100000 in
theorem jm_P_316 : jm_P 316 := ⟨Or.inl ⟨rfl, jb_3 (i := 183) rfl rfl⟩, jb_pos rfl (jb_3 (i := 182) rfl rfl), jb_1 (i := 18) rfl rfl⟩
set_option maxRecDepth 100000 in
theorem jm_P_317 : jm_P 317 := ⟨Or.inl ⟨rfl, jb_3 (i := 180) rfl rfl⟩, jb_pos rfl (jb_3 (i := 179) rfl rfl), jb_1 (i := 19) rfl rfl⟩
set_option maxRecDepth 100000 in
theorem jm_P_318 : jm_P 318 := ⟨Or.inl ⟨rfl, jb_2 (i := 230) rfl rfl⟩, jb_pos rfl (jb_2 (i := 229) rfl rfl), jb_1 (i := 24) rfl rfl⟩
set_option maxRecDepth 100000 in
theorem jm_P_319 : jm_P 319 := ⟨Or.inl ⟨rfl, jb_3 (i := 188) rfl rfl⟩, jb_pos rfl (jb_3 (i := 187) rfl rfl), jb_1 (i := 20) rfl rfl⟩
set_option maxRecDepth 100000 in
theorem jm_Pall : ∀ m ∈ List.range 320, jm_P m := List.forall_mem_cons.mpr ⟨jm_P_0, List.forall_mem_cons.mpr ⟨jm_P_1, List.forall_mem_cons.mpr ⟨jm_P_2, List.forall_mem_cons.mpr ⟨jm_P_3, List.forall_mem_cons.mpr ⟨jm_P_4, List.forall_mem_cons.mpr ⟨jm_P_5, List.forall_mem_cons.mpr ⟨jm_P_6, List.forall_mem_cons.mpr ⟨jm_P_7, List.forall_mem_cons.mpr ⟨jm_P_8, List.forall_mem_cons.mpr ⟨jm_P_9, List.forall_mem_cons.mpr ⟨jm_P_10, List.forall_mem_cons.mpr ⟨jm_P_11, List.forall_mem_cons.mpr ⟨jm_P_12, List.forall_mem_cons.mpr ⟨jm_P_13, List.forall_mem_cons.mpr ⟨jm_P_14, List.forall_mem_cons.mpr ⟨jm_P_15, List.forall_mem_cons.mpr ⟨jm_P_16, List.forall_mem_cons.mpr ⟨jm_P_17, List.forall_mem_cons.mpr ⟨jm_P_18, List.forall_mem_cons.mpr ⟨jm_P_19, List.forall_mem_cons.mpr ⟨jm_P_20, List.forall_mem_cons.mpr ⟨jm_P_21, List.forall_mem_cons.mpr ⟨jm_P_22, List.forall_mem_cons.mpr ⟨jm_P_23, List.forall_mem_cons.mpr ⟨jm_P_24, List.forall_mem_cons.mpr ⟨jm_P_25, List.forall_mem_cons.mpr ⟨jm_P_26, List.forall_mem_cons.mpr ⟨jm_P_27, List.forall_mem_cons.mpr ⟨jm_P_28, List.forall_mem_cons.mpr ⟨jm_P_29, List.forall_mem_cons.mpr ⟨jm_P_30, List.forall_mem_cons.mpr ⟨jm_P_31, List.forall_mem_cons.mpr ⟨jm_P_32, List.forall_mem_cons.mpr ⟨jm_P_33, List.forall_mem_cons.mpr ⟨jm_P_34, List.forall_mem_cons.mpr ⟨jm_P_35, List.forall_mem_cons.mpr ⟨jm_P_36, List.forall_mem_cons.mpr ⟨jm_P_37, List.forall_mem_cons.mpr ⟨jm_P_38, List.forall_mem_cons.mpr ⟨jm_P_39, List.forall_mem_cons.mpr ⟨jm_P_40, List.forall_mem_cons.mpr ⟨jm_P_41, List.forall_mem_cons.mpr ⟨jm_P_42, List.forall_mem_cons.mpr ⟨jm_P_43, List.forall_mem_cons.mpr ⟨jm_P_44, List.forall_mem_cons.mpr ⟨jm_P_45, List.forall_mem_cons.mpr ⟨jm_P_46, List.forall_mem_cons.mpr ⟨jm_P_47, List.forall_mem_cons.mpr ⟨jm_P_48, List.forall_mem_cons.mpr ⟨jm_P_49, List.forall_mem_cons.mpr ⟨jm_P_50, List.forall_mem_cons.mpr ⟨jm_P_51, List.forall_mem_cons.mpr ⟨jm_P_52, List.forall_mem_cons.mpr ⟨jm_P_53, List.forall_mem_cons.mpr ⟨jm_P_54, List.forall_mem_cons.mpr ⟨jm_P_55, List.forall_mem_cons.mpr ⟨jm_P_56, List.forall_mem_cons.mpr ⟨jm_P_57, List.forall_mem_cons.mpr ⟨jm_P_58, List.forall_mem_cons.mpr ⟨jm_P_59, List.forall_mem_cons.mpr ⟨jm_P_60, List.forall_mem_cons.mpr ⟨jm_P_61, List.forall_mem_cons.mpr ⟨jm_P_62, List.forall_mem_cons.mpr ⟨jm_P_63, List.forall_mem_cons.mpr ⟨jm_P_64, List.forall_mem_cons.mpr ⟨jm_P_65, List.forall_mem_cons.mpr ⟨jm_P_66, List.forall_mem_cons.mpr ⟨jm_P_67, List.forall_mem_cons.mpr ⟨jm_P_68, List.forall_mem_cons.mpr ⟨jm_P_69, List.forall_mem_cons.mpr ⟨jm_P_70, List.forall_mem_cons.mpr ⟨jm_P_71, List.forall_mem_cons.mpr ⟨jm_P_72, List.forall_mem_cons.mpr ⟨jm_P_73, List.forall_mem_cons.mpr ⟨jm_P_74, List.forall_mem_cons.mpr ⟨jm_P_75, List.forall_mem_cons.mpr ⟨jm_P_76, List.forall_mem_cons.mpr ⟨jm_P_77, List.forall_mem_cons.mpr ⟨jm_P_78, List.forall_mem_cons.mpr ⟨jm_P_79, List.forall_mem_cons.mpr ⟨jm_P_80, List.forall_mem_cons.mpr ⟨jm_P_81, List.forall_mem_cons.mpr ⟨jm_P_82, List.forall_mem_cons.mpr ⟨jm_P_83, List.forall_mem_cons.mpr ⟨jm_P_84, List.forall_mem_cons.mpr ⟨jm_P_85, List.forall_mem_cons.mpr ⟨jm_P_86, List.forall_mem_cons.mpr ⟨jm_P_87, List.forall_mem_cons.mpr ⟨jm_P_88, List.forall_mem_cons.mpr ⟨jm_P_89, List.forall_mem_cons.mpr ⟨jm_P_90, List.forall_mem_cons.mpr ⟨jm_P_91, List.forall_mem_cons.mpr ⟨jm_P_92, List.forall_mem_cons.mpr ⟨jm_P_93, List.forall_mem_cons.mpr ⟨jm_P_94, List.forall_mem_cons.mpr ⟨jm_P_95, List.forall_mem_cons.mpr ⟨jm_P_96, List.forall_mem_cons.mpr ⟨jm_P_97, List.forall_mem_cons.mpr ⟨jm_P_98, List.forall_mem_cons.mpr ⟨jm_P_99, List.forall_mem_cons.mpr ⟨jm_P_100, List.forall_mem_cons.mpr ⟨jm_P_101, List.forall_mem_cons.mpr ⟨jm_P_102, List.forall_mem_cons.mpr ⟨jm_P_103, List.forall_mem_cons.mpr ⟨jm_P_104, List.forall_mem_cons.mpr ⟨jm_P_105, List.forall_mem_cons.mpr ⟨jm_P_106, List.forall_mem_cons.mpr ⟨jm_P_107, List.forall_mem_cons.mpr ⟨jm_P_108, List.forall_mem_cons.mpr ⟨jm_P_109, List.forall_mem_cons.mpr ⟨jm_P_110, List.forall_mem_cons.mpr ⟨jm_P_111, List.forall_mem_cons.mpr ⟨jm_P_112, List.forall_mem_cons.mpr ⟨jm_P_113, List.forall_mem_cons.mpr ⟨jm_P_114, List.forall_mem_cons.mpr ⟨jm_P_115, List.forall_mem_cons.mpr ⟨jm_P_116, List.forall_mem_cons.mpr ⟨jm_P_117, List.forall_mem_cons.mpr ⟨jm_P_118, List.forall_mem_cons.mpr ⟨jm_P_119, List.forall_mem_cons.mpr ⟨jm_P_120, List.forall_mem_cons.mpr ⟨jm_P_121, List.forall_mem_cons.mpr ⟨jm_P_122, List.forall_mem_cons.mpr ⟨jm_P_123, List.forall_mem_cons.mpr ⟨jm_P_124, List.forall_mem_cons.mpr ⟨jm_P_125, List.forall_mem_cons.mpr ⟨jm_P_126, List.forall_mem_cons.mpr ⟨jm_P_127, List.forall_mem_cons.mpr ⟨jm_P_128, List.forall_mem_cons.mpr ⟨jm_P_129, List.forall_mem_cons.mpr ⟨jm_P_130, List.forall_mem_cons.mpr ⟨jm_P_131, List.forall_mem_cons.mpr ⟨jm_P_132, List.forall_mem_cons.mpr ⟨jm_P_133, List.forall_mem_cons.mpr ⟨jm_P_134, List.forall_mem_cons.mpr ⟨jm_P_135, List.forall_mem_cons.mpr ⟨jm_P_136, List.forall_mem_cons.mpr ⟨jm_P_137, List.forall_mem_cons.mpr ⟨jm_P_138, List.forall_mem_cons.mpr ⟨jm_P_139, List.forall_mem_cons.mpr ⟨jm_P_140, List.forall_mem_cons.mpr ⟨jm_P_141, List.forall_mem_cons.mpr ⟨jm_P_142, List.forall_mem_cons.mpr ⟨jm_P_143, List.forall_mem_cons.mpr ⟨jm_P_144, List.forall_mem_cons.mpr ⟨jm_P_145, List.forall_mem_cons.mpr ⟨jm_P_146, List.forall_mem_cons.mpr ⟨jm_P_147, List.forall_mem_cons.mpr ⟨jm_P_148, List.forall_mem_cons.mpr ⟨jm_P_149, List.forall_mem_cons.mpr ⟨jm_P_150, List.forall_mem_cons.mpr ⟨jm_P_151, List.forall_mem_cons.mpr ⟨jm_P_152, List.forall_mem_cons.mpr ⟨jm_P_153, List.forall_mem_cons.mpr ⟨jm_P_154, List.forall_mem_cons.mpr ⟨jm_P_155, List.forall_mem_cons.mpr ⟨jm_P_156, List.forall_mem_cons.mpr ⟨jm_P_157, List.forall_mem_cons.mpr ⟨jm_P_158, List.forall_mem_cons.mpr ⟨jm_P_159, List.forall_mem_cons.mpr ⟨jm_P_160, List.forall_mem_cons.mpr ⟨jm_P_161, List.forall_mem_cons.mpr ⟨jm_P_162, List.forall_mem_cons.mpr ⟨jm_P_163, List.forall_mem_cons.mpr ⟨jm_P_164, List.forall_mem_cons.mpr ⟨jm_P_165, List.forall_mem_cons.mpr ⟨jm_P_166, List.forall_mem_cons.mpr ⟨jm_P_167, List.forall_mem_cons.mpr ⟨jm_P_168, List.forall_mem_cons.mpr ⟨jm_P_169, List.forall_mem_cons.mpr ⟨jm_P_170, List.forall_mem_cons.mpr ⟨jm_P_171, List.forall_mem_cons.mpr ⟨jm_P_172, List.forall_mem_cons.mpr ⟨jm_P_173, List.forall_mem_cons.mpr ⟨jm_P_174, List.forall_mem_cons.mpr ⟨jm_P_175, List.forall_mem_cons.mpr ⟨jm_P_176, List.forall_mem_cons.mpr ⟨jm_P_177, List.forall_mem_cons.mpr ⟨jm_P_178, List.forall_mem_cons.mpr ⟨jm_P_179, List.forall_mem_cons.mpr ⟨jm_P_180, List.forall_mem_cons.mpr ⟨jm_P_181, List.forall_mem_cons.mpr ⟨jm_P_182, List.forall_mem_cons.mpr ⟨jm_P_183, List.forall_mem_cons.mpr ⟨jm_P_184, List.forall_mem_cons.mpr ⟨jm_P_185, List.forall_mem_cons.mpr ⟨jm_P_186, List.forall_mem_cons.mpr ⟨jm_P_187, List.forall_mem_cons.mpr ⟨jm_P_188, List.forall_mem_cons.mpr ⟨jm_P_189, List.forall_mem_cons.mpr ⟨jm_P_190, List.forall_mem_cons.mpr ⟨jm_P_191, List.forall_mem_cons.mpr ⟨jm_P_192, List.forall_mem_cons.mpr ⟨jm_P_193, List.forall_mem_cons.mpr ⟨jm_P_194, List.forall_mem_cons.mpr ⟨jm_P_195, List.forall_mem_cons.mpr ⟨jm_P_196, List.forall_mem_cons.mpr ⟨jm_P_197, List.forall_mem_cons.mpr ⟨jm_P_198, List.forall_mem_cons.mpr ⟨jm_P_199, List.forall_mem_cons.mpr ⟨jm_P_200, List.forall_mem_cons.mpr ⟨jm_P_201, List.forall_mem_cons.mpr ⟨jm_P_202, List.forall_mem_cons.mpr ⟨jm_P_203, List.forall_mem_cons.mpr ⟨jm_P_204, List.forall_mem_cons.mpr ⟨jm_P_205, List.forall_mem_cons.mpr ⟨jm_P_206, List.forall_mem_cons.mpr ⟨jm_P_207, List.forall_mem_cons.mpr ⟨jm_P_208, List.forall_mem_cons.mpr ⟨jm_P_209, List.forall_mem_cons.mpr ⟨jm_P_210, List.forall_mem_cons.mpr ⟨jm_P_211, List.forall_mem_cons.mpr ⟨jm_P_212, List.forall_mem_cons.mpr ⟨jm_P_213, List.forall_mem_cons.mpr ⟨jm_P_214, List.forall_mem_cons.mpr ⟨jm_P_215, List.forall_mem_cons.mpr ⟨jm_P_216, List.forall_mem_cons.mpr ⟨jm_P_217, List.forall_mem_cons.mpr ⟨jm_P_218, List.forall_mem_cons.mpr ⟨jm_P_219, List.forall_mem_cons.mpr ⟨jm_P_220, List.forall_mem_cons.mpr ⟨jm_P_221, List.forall_mem_cons.mpr ⟨jm_P_222, List.forall_mem_cons.mpr ⟨jm_P_223, List.forall_mem_cons.mpr ⟨jm_P_224, List.forall_mem_cons.mpr ⟨jm_P_225, List.forall_mem_cons.mpr ⟨jm_P_226, List.forall_mem_cons.mpr ⟨jm_P_227, List.forall_mem_cons.mpr ⟨jm_P_228, List.forall_mem_cons.mpr ⟨jm_P_229, List.forall_mem_cons.mpr ⟨jm_P_230, List.forall_mem_cons.mpr ⟨jm_P_231, List.forall_mem_cons.mpr ⟨jm_P_232, List.forall_mem_cons.mpr ⟨jm_P_233, List.forall_mem_cons.mpr ⟨jm_P_234, List.forall_mem_cons.mpr ⟨jm_P_235, List.forall_mem_cons.mpr ⟨jm_P_236, List.forall_mem_cons.mpr ⟨jm_P_237, List.forall_mem_cons.mpr ⟨jm_P_238, List.forall_mem_cons.mpr ⟨jm_P_239, List.forall_mem_cons.mpr ⟨jm_P_240, List.forall_mem_cons.mpr ⟨jm_P_241, List.forall_mem_cons.mpr ⟨jm_P_242, List.forall_mem_cons.mpr ⟨jm_P_243, List.forall_mem_cons.mpr ⟨jm_P_244, List.forall_mem_cons.mpr ⟨jm_P_245, List.forall_mem_cons.mpr ⟨jm_P_246, List.forall_mem_cons.mpr ⟨jm_P_247, List.forall_mem_cons.mpr ⟨jm_P_248, List.forall_mem_cons.mpr ⟨jm_P_249, List.forall_mem_cons.mpr ⟨jm_P_250, List.forall_mem_cons.mpr ⟨jm_P_251, List.forall_mem_cons.mpr ⟨jm_P_252, List.forall_mem_cons.mpr ⟨jm_P_253, List.forall_mem_cons.mpr ⟨jm_P_254, List.forall_mem_cons.mpr ⟨jm_P_255, List.forall_mem_cons.mpr ⟨jm_P_256, List.forall_mem_cons.mpr ⟨jm_P_257, List.forall_mem_cons.mpr ⟨jm_P_258, List.forall_mem_cons.mpr ⟨jm_P_259, List.forall_mem_cons.mpr ⟨jm_P_260, List.forall_mem_cons.mpr ⟨jm_P_261, List.forall_mem_cons.mpr ⟨jm_P_262, List.forall_mem_cons.mpr ⟨jm_P_263, List.forall_mem_cons.mpr ⟨jm_P_264, List.forall_mem_cons.mpr ⟨jm_P_265, List.forall_mem_cons.mpr ⟨jm_P_266, List.forall_mem_cons.mpr ⟨jm_P_267, List.forall_mem_cons.mpr ⟨jm_P_268, List.forall_mem_cons.mpr ⟨jm_P_269, List.forall_mem_cons.mpr ⟨jm_P_270, List.forall_mem_cons.mpr ⟨jm_P_271, List.forall_mem_cons.mpr ⟨jm_P_272, List.forall_mem_cons.mpr ⟨jm_P_273, List.forall_mem_cons.mpr ⟨jm_P_274, List.forall_mem_cons.mpr ⟨jm_P_275, List.forall_mem_cons.mpr ⟨jm_P_276, List.forall_mem_cons.mpr ⟨jm_P_277, List.forall_mem_cons.mpr ⟨jm_P_278, List.forall_mem_cons.mpr ⟨jm_P_279, List.forall_mem_cons.mpr ⟨jm_P_280, List.forall_mem_cons.mpr ⟨jm_P_281, List.forall_mem_cons.mpr ⟨jm_P_282, List.forall_mem_cons.mpr ⟨jm_P_283, List.forall_mem_cons.mpr ⟨jm_P_284, List.forall_mem_cons.mpr ⟨jm_P_285, List.forall_mem_cons.mpr ⟨jm_P_286, List.forall_mem_cons.mpr ⟨jm_P_287, List.forall_mem_cons.mpr ⟨jm_P_288, List.forall_mem_cons.mpr ⟨jm_P_289, List.forall_mem_cons.mpr ⟨jm_P_290, List.forall_mem_cons.mpr ⟨jm_P_291, List.forall_mem_cons.mpr ⟨jm_P_292, List.forall_mem_cons.mpr ⟨jm_P_293, List.forall_mem_cons.mpr ⟨jm_P_294, List.forall_mem_cons.mpr ⟨jm_P_295, List.forall_mem_cons.mpr ⟨jm_P_296, List.forall_mem_cons.mpr ⟨jm_P_297, List.forall_mem_cons.mpr ⟨jm_P_298, List.forall_mem_cons.mpr ⟨jm_P_299, List.forall_mem_cons.mpr ⟨jm_P_300, List.forall_mem_cons.mpr ⟨jm_P_301, List.forall_mem_cons.mpr ⟨jm_P_302, List.forall_mem_cons.mpr ⟨jm_P_303, List.forall_mem_cons.mpr ⟨jm_P_304, List.forall_mem_cons.mpr ⟨jm_P_305, List.forall_mem_cons.mpr ⟨jm_P_306, List.forall_mem_cons.mpr ⟨jm_P_307, List.forall_mem_cons.mpr ⟨jm_P_308, List.forall_mem_cons.mpr ⟨jm_P_309, List.forall_mem_cons.mpr ⟨jm_P_310, List.forall_mem_cons.mpr ⟨jm_P_311, List.forall_mem_cons.mpr ⟨jm_P_312, List.forall_mem_cons.mpr ⟨jm_P_313, List.forall_mem_cons.mpr ⟨jm_P_314, List.forall_mem_cons.mpr ⟨jm_P_315, List.forall_mem_cons.mpr ⟨jm_P_316, List.forall_mem_cons.mpr ⟨jm_P_317, List.forall_mem_cons.mpr ⟨jm_P_318, List.forall_mem_cons.mpr ⟨jm_P_319, List.forall_mem_nil _⟩⟩⟩⟩⟩⟩⟩⟩⟩⟩⟩⟩⟩⟩⟩⟩⟩⟩⟩⟩⟩⟩⟩⟩⟩⟩⟩⟩⟩⟩⟩⟩⟩⟩⟩⟩⟩⟩⟩⟩⟩⟩⟩⟩⟩⟩⟩⟩⟩⟩⟩⟩⟩⟩⟩⟩⟩⟩⟩⟩⟩⟩⟩⟩⟩⟩⟩⟩⟩⟩⟩⟩⟩⟩⟩⟩⟩⟩⟩⟩⟩⟩⟩⟩⟩⟩⟩⟩⟩⟩⟩⟩⟩⟩⟩⟩⟩⟩⟩⟩⟩⟩⟩⟩⟩⟩⟩⟩⟩⟩⟩⟩⟩⟩⟩⟩⟩⟩⟩⟩⟩⟩⟩⟩⟩⟩⟩⟩⟩⟩⟩⟩⟩⟩⟩⟩⟩⟩⟩⟩⟩⟩⟩⟩⟩⟩⟩⟩⟩⟩⟩⟩⟩⟩⟩⟩⟩⟩⟩⟩⟩⟩⟩⟩⟩⟩⟩⟩⟩⟩⟩⟩⟩⟩⟩⟩⟩⟩⟩⟩⟩⟩⟩⟩⟩⟩⟩⟩⟩⟩⟩⟩⟩⟩⟩⟩⟩⟩⟩⟩⟩⟩⟩⟩⟩⟩⟩⟩⟩⟩⟩⟩⟩⟩⟩⟩⟩⟩⟩⟩⟩⟩⟩⟩⟩⟩⟩⟩⟩⟩⟩⟩⟩⟩⟩⟩⟩⟩⟩⟩⟩⟩⟩⟩⟩⟩⟩⟩⟩⟩⟩⟩⟩⟩⟩⟩⟩⟩⟩⟩⟩⟩⟩⟩⟩⟩⟩⟩⟩⟩⟩⟩⟩⟩⟩⟩⟩⟩⟩⟩⟩⟩⟩⟩⟩⟩⟩⟩⟩⟩⟩⟩⟩⟩⟩⟩⟩⟩⟩⟩⟩⟩⟩⟩⟩⟩⟩⟩⟩⟩⟩⟩⟩⟩⟩⟩⟩⟩⟩⟩

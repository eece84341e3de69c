set_option maxRecDepth 100000 in
theorem jb_obj : Cond.instanceMethod Lib.objectInit ∈ jb ∧ Cond.code Lib.objectInit ⟨#[0xb1]⟩ 1 none ∈ jb := ⟨jb_1 (i := 31) rfl rfl, jb_1 (i := 32) rfl rfl⟩
set_option maxRecDepth 100000 in
theorem jb_acp : Cond.native arraycopyName ∈ jb ∧ Cond.static arraycopyName ∈ jb ∧ Cond.initialized "java/lang/System" ∈ jb := ⟨jb_2 (i := 223) rfl rfl, jb_2 (i := 222) rfl rfl, jb_1 (i := 22) rfl rfl⟩
set_option maxRecDepth 100000 in
theorem jb_min : Cond.static Lib.Math.min.name ∈ jb ∧ Cond.initialized "java/lang/Math" ∈ jb ∧ Cond.code Lib.Math.min.name Lib.Math.min.code 2 (some .int) ∈ jb := ⟨jb_3 (i := 136) rfl rfl, jb_1 (i := 17) rfl rfl, jb_3 (i := 137) rfl rfl⟩
set_option maxRecDepth 100000 in
theorem jb_max : Cond.static Lib.Math.max.name ∈ jb ∧ Cond.initialized "java/lang/Math" ∈ jb ∧ Cond.code Lib.Math.max.name Lib.Math.max.code 2 (some .int) ∈ jb := ⟨jb_3 (i := 21) rfl rfl, jb_1 (i := 17) rfl rfl, jb_3 (i := 22) rfl rfl⟩
set_option maxRecDepth 100000 in
theorem jb_abs : Cond.static Lib.Math.abs.name ∈ jb ∧ Cond.initialized "java/lang/Math" ∈ jb ∧ Cond.code Lib.Math.abs.name Lib.Math.abs.code 1 (some .int) ∈ jb := ⟨jb_5 (i := 165) rfl rfl, jb_1 (i := 17) rfl rfl, jb_5 (i := 166) rfl rfl⟩
set_option maxRecDepth 100000 in
theorem jb_arr_int : Cond.arrayClass .int ∈ jb := jb_1 (i := 90) rfl rfl
set_option maxRecDepth 100000 in
theorem jb_arr_byte : Cond.arrayClass .byte ∈ jb := jb_1 (i := 65) rfl rfl
set_option maxRecDepth 100000 in
theorem jb_arr_boolean : Cond.arrayClass .boolean ∈ jb := jb_2 (i := 82) rfl rfl
set_option maxRecDepth 100000 in
theorem jb_arr_long : Cond.arrayClass .long ∈ jb := jb_9 (i := 54) rfl rfl
set_option maxRecDepth 100000 in
theorem jb_Str : ∀ q ∈ jt_F_13, (q.2.2.1 = 0 → Cond.fieldLink "java/lang/String" q.1 "java/lang/String" "value" "[B" ∈ jb) ∧ (q.2.2.1 = 1 → Cond.fieldLink "java/lang/String" q.1 "java/lang/String" "coder" "B" ∈ jb) := List.forall_mem_cons.mpr ⟨⟨fun _ => jb_9 (i := 72) rfl rfl, fun h => absurd h (by decide)⟩, List.forall_mem_cons.mpr ⟨⟨fun h => absurd h (by decide), fun _ => jb_9 (i := 73) rfl rfl⟩, List.forall_mem_nil _⟩⟩
set_option maxRecDepth 100000 in
theorem jb_F13 : (List.range 17).all (fun o => (jt_F.getD o []).all (fun q => decide (q.2.1 = 13 → o = 13))) = true := by decide +kernel
set_option maxRecDepth 100000 in
theorem jb_st : Cond.fieldLink "java/lang/String" 38 "java/lang/String" "COMPACT_STRINGS" "Z" ∈ jb ∧ Cond.fieldLink "java/lang/String" 1053 "jdk/internal/util/Preconditions" "SIOOBE_FORMATTER" "Ljava/util/function/BiFunction;" ∈ jb := ⟨jb_3 (i := 168) rfl rfl, jb_3 (i := 184) rfl rfl⟩

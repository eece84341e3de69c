/-! THE START: String constants, read off the premises -/
noncomputable def jy_S : List (Nat × Nat × List Int32 × Nat × String) := [(10, 393, [97, 32, 110, 117, 109, 98, 101, 114, 32, 116, 104, 97, 116, 32, 105, 115, 32, 110, 111, 110, 101, 32, 115, 117, 99, 104], 37, "a number that is none such"),
  (8, 84, [103, 97, 116, 101], 67, "gate"),
  (8, 93, [119, 111, 111, 100], 76, "wood"),
  (8, 98, [119, 105, 110, 100], 86, "wind"),
  (8, 102, [114, 97, 105, 110], 97, "rain"),
  (8, 107, [99, 111, 109, 101, 114], 109, "comer"),
  (8, 112, [115, 105, 103, 110, 97, 108], 123, "signal"),
  (4, 70, [108, 101, 97, 115, 116], 139, "least"),
  (4, 80, [109, 111, 115, 116], 155, "most"),
  (4, 93, [115, 109, 111, 107, 101], 171, "smoke"),
  (4, 95, [108, 111, 103, 115], 189, "logs"),
  (4, 101, [104, 111, 117, 114], 246, "hour"),
  (4, 105, [115, 99, 101, 110, 116], 289, "scent"),
  (5, 43, [108, 111, 103], 313, "log"),
  (5, 65, [100, 111, 117, 115, 101], 336, "douse"),
  (5, 69, [97, 103, 97, 105, 110], 388, "again"),
  (10, 386, [110, 111, 32, 115, 117, 99, 104, 32, 103, 97, 116, 101, 44, 32, 119, 111, 111, 100, 44, 32, 99, 111, 109, 101, 114, 44, 32, 115, 105, 103, 110, 97, 108, 32, 111, 114, 32, 108, 111, 103], 416, "no such gate, wood, comer, signal or log")]
noncomputable def jy_A : List (Nat × Nat × Nat × Nat) := [(10, 393, 0, 0), (8, 84, 1, 0), (8, 93, 2, 0), (8, 98, 3, 0), (8, 102, 4, 0), (8, 107, 5, 0), (8, 112, 6, 0), (4, 70, 7, 0), (4, 80, 8, 0), (4, 93, 9, 0), (4, 95, 10, 0), (4, 97, 3, 218), (4, 99, 4, 238), (4, 101, 11, 0), (4, 103, 1, 276), (4, 105, 12, 0), (5, 43, 13, 0), (5, 65, 14, 0), (5, 67, 11, 383), (5, 69, 15, 0), (10, 386, 16, 0)]
noncomputable def jy_fl : List Cond := flatC (Jvm.Cond.and given_1 narrow_1)
noncomputable def jy_q (k : Nat) : Nat × Nat × List Int32 × Nat × String := jy_S.getD k (0, 0, [], 0, "")
noncomputable def jy_tm (q : Nat × Nat × List Int32 × Nat × String) : Term := .string (jn_R q.1) q.2.1
noncomputable def jy_vl (q : Nat × Nat × List Int32 × Nat × String) : Term := .field (jy_tm q) "java/lang/String" "value" "[B"
noncomputable def jy_b1 (q : Nat × Nat × List Int32 × Nat × String) : List Cond := [.exactly (jy_tm q) "java/lang/String", .eq (.field (jy_tm q) "java/lang/String" "coder" "B") (.int 0), .arrayOf (jy_vl q) .byte, .eq (.length (jy_vl q)) (.int (Int32.ofNat q.2.2.1.length))]
noncomputable def jy_b2 (q : Nat × Nat × List Int32 × Nat × String) (j : Nat) : Cond := .eq (.elem (jy_vl q) (.int (Int32.ofNat j))) (.int (q.2.2.1.getD j 0))
noncomputable def jy_b (q : Nat × Nat × List Int32 × Nat × String) : List Cond := jy_b1 q ++ (List.range q.2.2.1.length).map (jy_b2 q)
set_option maxRecDepth 100000 in
theorem jy_S_ok : (List.range 17).all (fun k => decide ((jy_fl.drop (jy_q k).2.2.2.1).take (4 + (jy_q k).2.2.1.length) = jy_b (jy_q k)) && decide ((jy_q k).2.2.1.length < 2 ^ 31)) = true := by decide +kernel
set_option maxRecDepth 100000 in
theorem jy_A_ok : jy_A.all (fun q => decide (q.2.2.1 < 17) && decide (Cond.stringRef (jn_R q.1) q.2.1 (jy_q q.2.2.1).2.2.2.2 ∈ lw_tbl) && (decide (q.2.2.2 = 0 ∧ q.1 = (jy_q q.2.2.1).1 ∧ q.2.1 = (jy_q q.2.2.1).2.1) || decide (jy_fl[q.2.2.2]? = some (Cond.eq (jy_tm (jy_q q.2.2.1)) (.string (jn_R q.1) q.2.1))))) = true := by decide +kernel
set_option maxRecDepth 100000 in
theorem jy_K_ok : (List.range 17).all (fun o => (jt_K.getD o []).all (fun q => match q.2.1 with
  | .inl _ => true
  | .inr k => decide (k < 21 → jy_A.any (fun z => decide (z.1 = o ∧ z.2.1 = q.1 ∧ z.2.2.1 = k)) = true))) = true := by decide +kernel
set_option maxRecDepth 100000 in
theorem jy_fl_ok : ([.isRef (.static "java/lang/Throwable" "UNASSIGNED_STACK" "[Ljava/lang/StackTraceElement;"), .isRef (.static "java/lang/Throwable" "SUPPRESSED_SENTINEL" "Ljava/util/List;"), .eq (.static "java/lang/String" "COMPACT_STRINGS" "Z") (.int 1), .isRef (.static "jdk/internal/util/Preconditions" "SIOOBE_FORMATTER" "Ljava/util/function/BiFunction;"), .not (.castable "java/lang/IllegalArgumentException" "java/util/NoSuchElementException")] : List Cond).all (fun q => decide (q ∈ jy_fl)) = true := by decide +kernel
set_option maxRecDepth 100000 in
theorem jy_tb_ok : ([.laysStatic "java/lang/Throwable" "UNASSIGNED_STACK" "[Ljava/lang/StackTraceElement;", .laysStatic "java/lang/Throwable" "SUPPRESSED_SENTINEL" "Ljava/util/List;", .laysStatic "java/lang/String" "COMPACT_STRINGS" "Z", .laysStatic "jdk/internal/util/Preconditions" "SIOOBE_FORMATTER" "Ljava/util/function/BiFunction;", .initialized "java/lang/Throwable", .initialized "java/lang/String", .initialized "jdk/internal/util/Preconditions", .arrayOver (.object "SmokeGates$History"), .arrayOver (.array .int)] : List Cond).all (fun q => decide (q ∈ lw_tbl)) = true := by decide +kernel

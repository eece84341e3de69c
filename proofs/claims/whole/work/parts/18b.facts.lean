/-! facts of the program's code, by kernel -/
set_option maxRecDepth 100000 in
theorem jl_lok_all : jt_Ml.all (fun M => M.2.2.2.1.all (fun q => jl_lok q.2.1 q.2.2)) = true := by decide +kernel
/-- where a 'new' makes an exception, the throw's own five instructions stand -/
noncomputable def jm_thr (M : JMeth) (q : Nat × Instr × Nat) : Bool := match q.2.1 with
  | .new idx => (match jt_T.2.2.1 M.1 idx with
    | some ci => decide (ci < 100) || (decide (M.1 = 10) && decide (M.2.2.2.2.1 = []) && ((decide (ci = 100) && decide (idx = 384) && decide (M.2.2.2.1.lookup (q.1 + 4) = some (.ldc_w 386, 3)) && decide (M.2.2.2.1.lookup (q.1 + 7) = some (.invokespecial 388, 3))) || (decide (ci = 101) && decide (idx = 391) && decide (M.2.2.2.1.lookup (q.1 + 4) = some (.ldc_w 393, 3)) && decide (M.2.2.2.1.lookup (q.1 + 7) = some (.invokespecial 395, 3)))) && decide (M.2.2.2.1.lookup (q.1 + 3) = some (.dup, 1)) && decide (M.2.2.2.1.lookup (q.1 + 10) = some (.athrow, 1)))
    | none => true)
  | _ => true
set_option maxRecDepth 100000 in
theorem jm_thr_all : jt_Ml.all (fun M => M.2.2.2.1.all (jm_thr M)) = true := by decide +kernel
/-- a table of handlers: none, or one, or two; every call stands within -/
noncomputable def jm_hok (m : Nat) : Bool := match jm_hh m with
  | [] => true
  | [(s, e, _, 31)] => (jt_Ml[m]?).elim false (fun M => decide (M.1 = 12) && M.2.2.2.1.all (fun q => match q.2.1 with
    | .invokevirtual _ => decide (s ≤ q.1 ∧ q.1 < e)
    | .invokestatic _ => decide (s ≤ q.1 ∧ q.1 < e)
    | _ => true))
  | [(s, e, _, 13)] => (jt_Ml[m]?).elim false (fun M => decide (M.1 = 12) && M.2.2.2.1.all (fun q => match q.2.1 with
    | .invokevirtual _ => decide (s ≤ q.1 ∧ q.1 < e)
    | .invokestatic _ => decide (s ≤ q.1 ∧ q.1 < e)
    | _ => true))
  | [(s, e, _, 31), (s2, e2, _, 13)] => (jt_Ml[m]?).elim false (fun M => decide (M.1 = 12) && M.2.2.2.1.all (fun q => match q.2.1 with
    | .invokevirtual _ => decide (s ≤ q.1 ∧ q.1 < e ∧ s2 ≤ q.1 ∧ q.1 < e2)
    | .invokestatic _ => decide (s ≤ q.1 ∧ q.1 < e ∧ s2 ≤ q.1 ∧ q.1 < e2)
    | _ => true))
  | _ => false
set_option maxRecDepth 100000 in
theorem jm_hok_all : (List.range 320).all jm_hok = true := by decide +kernel
set_option maxRecDepth 100000 in
/-- no call goes to the law itself -/
theorem jt_Mt_ok : (List.range 17).all (fun o => (jt_Mt.getD o []).all (fun q => decide (q.2.1 < 320 ∨ 9000 ≤ q.2.1) && decide (q.2.2.2 = 1 → q.2.1 < 320))) = true := by decide +kernel
set_option maxRecDepth 100000 in
/-- the words that a throw needs stand in the tables -/
theorem jb_at0 : (jx_own.filter vx_no).all (fun w => decide (w ∈ lw_tbl) && (goodWord w || jw_dc w)) = true := by decide +kernel
set_option maxRecDepth 100000 in
theorem jb_at1 : (vx_atS "SmokeGates" 395 "java/lang/IllegalArgumentException" ["java/lang/RuntimeException", "java/lang/Exception"]).all (fun w => decide (w ∈ lw_tbl) && (goodWord w || jw_dc w)) = true := by decide +kernel
set_option maxRecDepth 100000 in
theorem jb_ini2 : (["java/util/NoSuchElementException", "java/lang/IllegalArgumentException"]).all (fun c => decide (Cond.initialized c ∈ lw_tbl)) = true := by decide +kernel

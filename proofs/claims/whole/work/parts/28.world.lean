/-! THE START: the world -/
theorem jy_eqR {args : Array Value} {s : State} {t u : Term} {a : Nat} (h : (Cond.eq t u).before args s = true) (ht : t.eval args s none [] s = some (.ref a)) : u.eval args s none [] s = some (.ref a) := by
  cases hv : u.eval args s none [] s with
  | none => simp [Cond.before, Cond.holds, Cond.value, hv, ht] at h
  | some w =>
    simp only [Cond.before, Cond.holds, Cond.value, hv, ht] at h
    cases w <;> simp_all
theorem jy_blk {args : Array Value} {s : State} (hgv : (Jvm.Cond.and given_1 narrow_1).before args s = true) {k : Nat} (hk : k < 17) : (∀ w ∈ jy_b (jy_q k), w.before args s = true) ∧ (jy_q k).2.2.1.length < 2 ^ 31 := by
  have h := List.all_eq_true.mp jy_S_ok k (List.mem_range.mpr hk)
  simp only [Bool.and_eq_true, decide_eq_true_eq] at h
  refine ⟨fun w hw => flat_of_before _ hgv w ?_, h.2⟩
  rw [← h.1] at hw
  exact List.mem_of_mem_drop (List.mem_of_mem_take hw)
theorem jy_str {args : Array Value} {s : State} (hgv : (Jvm.Cond.and given_1 narrow_1).before args s = true) : ∃ ad : Nat → Nat × Nat, ∀ k : Nat, k < 17 → (jy_tm (jy_q k)).eval args s none [] s = some (.ref (ad k).1) ∧ va_O "java/lang/String" (ad k).1 (fun q => s.heap.size ≤ q) s s.heap ∧ va_OF "java/lang/String" "coder" "B" (.int 0) (ad k).1 (fun q => s.heap.size ≤ q) s s.heap ∧ va_OF "java/lang/String" "value" "[B" (.ref (ad k).2) (ad k).1 (fun q => s.heap.size ≤ q) s s.heap ∧ va_T .byte (ad k).2 (jy_q k).2.2.1.length (fun j => .int ((jy_q k).2.2.1.getD j 0)) (fun q => s.heap.size ≤ q) s s.heap := by
  have hA : ∀ a : Nat, a < s.heap.size → ¬ (fun q => s.heap.size ≤ q) a := fun a h => Nat.not_le.mpr h
  refine Classical.axiomOfChoice (r := fun (k : Nat) (ad : Nat × Nat) => k < 17 → (jy_tm (jy_q k)).eval args s none [] s = some (.ref ad.1) ∧ va_O "java/lang/String" ad.1 (fun q => s.heap.size ≤ q) s s.heap ∧ va_OF "java/lang/String" "coder" "B" (.int 0) ad.1 (fun q => s.heap.size ≤ q) s s.heap ∧ va_OF "java/lang/String" "value" "[B" (.ref ad.2) ad.1 (fun q => s.heap.size ≤ q) s s.heap ∧ va_T .byte ad.2 (jy_q k).2.2.1.length (fun j => .int ((jy_q k).2.2.1.getD j 0)) (fun q => s.heap.size ≤ q) s s.heap) (fun k => ?_)
  by_cases hk : k < 17
  · obtain ⟨hb, hN⟩ := jy_blk hgv hk
    have h1 : ∀ w ∈ jy_b1 (jy_q k), w.before args s = true := fun w hw => hb w (List.mem_append_left _ hw)
    have h2 : ∀ j, j < (jy_q k).2.2.1.length → (jy_b2 (jy_q k) j).before args s = true := fun j hj => hb _ (List.mem_append_right _ (List.mem_map.mpr ⟨j, List.mem_range.mpr hj, rfl⟩))
    have hex : (Cond.exactly (jy_tm (jy_q k)) "java/lang/String").before args s = true := h1 _ (by unfold jy_b1; exact List.mem_cons_self)
    have hco : (Cond.eq (.field (jy_tm (jy_q k)) "java/lang/String" "coder" "B") (.int 0)).before args s = true := h1 _ (by unfold jy_b1; exact List.mem_cons_of_mem _ List.mem_cons_self)
    have har : (Cond.arrayOf (jy_vl (jy_q k)) .byte).before args s = true := h1 _ (by unfold jy_b1; exact List.mem_cons_of_mem _ (List.mem_cons_of_mem _ List.mem_cons_self))
    have hle : (Cond.eq (.length (jy_vl (jy_q k))) (.int (Int32.ofNat (jy_q k).2.2.1.length))).before args s = true := h1 _ (by unfold jy_b1; exact List.mem_cons_of_mem _ (List.mem_cons_of_mem _ (List.mem_cons_of_mem _ List.mem_cons_self)))
    obtain ⟨a, c, cA, kA, q1, q2, q3, q4, q5, q6, -⟩ := Cond.exactly_spec (args := args) (first := s) (o := none) (s := s) (idx := []) (t := jy_tm (jy_q k)) (cls := "java/lang/String") hex
    obtain ⟨t, ht, hT⟩ := va_Tof (f := fun j => .int ((jy_q k).2.2.1.getD j 0)) (A := fun q => s.heap.size ≤ q) hN har (va_eqt hle) (fun j hj => va_eqt (h2 j hj)) hA
    exact ⟨(a, t), fun _ => ⟨q1, ⟨cA, q3, q5, by rw [q6]; exact q2, hA a (Array.getElem?_eq_some_iff.mp q3).1⟩, vk_OFof q1 (va_eqt hco) hA, vk_OFof q1 ht hA, hT⟩⟩
  · exact ⟨(0, 0), fun h => absurd h hk⟩
noncomputable def jy_ad (b : Nat) (ad : Nat → Nat × Nat) (a : Nat) : Nat := if a < 17 then (ad a).1 else if 21 ≤ a ∧ a < 38 then (ad (a - 21)).2 else b
noncomputable def jy_k (L a : Nat) : Nat × Nat := if a < 17 then (31, 0) else if 21 ≤ a ∧ a < 38 then (32, (jy_q (a - 21)).2.2.1.length) else (30, L)
noncomputable def jy_kd (L : Nat) : List (Nat × Nat) := (List.range 64).map (jy_k L)
noncomputable def jy_ct (xs : Nat → Int32) (a j : Nat) : Int32 := if 21 ≤ a ∧ a < 38 then (jy_q (a - 21)).2.2.1.getD j 0 else xs j
noncomputable def jy_h (L : Nat) (xs : Nat → Int32) : LH := (jy_kd L, jy_ct xs, fun _ _ => none, fun _ _ => 0)
theorem jy_kd_at {L a : Nat} {q : Nat × Nat} (h : (jy_kd L)[a]? = some q) : a < 64 ∧ q = jy_k L a := by
  unfold jy_kd at h
  rw [List.getElem?_map] at h
  by_cases ha : a < 64
  · rw [List.getElem?_range ha] at h
    exact ⟨ha, (Option.some.inj h).symm⟩
  · rw [List.getElem?_eq_none (by simpa using Nat.le_of_not_lt ha)] at h
    cases h
theorem jy_arr {args : Array Value} {s : State} {ty : FieldType} (h : (Cond.arrayClass ty).before args s = true) : ∃ cA, ArrOfT s cA ty ∧ s.vm.findClass ("[" ++ ty.toString) = some cA := by
  obtain ⟨c, k, comp, h1, h2, h3⟩ := Cond.arrayClass_spec h
  exact ⟨c, fun n z => ⟨fun k h => (by cases h), k, h2, comp, h3⟩, h1⟩
theorem jy_sr {o i k : Nat} (hT : jt_T.2.2.2.1 o i = some (.inr k)) (hk : k < 21) : ∃ e, (o, i, k, e) ∈ jy_A := by
  have h1 : ((jt_K.getD o []).lookup i).map (fun q => q.1) = some (.inr k) := hT
  have ho : o < 17 := by
    rcases Nat.lt_or_ge o 17 with q | q
    · exact q
    · have : jt_K.getD o [] = [] := by
        rw [List.getD_eq_getElem?_getD, List.getElem?_eq_none (by exact q)]; rfl
      rw [this] at h1
      cases h1
  cases hl : (jt_K.getD o []).lookup i with
  | none => rw [hl] at h1; cases h1
  | some q =>
    rw [hl] at h1
    obtain ⟨q1, q2⟩ := q
    cases h1
    have := List.all_eq_true.mp (List.all_eq_true.mp jy_K_ok o (List.mem_range.mpr ho)) _ (jb_lookup hl)
    simp only [decide_eq_true_eq] at this
    obtain ⟨z, hz, he⟩ := List.any_eq_true.mp (this hk)
    simp only [decide_eq_true_eq] at he
    obtain ⟨z1, z2, z3, z4⟩ := z
    obtain ⟨rfl, rfl, rfl⟩ := he
    exact ⟨z4, hz⟩
theorem jy_world {p : Program} {s : State} {m : MethodId} {meth : Method} {c : Code} {b L : Nat} {xs : Nat → Int32} (C0 : lw_At p s m meth c b L xs) : ∃ w : JW, w.1 = s.heap.size ∧ w.2.1 63 = b ∧ jw_EE w s s.heap ∧ jw_Rep w (jy_h L xs) s.heap := by
  obtain ⟨hx, hb, hr, hml, hown, hts, hX, hbl, hlk, hgv⟩ := C0
  have hA : ∀ a : Nat, a < s.heap.size → ¬ (fun q => s.heap.size ≤ q) a := fun a h => Nat.not_le.mpr h
  have hjb : ∀ w ∈ jb, w.before #[Value.ref b] s = true := fun w hw => hts w (List.mem_filter.mp hw).1
  obtain ⟨ad, had⟩ := jy_str hgv
  have hfl := flat_of_before _ hgv
  have f1 : ∀ q, q ∈ ([.isRef (.static "java/lang/Throwable" "UNASSIGNED_STACK" "[Ljava/lang/StackTraceElement;"), .isRef (.static "java/lang/Throwable" "SUPPRESSED_SENTINEL" "Ljava/util/List;"), .eq (.static "java/lang/String" "COMPACT_STRINGS" "Z") (.int 1), .isRef (.static "jdk/internal/util/Preconditions" "SIOOBE_FORMATTER" "Ljava/util/function/BiFunction;"), .not (.castable "java/lang/IllegalArgumentException" "java/util/NoSuchElementException")] : List Cond) → q.before #[Value.ref b] s = true := fun q hq => hfl q (of_decide_eq_true (List.all_eq_true.mp jy_fl_ok q hq))
  have f2 : ∀ q, q ∈ ([.laysStatic "java/lang/Throwable" "UNASSIGNED_STACK" "[Ljava/lang/StackTraceElement;", .laysStatic "java/lang/Throwable" "SUPPRESSED_SENTINEL" "Ljava/util/List;", .laysStatic "java/lang/String" "COMPACT_STRINGS" "Z", .laysStatic "jdk/internal/util/Preconditions" "SIOOBE_FORMATTER" "Ljava/util/function/BiFunction;", .initialized "java/lang/Throwable", .initialized "java/lang/String", .initialized "jdk/internal/util/Preconditions", .arrayOver (.object "SmokeGates$History"), .arrayOver (.array .int)] : List Cond) → q.before #[Value.ref b] s = true := fun q hq => hts q (of_decide_eq_true (List.all_eq_true.mp jy_tb_ok q hq))
  have e1 := va_eqt (f1 _ (List.mem_cons_of_mem _ (List.mem_cons_of_mem _ List.mem_cons_self)))
  have zC : va_Z "java/lang/String" "COMPACT_STRINGS" "Z" (.int 1) (fun q => s.heap.size ≤ q) s s.heap := va_Zof (f2 _ (by simp)) (f2 _ (by simp)) e1 hA
  have zU := vx_Zqof (A := fun q => s.heap.size ≤ q) (f2 (.laysStatic "java/lang/Throwable" "UNASSIGNED_STACK" "[Ljava/lang/StackTraceElement;") (by simp)) (f2 _ (by simp)) (f1 _ (by simp)) hA
  have zV := vx_Zqof (A := fun q => s.heap.size ≤ q) (f2 (.laysStatic "java/lang/Throwable" "SUPPRESSED_SENTINEL" "Ljava/util/List;") (by simp)) (f2 _ (by simp)) (f1 _ (by simp)) hA
  have zP : ∃ v : Value, v.category = 1 ∧ va_Z "jdk/internal/util/Preconditions" "SIOOBE_FORMATTER" "Ljava/util/function/BiFunction;" v (fun q => s.heap.size ≤ q) s s.heap := by
    rcases va_Zqof (A := fun q => s.heap.size ≤ q) (f2 (.laysStatic "jdk/internal/util/Preconditions" "SIOOBE_FORMATTER" "Ljava/util/function/BiFunction;") (by simp)) (f2 _ (by simp)) (f1 _ (by simp)) hA with h | ⟨t, h⟩
    · exact ⟨.null, rfl, h⟩
    · exact ⟨.ref t, rfl, h⟩
  obtain ⟨v, hv1, hv2⟩ := zP
  have kK : ∀ ci : Nat, ∃ D : ClassId × (Nat → Nat), ci < 12 → u_Kn s (jn_R ci) (jn_T ci) (jn_N ci) D.1 D.2 := fun ci => by
    by_cases h : ci < 12
    · obtain ⟨cC, iS, hk⟩ := u_known hjb (jb_L ci h) (hjb _ (jb_N ci h).1)
      exact ⟨(cC, iS), fun _ => hk⟩
    · exact ⟨(default, fun _ => 0), fun q => absurd q h⟩
  obtain ⟨D, hD⟩ := Classical.axiomOfChoice kK
  obtain ⟨c20, a20, n20⟩ := jy_arr (hjb _ jb_arr_int)
  obtain ⟨c21, a21, n21⟩ := jy_arr (hjb _ jb_arr_byte)
  obtain ⟨c22, a22, n22⟩ := jy_arr (hjb _ jb_arr_boolean)
  obtain ⟨c23, a23, n23⟩ := jy_arr (hjb _ jb_arr_long)
  have o24 : (Cond.arrayOver (.array .int)).before #[Value.ref b] s = true := f2 _ (by simp)
  have o25 : (Cond.arrayOver (.object "SmokeGates$History")).before #[Value.ref b] s = true := f2 _ (by simp)
  obtain ⟨comp4, c24, k24, p1, p2, p3, p4, p5⟩ := arrayOverA_spec o24
  obtain ⟨comp5, c25, k25, r1, r2, r3, r4, r5⟩ := Cond.arrayOver_spec o25
  refine ⟨(s.heap.size, jy_ad b ad, v, (fun ci => (D ci).1, fun ci => (D ci).2), fun k => if k = 20 then c20 else if k = 21 then c21 else if k = 22 then c22 else if k = 23 then c23 else if k = 24 then c24 else c25, jy_ct xs, jy_kd L), rfl, rfl, ⟨⟨⟨?_, ?_⟩, ?_, va_AO.of o25, o24, ?_⟩, ⟨?_, va_Nc.of (f1 _ (by simp)), zU, zV⟩, hv1⟩, ?_⟩
  · intro ci q hq
    have hci : ci < 12 := by
      have := (List.getElem?_eq_some_iff.mp hq).1
      simpa [jn_cl] using this
    rw [jn_cl_at hci] at hq
    cases hq
    exact hD ci hci
  · intro k q hk
    have hk6 : k < 6 := (List.getElem?_eq_some_iff.mp hk).1
    rcases k with _ | _ | _ | _ | _ | _ | k
    · cases hk; exact ⟨a20, n20⟩
    · cases hk; exact ⟨a21, n21⟩
    · cases hk; exact ⟨a22, n22⟩
    · cases hk; exact ⟨a23, n23⟩
    · cases hk; exact ⟨fun n z => ⟨fun k h => (by cases h), k24, p3, comp4, p4⟩, p5⟩
    · cases hk; exact ⟨fun n z => ⟨fun k h => (by cases h), k25, r3, comp5, r4⟩, k25, comp5, r3, r4, r1, r5⟩
    · exact absurd hk6 (by omega)
  · intro q hq hn
    refine va_Nw.of ?_ (hts q hq)
    cases q <;> simp [jw_nest] at hn <;> rfl
  · refine ⟨fun a q ha hq => ?_, fun a n hq => ?_, fun a n hq => ?_, fun a n hq => ?_, zC, hv2, fun o i k hT hk => ?_⟩
    · obtain ⟨-, rfl⟩ := jy_kd_at hq
      unfold jy_k
      split
      · decide
      · split <;> simp
    · obtain ⟨-, he⟩ := jy_kd_at hq
      unfold jy_k at he
      split at he
      · rename_i h17
        obtain ⟨-, h1, h2, h3, -⟩ := had a h17
        have e1 : jy_ad b ad a = (ad a).1 := by unfold jy_ad; rw [if_pos h17]
        have e2 : jy_ad b ad (a + 21) = (ad a).2 := by unfold jy_ad; rw [if_neg (by omega), if_pos (by omega), Nat.add_sub_cancel]
        show va_O "java/lang/String" (jy_ad b ad a) _ _ _ ∧ va_OF "java/lang/String" "coder" "B" (.int 0) (jy_ad b ad a) _ _ _ ∧ va_OF "java/lang/String" "value" "[B" (.ref (jy_ad b ad (a + 21))) (jy_ad b ad a) _ _ _ ∧ _
        rw [e1, e2]
        exact ⟨h1, h2, h3, by omega⟩
      · split at he <;> simp at he
    · obtain ⟨-, he⟩ := jy_kd_at hq
      unfold jy_k at he
      split at he
      · simp at he
      · split at he
        · rename_i h17 h38
          have hn : n = (jy_q (a - 21)).2.2.1.length := by simpa using he
          obtain ⟨-, -, -, -, h4⟩ := had (a - 21) (by omega)
          have e2 : jy_ad b ad a = (ad (a - 21)).2 := by unfold jy_ad; rw [if_neg h17, if_pos h38]
          have e3 : ∀ j, jy_ct xs a j = (jy_q (a - 21)).2.2.1.getD j 0 := fun j => by unfold jy_ct; rw [if_pos h38]
          show va_T .byte (jy_ad b ad a) n (fun j => .int (jy_ct xs a j)) _ _ _
          rw [e2, hn]
          simp only [e3]
          exact h4
        · simp at he
    · obtain ⟨-, he⟩ := jy_kd_at hq
      unfold jy_k at he
      split at he
      · simp at he
      · split at he
        · simp at he
        · rename_i h17 h38
          have hn : n = L := by simpa using he
          have e2 : jy_ad b ad a = b := by unfold jy_ad; rw [if_neg h17, if_neg h38]
          have e3 : jy_ct xs a = xs := by funext j; unfold jy_ct; rw [if_neg h38]
          show va_X (jy_ad b ad a) n (jy_ct xs a) _ _ ∧ jy_ad b ad a < _ ∧ jy_ad b ad a < _
          rw [e2, e3, hn]
          exact ⟨hX, hbl, hbl⟩
    · obtain ⟨e, he⟩ := jy_sr hT hk
      have := List.all_eq_true.mp jy_A_ok _ he
      simp only [Bool.and_eq_true, Bool.or_eq_true, decide_eq_true_eq] at this
      obtain ⟨⟨h17, hm⟩, hc⟩ := this
      have e1 : jy_ad b ad k = (ad k).1 := by unfold jy_ad; rw [if_pos h17]
      refine ⟨_, vk_R.of (hts _ hm) ?_⟩
      show (Term.string (jn_R o) i).eval #[Value.ref b] s none [] s = some (.ref (jy_ad b ad k))
      rw [e1]
      obtain ⟨h1, -⟩ := had k h17
      rcases hc with ⟨-, h2, h3⟩ | hc
      · rw [h2, h3]; exact h1
      · exact jy_eqR (hfl _ (List.mem_of_getElem? hc)) h1
  · intro q hq hn
    refine va_Nw.of ?_ (hts q hq)
    cases q <;> simp [jw_dc] at hn <;> rfl
  · have hlen : (jy_kd L).length = 64 := by simp [jy_kd]
    refine ⟨?_, fun a h64 hal => ?_, fun _ => ?_, fun a ha => ⟨rfl, rfl⟩⟩
    · show 64 ≤ (jy_kd L).length
      rw [hlen]; exact Nat.le_refl _
    · exfalso
      have : a < (jy_kd L).length := hal
      omega
    · show s.heap.size = s.heap.size + ((jy_kd L).length - 64)
      rw [hlen]
      rfl

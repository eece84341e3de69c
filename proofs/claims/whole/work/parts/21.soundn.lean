/-! THE LIGHT MACHINE IS SOUND, 13: a method's run -/
theorem jl_run_le {T : JTab} {G : JG} {M : JMeth} (hG : ∀ m as h o, G m as h o → jl_le h o.2) : ∀ (n pc : Nat) (ls st : List Value) (h : LH) (o : JOut), jl_run T G M n pc ls st h o → jl_le h o.2
  | 0, _, _, _, _, _, hr => hr.elim
  | n + 1, pc, ls, st, h, o, hr => by
    unfold jl_run at hr
    split at hr
    · exact hr.elim
    · rename_i i len hl
      split at hr
      · exact hr.elim
      · rename_i pc' ls' st' h' hs
        exact (jl_step_le hs).tr (jl_run_le hG n _ _ _ _ _ hr)
      · rw [hr]; exact jl_le.rf
      · rename_i how m as rest hs
        obtain ⟨o1, hg, hr⟩ := hr
        refine (hG _ _ _ _ hg).tr ?_
        split at hr
        · exact jl_run_le hG n _ _ _ _ _ hr
        · obtain ⟨-, hr⟩ := hr
          split at hr
          · split at hr
            · exact jl_run_le hG n _ _ _ _ _ hr
            · exact hr.elim
          · rw [hr.2]; exact jl_le.rf
      · rw [hr.2]; exact jl_le.junk
theorem jl_Sem_le {T : JTab} {Ms : Nat → Option JMeth} : ∀ (d m : Nat) (as : List Value) (h : LH) (o : JOut), jl_Sem T Ms d m as h o → jl_le h o.2
  | 0, _, _, _, _, hr => hr.elim
  | d + 1, m, as, h, o, ⟨M, _, _, _, n, hr⟩ => jl_run_le (jl_Sem_le d) n _ _ _ _ _ hr
theorem jl_Sem_320 {d m : Nat} {as : List Value} {h : LH} {o : JOut} (hs : jl_Sem jt_T jt_Ms d m as h o) : m < 321 := by
  cases d with
  | zero => exact hs.elim
  | succ d =>
    obtain ⟨M, hM, -⟩ := hs
    have h1 : jt_Ml[m]? = some M := hM
    have h2 := (List.getElem?_eq_some_iff.mp h1).1
    have h3 : jt_Ml.length = 321 := by decide +kernel
    omega
theorem jl_go_inr {pc : Nat} {off : Int} {ls st : List Value} {h : LH} {x : Option Value ⊕ ((Nat × Nat × List Value × List Value) ⊕ Nat)} (hs : jl_go pc off ls st h = some (.inr x)) : False := by
  unfold jl_go at hs
  split at hs <;> cases hs
theorem jl_br_inr {b : Bool} {pc len : Nat} {off : Int} {ls st : List Value} {h : LH} {x : Option Value ⊕ ((Nat × Nat × List Value × List Value) ⊕ Nat)} (hs : jl_br b pc off len ls st h = some (.inr x)) : False := by
  unfold jl_br jl_next at hs
  split at hs
  · split at hs <;> cases hs
  · cases hs
theorem jl_el_inr {q : Option Int} {pc : Nat} {ls st : List Value} {h : LH} {x : Option Value ⊕ ((Nat × Nat × List Value × List Value) ⊕ Nat)} (hs : q.elim none (fun off => jl_go pc off ls st h) = some (.inr x)) : False := by
  cases q with
  | none => cases hs
  | some off => exact jl_go_inr hs
section JSN
variable {w : JW} {p : Program} {l : Launch} {e : Env} {R : Room} {s : State} {m : MethodId} {args : Array Value} {below : List Frame} {meth : Method} {c : Code} {nL n0 s0 d : Nat} {Q : State → Prop} {cc : ByteArray}
set_option maxHeartbeats 4000000 in
theorem jw_run {M : JMeth} {o : JOut} (C : jw_Cx w p R s m args meth c cc nL M.1 M.2.1) (hEE : jw_EE w s s.heap) (hdec : ∀ q ∈ M.2.2.2.1, decode cc q.1 = .ok (q.2.1, q.2.2)) (hlok : M.2.2.2.1.all (fun q => jl_lok q.2.1 q.2.2) = true) (hinv : M.2.2.2.1.all (jm_inv M) = true)
    (hfr : d + 8 + 1 ≤ R.frames) (hlo : 60 * d + 300 + 60 ≤ R.locals) (hG : ∀ (mi : Nat) (as : List Value) (h : LH) (o : JOut), jl_Sem jt_T jt_Ms d mi as h o → mi < 320 → jw_Met l w d mi as h o) (hcap : o.2.1.length - n0 ≤ R.cells ∧ jl_sl o.2 - s0 ≤ R.slots)
    (HR : ∀ (pc len : Nat) (i : Instr) (ls st : List Value) (h : LH) (v : Option Value), (pc, i, len) ∈ M.2.2.2.1 → jl_lok i len = true → jl_step jt_T M.1 M.2.1 M.2.2.1 i len pc ls st h = some (.inr (.inl v)) → o = (.inl v, h) → jw_J w p l e R s m args below meth c nL n0 s0 Q pc ls st h)
    (HT : ∀ (pc len : Nat) (i : Instr) (ls st : List Value) (h : LH) (k : Nat), (pc, i, len) ∈ M.2.2.2.1 → jl_step jt_T M.1 M.2.1 M.2.2.1 i len pc ls st h = some (.inr (.inr (.inr k))) → M.2.2.2.2.1 = [] → o = (.inr k, jl_junk h 6) → n0 ≤ h.1.length → s0 ≤ jl_sl h → jw_J w p l e R s m args below meth c nL n0 s0 Q pc ls st h)
    (HX : ∀ (pc len : Nat) (i : Instr) (ls rest : List Value) (h : LH) (k : Nat), (pc, i, len) ∈ M.2.2.2.1 → M.2.2.2.2.1 = [] → o = (.inr k, h) → ∀ (H : Heap) (locs : List Loc) (lsA : Array Slot) (q : Addr) (ce : Cell), jw_Rep w h H → jw_LR w lsA nL ls → va_S (fun q => w.1 ≤ q) s.heap H locs → H[q]? = some ce → ce.vm = .none → s.vm.findClass (jw_En k) = some ce.cls → vx_W p l e R s m args below meth c H locs (h.1.length - n0) (jl_sl h - s0) Q (F0 m pc lsA (rest.map (jw_tv w))) q)
    (HC : ∀ (pc len how idx : Nat) (i : Instr) (ls ls' rest : List Value) (h : LH) (k hp pc' : Nat), (pc, i, len) ∈ M.2.2.2.1 → ((how = 1 ∧ i = .invokespecial idx) ∨ (how = 2 ∧ i = .invokestatic idx) ∨ (how = 3 ∧ i = .invokevirtual idx)) → how ≠ 1 → M.2.2.2.2.1.lookup k = some hp → jl_catch M hp ls = some (pc', ls') → jw_J w p l e R s m args below meth c nL n0 s0 Q pc' ls' [] h → ∀ (H : Heap) (locs : List Loc) (lsA : Array Slot) (q : Addr) (ce : Cell), jw_Rep w h H → jw_LR w lsA nL ls → va_S (fun q => w.1 ≤ q) s.heap H locs → H[q]? = some ce → ce.vm = .none → s.vm.findClass (jw_En k) = some ce.cls → vx_W p l e R s m args below meth c H locs (h.1.length - n0) (jl_sl h - s0) Q (F0 m pc lsA (rest.map (jw_tv w))) q) :
    ∀ (n pc : Nat) (ls st : List Value) (h : LH), jl_run jt_T (jl_Sem jt_T jt_Ms d) M n pc ls st h o → n0 ≤ h.1.length → s0 ≤ jl_sl h → jw_J w p l e R s m args below meth c nL n0 s0 Q pc ls st h := by
  intro n
  induction n with
  | zero => intro pc ls st h hr; exact hr.elim
  | succ n ih =>
    intro pc ls st h hr hn0 hs0
    have hmono : ∀ {pc : Nat} {ls st : List Value} {h : LH}, jl_run jt_T (jl_Sem jt_T jt_Ms d) M n pc ls st h o → jl_le h o.2 := fun hr => jl_run_le (jl_Sem_le d) n _ _ _ _ _ hr
    unfold jl_run at hr
    split at hr
    · exact hr.elim
    · rename_i i len hlk
      have hmem : (pc, i, len) ∈ M.2.2.2.1 := jb_lookup hlk
      have hd : decode cc pc = .ok (i, len) := hdec (pc, i, len) hmem
      have hlk9 : jl_lok i len = true := List.all_eq_true.mp hlok (pc, i, len) hmem
      have hiv : jm_inv M (pc, i, len) = true := List.all_eq_true.mp hinv (pc, i, len) hmem
      split at hr
      · exact hr.elim
      · rename_i pc' ls' st' h' hs
        have hle := jl_step_le hs
        have hle2 := hmono hr
        refine jw_step C hn0 hs0 ⟨?_, ?_⟩ hlk9 hd hs (ih _ _ _ _ hr (Nat.le_trans hn0 hle.1) (Nat.le_trans hs0 hle.2))
        · exact Nat.le_trans (Nat.sub_le_sub_right hle2.1 _) hcap.1
        · exact Nat.le_trans (Nat.sub_le_sub_right hle2.2 _) hcap.2
      · rename_i v hs
        exact HR _ _ _ _ _ _ _ hmem hlk9 hs hr
      · rename_i how mi as rest hs
        obtain ⟨o1, hg, hr⟩ := hr
        have hle1 := jl_Sem_le d _ _ _ _ hg
        -- which instruction it is
        have hii : ∃ (idx how0 : Nat), ((how0 = 1 ∧ i = .invokespecial idx) ∨ (how0 = 2 ∧ i = .invokestatic idx) ∨ (how0 = 3 ∧ i = .invokevirtual idx)) ∧ jl_inv jt_T M.1 idx ls st h (pc + len) how0 = some (.inr (.inr (.inl (how, mi, as, rest)))) := by
          cases i <;> simp only [jl_step, jl_loadI, jl_loadA, jl_storeI, jl_storeA, jl_bin, jl_div, jl_un, jl_get, jl_put, jl_ald, jl_aald, jl_lald, jl_iast, jl_bast, jl_last, jl_aast, jl_alen, jl_newa, jl_anew, jl_mnew, jl_mk, jl_ldc, jl_ldcw, jl_gets, jl_ret, jl_next] at hs <;>
            first
            | (cases hs; done)
            | exact ⟨_, _, Or.inl ⟨rfl, rfl⟩, hs⟩
            | exact ⟨_, _, Or.inr (Or.inl ⟨rfl, rfl⟩), hs⟩
            | exact ⟨_, _, Or.inr (Or.inr ⟨rfl, rfl⟩), hs⟩
            | exact (jl_go_inr hs).elim
            | (exfalso; (repeat' split at hs) <;> first | (cases hs; done) | exact jl_go_inr hs | exact jl_br_inr hs | exact jl_el_inr hs)
        obtain ⟨idx, how0, hi, hinvs⟩ := hii
        have hhow : how = how0 := (jl_inv_call hinvs).1
        subst hhow
        have hlen : len = 3 := by
          rcases hi with ⟨-, rfl⟩ | ⟨-, rfl⟩ | ⟨-, rfl⟩ <;> simpa [jl_lok] using hlk9
        subst hlen
        have h321 := jl_Sem_320 hg
        have h320 : mi < 320 := (jt_Mt_320 (jl_inv_call hinvs).2.1 (by omega)).1
        have hle2 : jl_le o1.2 o.2 := by
          split at hr
          · exact hmono hr
          · obtain ⟨-, hr⟩ := hr
            split at hr
            · split at hr
              · exact hmono hr
              · exact hr.elim
            · rw [hr.2]; exact jl_le.rf
        have hcap1 : o1.2.1.length - n0 ≤ R.cells ∧ jl_sl o1.2 - s0 ≤ R.slots := ⟨Nat.le_trans (Nat.sub_le_sub_right hle2.1 _) hcap.1, Nat.le_trans (Nat.sub_le_sub_right hle2.2 _) hcap.2⟩
        refine jw_call C hEE hfr hlo hi hd (Mo := M) rfl hiv hinvs (hG _ _ _ _ hg h320) h320 hn0 hs0 hle1 hcap1 (fun v hv => ?_) (fun k hk => ?_)
        · rw [hv] at hr
          exact ih _ _ _ _ hr (Nat.le_trans hn0 hle1.1) (Nat.le_trans hs0 hle1.2)
        · rw [hk] at hr
          obtain ⟨hne, hr⟩ := hr
          refine ⟨hne, ?_⟩
          split at hr
          · rename_i hp hlp
            split at hr
            · rename_i pc' ls' hcat
              exact HC pc 3 how idx i ls ls' rest o1.2 k hp pc' hmem hi hne hlp hcat (ih _ _ _ _ hr (Nat.le_trans hn0 hle1.1) (Nat.le_trans hs0 hle1.2))
            · exact hr.elim
          · exact HX pc 3 i ls rest o1.2 k hmem hr.1 hr.2
      · rename_i k hs
        exact HT _ _ _ _ _ _ _ hmem hs hr.1 hr.2 hn0 hs0
end JSN

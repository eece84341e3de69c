/-! PLAIN LEAN, 63: laws; both sides read a unit -/
section
variable {t u l m b c t' u' l' m' b' c' : Nat} {h h' : LH} {I J K : Nat → Nat → Int32} {tp : Nat → Nat} {n o q j k : Nat} {y z : JTs} {x : Int32} {s s2 s4 : JLs} {ω : JLw} {w v : Nat} {R : Nat → LH → Option LH} {Rc : Nat → Nat → Int32 → LH → Option LH}
theorem jLM_fl {a f p : Nat} (hJ : jLM J tp n o ((a, f, p), ω)) (hf : ¬ f = 0) {a2 : Nat} (ha : a2 ≤ n) {ω2 : JLw} : jLM J tp n o ((a2, f, p), ω2) := ⟨jTM_fl hJ.1 hf ha, fun e => absurd e hf⟩
theorem jLU_0 {s s' : JLs} {d : Nat} (h0 : ¬ s'.1.2.1 = 0) : jLU d s s' := fun e => absurd e h0
theorem jLG_0 {s : JLs} (hy : jTy n s.1) (hn : n ≤ 150) (h0 : ¬ s.1.2.1 = 0) : jLG n s := ⟨hy, hn, fun e => absurd e h0⟩
theorem jLM_nx (hJ : jLM J tp n o (y, ω)) : jLM J tp n o (s_nx tp n y, ω) := ⟨jTM_nx hJ.1, fun e => hJ.2 (by rw [s_nx_2] at e; exact e)⟩
theorem x_unit (hG : jLG n s) (ho : o ≤ 6) (hR : o < 6 → ∀ s, jLG n s → ∃ s', jSim tp n (o + 1) (fun q => Rc q 65 (nI (o + 1))) (R 205) s s' ∧ jLG n s' ∧ jLU 1 s s') : ∃ s', jSim tp n o (fun q => F_Law_readUnit Rc q 65 (nI o)) (F_Mod_one R 205) s s' ∧ jLG n s' ∧ jLU 1 s s' := by
  obtain ⟨y, ω⟩ := s
  have hy : jTy n y := hG.1
  have hn : n ≤ 150 := hG.2.1
  have hz := s_nx_y (tp := tp) hy
  have zge := s_nx_ge (tp := tp) hy
  have zid := s_nx_id (tp := tp) hy
  have znc := s_nc_nx (tp := tp) hy
  have z2 : (s_nx tp n y).2 = y.2 := s_nx_2
  have hGz : jLG n (s_nx tp n y, ω) := ⟨hz, hn, fun e => by
    rw [z2] at e
    obtain ⟨a1, a2⟩ := hG.2.2 e
    exact ⟨Nat.le_trans a1 zge, a2⟩⟩
  by_cases h0 : y.2.1 = 0
  case neg =>
    have hid : s_nx tp n y = y := if_neg h0
    have hwd : s_wd tp n y = y := if_neg h0
    have hnc : s_nc tp n y = none := if_neg (fun a => h0 a.1)
    have hd : s_isd tp n y = false := by unfold s_isd; rw [hnc]; rfl
    have hk : ∀ k, s_isk tp n y k = false := fun k => decide_eq_false (fun a => h0 a.1)
    have hs : s_rs1 tp n y ω = (y, ω) := by
      unfold s_rs1
      rw [s_sns_no (fun k _ _ => hk k)]
      show (s_fa 1 (s_nx tp n y).1 (s_wd tp n y), ω) = (y, ω)
      rw [hwd, show s_fa 1 (s_nx tp n y).1 y = y from if_neg h0]
    refine ⟨(y, ω), ⟨fun t u l m b c h q hL hl J hJ => jE_n (fun P hP => ?_), fun t' u' l' m' b' c' h' hM J hJ => ⟨J, m_one0 hM hJ h0, hJ, jFM_r⟩⟩, hG, jLU_0 h0⟩
    refine c_unitW hL hl hy hJ hd (by rw [hnc]; intro a; cases a) (fun K k1 k6 kF => ?_)
    rw [hid, hk, hk, if_neg (show ¬ false = true by decide), if_neg (show ¬ false = true by decide)]
    rw [hid] at k1 k6
    refine jW_bn (c_readSense hL hl hy k1 (by rw [hid]; exact k6) (fun a => by rw [s_sns_no (fun k _ _ => hk k)] at a; cases a)) (fun K2 hK2 => ?_)
    rw [hs] at hK2
    exact jW_s (hP K2 ⟨hK2.1, jFC_trans kF hK2.2⟩)
  have h0z : (s_nx tp n y).2.1 = 0 := by rw [z2]; exact h0
  have hw0 : ω.1 ≤ y.1 := (hG.2.2 h0).1
  cases hd : s_isd tp n y
  case true =>
    obtain ⟨v, hv, v1, v2⟩ := s_isd_ex hd
    have hk : ∀ k, 1 ≤ k → k < 16 → s_isk tp n (s_nx tp n y) k = false := fun k a1 a2 => s_isk_no a1 a2 hz (v := v) (by rw [znc]; exact hv) (by omega)
    have ga : (s_num tp n 0 1000 (s_nx tp n y)).2.1 = 0 → y.1 + 1 ≤ (s_num tp n 0 1000 (s_nx tp n y)).1 := fun a => by have := s_num_ge hz a; omega
    have hGn : jLG n (s_num tp n 0 1000 (s_nx tp n y), ω) := ⟨s_num_y hz, hn, fun a => ⟨by have := ga a; show ω.1 ≤ _; (try dsimp only); omega, (hG.2.2 h0).2⟩⟩
    refine ⟨(s_num tp n 0 1000 (s_nx tp n y), s_nt 0 (s_nuv tp n (s_nx tp n y)) ω), ⟨fun t u l m b c h q hL hl J hJ => c_unit1 hL hl hG hJ hd, fun t' u' l' m' b' c' h' hM J hJ => jE_n (fun P hP => ?_)⟩, jLG_nt hGn (fun a => by have := ga a; show ω.1 + 1 ≤ _; (try dsimp only); omega) (by omega) (fun a _ => by have := s_num_ok a; omega) (fun a => by omega) (fun _ a => by omega), fun a => ⟨h0, ?_, ?_, ?_⟩⟩
    · refine m_oneP hM (jLM_nx hJ) h0z zid (fun K k1 k4 kF => ?_)
      rw [hk 7 (by omega) (by omega), hk 8 (by omega) (by omega), if_neg (show ¬ false = true by decide), if_neg (show ¬ false = true by decide)]
      obtain ⟨K2, e2, k2, kF2⟩ := m_b56w (R := R) hM k1 h0z zid k4 (by rw [znc, hv]; intro a; cases a; omega) hn hGz
      rw [s_sns_no hk, if_neg (show ¬ (none : Option Nat).isSome = true by decide)] at k2
      exact jW_e e2 (hP K2 ⟨k2, jFM_trans kF kF2⟩)
    · have := ga a; show y.1 + 1 ≤ _ + (1 - 1); exact this
    · exact s_nt_d1
    · have := ga a; show ω.1 + 1 + y.1 ≤ _ + ω.1; (try dsimp only); omega
  case false =>
    by_cases hc : s_nc tp n y = some 40
    · have hcz : s_nc tp n (s_nx tp n y) = some 40 := by rw [znc]; exact hc
      have hk : ∀ k, 1 ≤ k → k < 16 → s_isk tp n (s_nx tp n y) k = false := fun k a1 a2 => s_isk_no a1 a2 hz (v := 40) hcz (by omega)
      by_cases ho6 : o < 6
      · have hG1 : jLG n (s_nd tp n 40 (s_nx tp n y), ω) := ⟨s_nd_y hz, hn, fun a => ⟨by have := s_nd_ge hz a; show ω.1 ≤ _; (try dsimp only); omega, (hG.2.2 h0).2⟩⟩
        obtain ⟨s2, sim, g2, u2⟩ := hR ho6 _ hG1
        refine ⟨(s_nd tp n 41 s2.1, s2.2), ⟨fun t u l m b c h q hL hl J hJ => c_unit2 hL hl hy hJ hd hc ho6 (sim.1 t u l m b c h q hL hl), fun t' u' l' m' b' c' h' hM J hJ => jE_n (fun P hP => ?_)⟩, ⟨s_nd_y g2.1, hn, fun a => ?_⟩, fun a => ?_⟩
        · refine m_oneP hM (jLM_nx hJ) h0z zid (fun K k1 k4 kF => ?_)
          rw [hk 7 (by omega) (by omega), hk 8 (by omega) (by omega), if_neg (show ¬ false = true by decide), if_neg (show ¬ false = true by decide)]
          obtain ⟨K2, e2, k2, kF2⟩ := m_b56o (R := R) hM k1 h0z zid k4 hcz ho6 (sim.2 t' u' l' m' b' c' h' hM)
          exact jW_e e2 (hP K2 ⟨k2, jFM_trans kF kF2⟩)
        · have a1 := s_nd_ge g2.1 a
          obtain ⟨b1, b2⟩ := g2.2.2 (s_nd_0 a)
          exact ⟨by show s2.2.1 ≤ _; (try dsimp only); omega, b2⟩
        · have a1 := s_nd_ge g2.1 a
          obtain ⟨b1, b2, b3, b4⟩ := u2 (s_nd_0 a)
          have a2 := s_nd_ge hz b1
          refine ⟨h0, ?_, b3, ?_⟩
          · show y.1 + 1 ≤ (s_nd tp n 41 s2.1).1 + (1 - 1)
            have b2 : (s_nd tp n 40 (s_nx tp n y)).1 + 1 ≤ s2.1.1 + (1 - 1) := b2
            omega
          · show s2.2.1 + y.1 ≤ (s_nd tp n 41 s2.1).1 + ω.1
            have b4 : s2.2.1 + (s_nd tp n 40 (s_nx tp n y)).1 ≤ s2.1.1 + ω.1 := b4
            omega
      · have e6 : o = 6 := by omega
        subst e6
        have hf : ¬ (s_fa 3 (s_nx tp n y).1 (s_nx tp n y)).2.1 = 0 := s_fa_0 (by omega)
        refine ⟨(s_fa 3 (s_nx tp n y).1 (s_nx tp n y), ω), ⟨fun t u l m b c h q hL hl J hJ => c_unit3 hL hl hy hJ hd hc, fun t' u' l' m' b' c' h' hM J hJ => jE_n (fun P hP => ?_)⟩, jLG_0 (s_fa_y hz (by omega) hz.1) hn hf, jLU_0 hf⟩
        refine m_oneP hM (jLM_nx hJ) h0z zid (fun K k1 k4 kF => ?_)
        rw [hk 7 (by omega) (by omega), hk 8 (by omega) (by omega), if_neg (show ¬ false = true by decide), if_neg (show ¬ false = true by decide)]
        obtain ⟨K2, e2, k2, kF2⟩ := m_b56o6 (R := R) hM k1 h0z zid k4 hcz
        exact jW_e e2 (hP K2 ⟨k2, jFM_trans kF kF2⟩)
    · have hcz : ¬ s_nc tp n (s_nx tp n y) = some 40 := by rw [znc]; exact hc
      have hwdy := s_wd_y (tp := tp) hz
      have ewd : (s_wd tp n (s_nx tp n y)).2 = y.2 := by rw [s_wd_2, z2]
      have pair : ∀ (kw : Nat) (w : Nat) (x : Int32), 1 ≤ kw → kw < 16 → (w = 6 ∨ w = 7) → x = s_code w 0 → s_isk tp n (s_nx tp n y) kw = true → (∀ (h : LH) (q : Nat) K, (if s_isk tp n (s_nx tp n y) 7 = true then F_Law_readPair Rc q 65 (nI o) (-15 : Int32) (jz_I h K) else if s_isk tp n (s_nx tp n y) 8 = true then F_Law_readPair Rc q 65 (nI o) (-16 : Int32) (jz_I h K) else F_Law_readSense q 65 (jz_I h K)) = F_Law_readPair Rc q 65 (nI o) x (jz_I h K)) → (if s_isk tp n (s_nx tp n y) 7 = true then nI 6 else if s_isk tp n (s_nx tp n y) 8 = true then nI 7 else -nI 1) = nI w → ∃ s', jSim tp n o (fun q => F_Law_readUnit Rc q 65 (nI o)) (F_Mod_one R 205) (y, ω) s' ∧ jLG n s' ∧ jLU 1 (y, ω) s' := by
        intro kw w x kw1 kw2 hw hx hk eC eM
        obtain ⟨-, gw⟩ := s_isk_nc kw1 kw2 hz hk
        by_cases ho6 : o < 6
        · have hG1 : jLG n (s_nd tp n 91 (s_wd tp n (s_nx tp n y)), ω) := ⟨s_nd_y hwdy, hn, fun a => ⟨by have := s_nd_ge hwdy a; show ω.1 ≤ _; (try dsimp only); omega, (hG.2.2 h0).2⟩⟩
          obtain ⟨s2, sim, g2, u2⟩ := hR ho6 _ hG1
          have hG3 : jLG n (s_nd tp n 44 s2.1, s2.2) := ⟨s_nd_y g2.1, hn, fun a => ⟨by have := s_nd_ge g2.1 a; have := (g2.2.2 (s_nd_0 a)).1; show s2.2.1 ≤ _; (try dsimp only); omega, (g2.2.2 (s_nd_0 a)).2⟩⟩
          obtain ⟨s4, sim4, g4, u4⟩ := hR ho6 _ hG3
          have h9 : (s_nd tp n 93 s4.1).2.1 = 0 → s4.2.1 + 1 ≤ (s_nd tp n 93 s4.1).1 ∧ (s_nd tp n 93 s4.1).1 ≤ n := fun a => by
            have a1 := s_nd_ge g4.1 a
            have a2 := (g4.2.2 (s_nd_0 a)).1
            have a3 := (s_nd_y (tp := tp) (ch := 93) g4.1).1
            omega
          have deps : (s_nd tp n 93 s4.1).2.1 = 0 → s_dep s4.2.2 s4.2.1 = s_dep ω.2 ω.1 + 2 ∧ y.1 + 1 ≤ (s_nd tp n 93 s4.1).1 ∧ s4.2.1 + 1 + y.1 ≤ (s_nd tp n 93 s4.1).1 + ω.1 := fun a => by
            have a1 := s_nd_ge g4.1 a
            obtain ⟨b1, b2, b3, b4⟩ := u4 (s_nd_0 a)
            have b2 : (s_nd tp n 44 s2.1).1 + 1 ≤ s4.1.1 + (1 - 1) := b2
            have b3 : s_dep s4.2.2 s4.2.1 = s_dep s2.2.2 s2.2.1 + 1 := b3
            have b4 : s4.2.1 + (s_nd tp n 44 s2.1).1 ≤ s4.1.1 + s2.2.1 := b4
            have a2 := s_nd_ge g2.1 b1
            obtain ⟨d1, d2, d3, d4⟩ := u2 (s_nd_0 b1)
            have d2 : (s_nd tp n 91 (s_wd tp n (s_nx tp n y))).1 + 1 ≤ s2.1.1 + (1 - 1) := d2
            have d3 : s_dep s2.2.2 s2.2.1 = s_dep ω.2 ω.1 + 1 := d3
            have d4 : s2.2.1 + (s_nd tp n 91 (s_wd tp n (s_nx tp n y))).1 ≤ s2.1.1 + ω.1 := d4
            have a3 := s_nd_ge hwdy d1
            omega
          have hG5 : jLG n (s_nd tp n 93 s4.1, s4.2) := ⟨s_nd_y g4.1, hn, fun a => ⟨by have := h9 a; show s4.2.1 ≤ _; (try dsimp only); omega, (g4.2.2 (s_nd_0 a)).2⟩⟩
          refine ⟨(s_nd tp n 93 s4.1, s_nt w 0 s4.2), ⟨fun t u l m b c h q hL hl J hJ => jE_n (fun P hP => ?_), fun t' u' l' m' b' c' h' hM J hJ => jE_n (fun P hP => ?_)⟩, jLG_nt hG5 (fun a => (h9 a).1) (by omega) (fun _ _ => by omega) (fun a => by omega) (fun a _ => by have := (deps a).1; show 2 ≤ s_dep s4.2.2 s4.2.1; omega), fun a => ⟨h0, ?_, ?_, ?_⟩⟩
          · refine c_unitW hL hl hy hJ hd hc (fun K k1 k6 kF => ?_)
            rw [eC]
            refine jW_bn (c_pair hL hl k1 ho6 hx (fun a => by have := h9 a; omega) (sim.1 t u l m b c h q hL hl) (sim4.1 t u l m b c h q hL hl)) (fun K2 hK2 => ?_)
            exact jW_s (hP K2 ⟨hK2.1, jFC_trans kF hK2.2⟩)
          · refine m_oneP hM (jLM_nx hJ) h0z zid (fun K k1 k4 kF => ?_)
            rw [eM]
            obtain ⟨K2, e2, k2, kF2⟩ := m_b56p (R := R) hM k1 h0z zid k4 hw ho6 (fun a => by have := h9 a; omega) (sim.2 t' u' l' m' b' c' h' hM) (sim4.2 t' u' l' m' b' c' h' hM)
            exact jW_e e2 (hP K2 ⟨k2, jFM_trans kF kF2⟩)
          · exact (deps a).2.1
          · have := (deps a).1
            show s_dep (s_nt w 0 s4.2).2 (s4.2.1 + 1) = s_dep ω.2 ω.1 + 1
            rw [s_nt_d1, if_neg (by omega)]
            omega
          · exact (deps a).2.2
        · have e6 : o = 6 := by omega
          subst e6
          have hf : ¬ (s_fa 3 (s_nx tp n y).1 (s_wd tp n (s_nx tp n y))).2.1 = 0 := s_fa_0 (by omega)
          have efa : s_fa 3 (s_nx tp n y).1 (s_wd tp n (s_nx tp n y)) = ((s_wd tp n (s_nx tp n y)).1, 3, (s_nx tp n y).1) := if_pos (by rw [ewd]; exact h0)
          have efz : s_fa 3 (s_nx tp n y).1 (s_nx tp n y) = ((s_nx tp n y).1, 3, (s_nx tp n y).1) := if_pos h0z
          refine ⟨(s_fa 3 (s_nx tp n y).1 (s_wd tp n (s_nx tp n y)), ω), ⟨fun t u l m b c h q hL hl J hJ => jE_n (fun P hP => ?_), fun t' u' l' m' b' c' h' hM J hJ => jE_n (fun P hP => ?_)⟩, jLG_0 (s_fa_y hwdy (by omega) hz.1) hn hf, jLU_0 hf⟩
          · refine c_unitW hL hl hy hJ hd hc (fun K k1 k6 kF => ?_)
            rw [eC]
            refine jW_bn (c_pair6 hL hl k1 hz.1 k6) (fun K2 hK2 => ?_)
            exact jW_s (hP K2 ⟨hK2.1, jFC_trans kF hK2.2⟩)
          · refine m_oneP hM (jLM_nx hJ) h0z zid (fun K k1 k4 kF => ?_)
            rw [eM]
            obtain ⟨K2, e2, k2, kF2⟩ := m_b56p6 (R := R) hM k1 h0z k4 hw
            rw [efz] at k2
            rw [efa] at hP
            exact jW_e e2 (hP K2 ⟨jLM_fl k2 (by omega) hwdy.1, jFM_trans kF kF2⟩)
      cases g7 : s_isk tp n (s_nx tp n y) 7
      case true => exact pair 7 6 (-15) (by omega) (by omega) (Or.inl rfl) (by decide) g7 (fun h q K => by rw [g7, if_pos rfl]) (by rw [g7, if_pos rfl])
      cases g8 : s_isk tp n (s_nx tp n y) 8
      case true => exact pair 8 7 (-16) (by omega) (by omega) (Or.inr rfl) (by decide) g8 (fun h q K => by rw [g7, g8, if_neg (show ¬ false = true by decide), if_pos rfl]) (by rw [g7, g8, if_neg (show ¬ false = true by decide), if_pos rfl])
      have eC : ∀ (h : LH) (q : Nat) K, (if s_isk tp n (s_nx tp n y) 7 = true then F_Law_readPair Rc q 65 (nI o) (-15 : Int32) (jz_I h K) else if s_isk tp n (s_nx tp n y) 8 = true then F_Law_readPair Rc q 65 (nI o) (-16 : Int32) (jz_I h K) else F_Law_readSense q 65 (jz_I h K)) = F_Law_readSense q 65 (jz_I h K) := fun h q K => by rw [g7, g8, if_neg (show ¬ false = true by decide), if_neg (show ¬ false = true by decide)]
      have eM : (if s_isk tp n (s_nx tp n y) 7 = true then nI 6 else if s_isk tp n (s_nx tp n y) 8 = true then nI 7 else -nI 1) = -nI 1 := by rw [g7, g8, if_neg (show ¬ false = true by decide), if_neg (show ¬ false = true by decide)]
      have wlt : (s_wd tp n (s_nx tp n y)).2.1 = 0 → (s_sns tp n (s_nx tp n y)).isSome = true → y.1 + 1 ≤ (s_wd tp n (s_nx tp n y)).1 := fun _ a => by
        cases e : s_sns tp n (s_nx tp n y) with
        | none => rw [e] at a; cases a
        | some j =>
          obtain ⟨-, k9, a1, a2, a3⟩ := s_sns_lt e
          have := (s_isk_nc a1 a2 hz a3).2
          omega
      cases hs : s_sns tp n (s_nx tp n y) with
      | some j =>
        obtain ⟨j7, -⟩ := s_sns_lt hs
        have er : s_rs1 tp n (s_nx tp n y) ω = (s_wd tp n (s_nx tp n y), s_nt 1 j ω) := by unfold s_rs1; rw [hs]; rfl
        have g1 := wlt (by rw [ewd]; exact h0) (by rw [hs]; rfl)
        have hGn : jLG n (s_wd tp n (s_nx tp n y), ω) := ⟨hwdy, hn, fun a => ⟨by show ω.1 ≤ _; (try dsimp only); omega, (hG.2.2 h0).2⟩⟩
        refine ⟨(s_wd tp n (s_nx tp n y), s_nt 1 j ω), ⟨fun t u l m b c h q hL hl J hJ => jE_n (fun P hP => ?_), fun t' u' l' m' b' c' h' hM J hJ => jE_n (fun P hP => ?_)⟩, jLG_nt hGn (fun a => by show ω.1 + 1 ≤ _; (try dsimp only); omega) (by omega) (fun _ a => by omega) (fun _ => j7) (fun _ a => by omega), fun a => ⟨h0, g1, s_nt_d1, by show ω.1 + 1 + y.1 ≤ _ + ω.1; (try dsimp only); omega⟩⟩
        · refine c_unitW hL hl hy hJ hd hc (fun K k1 k6 kF => ?_)
          rw [eC]
          refine jW_bn (c_readSense hL hl hz k1 (by rw [zid]; exact k6) (fun a => by have := hwdy.1; omega)) (fun K2 hK2 => ?_)
          rw [er] at hK2
          exact jW_s (hP K2 ⟨hK2.1, jFC_trans kF hK2.2⟩)
        · refine m_oneP hM (jLM_nx hJ) h0z zid (fun K k1 k4 kF => ?_)
          rw [eM]
          obtain ⟨K2, e2, k2, kF2⟩ := m_b56w (R := R) hM k1 h0z zid k4 hcz hn hGz
          rw [hs, if_pos (show (some j).isSome = true from rfl), er] at k2
          exact jW_e e2 (hP K2 ⟨k2, jFM_trans kF kF2⟩)
      | none =>
        have er : s_rs1 tp n (s_nx tp n y) ω = (s_fa 1 (s_nx tp n y).1 (s_wd tp n (s_nx tp n y)), ω) := by unfold s_rs1; rw [hs, zid]; rfl
        have hf : ¬ (s_fa 1 (s_nx tp n y).1 (s_wd tp n (s_nx tp n y))).2.1 = 0 := s_fa_0 (by omega)
        have efa : s_fa 1 (s_nx tp n y).1 (s_wd tp n (s_nx tp n y)) = ((s_wd tp n (s_nx tp n y)).1, 1, (s_nx tp n y).1) := if_pos (by rw [ewd]; exact h0)
        have enum : s_num tp n 0 1000 (s_nx tp n y) = ((s_nx tp n y).1, 1, (s_nx tp n y).1) := by
          have esk : s_skp c_bl tp n (s_nx tp n y).1 = (s_nx tp n y).1 := by
            have e : s_nx tp n (s_nx tp n y) = (s_skp c_bl tp n (s_nx tp n y).1, (s_nx tp n y).2) := if_pos h0z
            rw [zid] at e
            exact (congrArg Prod.fst e).symm
          unfold s_num s_p1
          rw [if_pos h0z, esk, if_pos]
          by_cases zlt : (s_nx tp n y).1 < n
          · rw [s_skp_s zlt, if_neg]
            intro a
            have e1 : s_nc tp n y = some (tp (s_nx tp n y).1) := by rw [← znc]; unfold s_nc; rw [esk]; exact if_pos ⟨h0z, zlt⟩
            unfold s_isd at hd
            rw [e1] at hd
            have hd : c_dg (tp (s_nx tp n y).1) = false := hd
            rw [a] at hd
            cases hd
          · have e1 : (s_nx tp n y).1 = n := by have := hz.1; omega
            rw [e1, s_skp_n]
        refine ⟨(s_fa 1 (s_nx tp n y).1 (s_wd tp n (s_nx tp n y)), ω), ⟨fun t u l m b c h q hL hl J hJ => jE_n (fun P hP => ?_), fun t' u' l' m' b' c' h' hM J hJ => jE_n (fun P hP => ?_)⟩, jLG_0 (s_fa_y hwdy (by omega) hz.1) hn hf, jLU_0 hf⟩
        · refine c_unitW hL hl hy hJ hd hc (fun K k1 k6 kF => ?_)
          rw [eC]
          refine jW_bn (c_readSense hL hl hz k1 (by rw [zid]; exact k6) (fun a => by rw [hs] at a; cases a)) (fun K2 hK2 => ?_)
          rw [er] at hK2
          exact jW_s (hP K2 ⟨hK2.1, jFC_trans kF hK2.2⟩)
        · refine m_oneP hM (jLM_nx hJ) h0z zid (fun K k1 k4 kF => ?_)
          rw [eM]
          obtain ⟨K2, e2, k2, kF2⟩ := m_b56w (R := R) hM k1 h0z zid k4 hcz hn hGz
          rw [hs, if_neg (show ¬ (none : Option Nat).isSome = true by decide), enum] at k2
          rw [efa] at hP
          exact jW_e e2 (hP K2 ⟨jLM_fl k2 (by omega) hwdy.1, jFM_trans kF kF2⟩)
end

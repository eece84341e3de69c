/-! PLAIN LEAN, 37: texts; the class knows its words -/
/-- the words, by where they lie -/
def s_W : List (List Nat) := [[], [103, 97, 116, 101], [119, 111, 111, 100], [119, 105, 110, 100], [114, 97, 105, 110], [99, 111, 109, 101, 114], [115, 105, 103, 110, 97, 108], [108, 101, 97, 115, 116], [109, 111, 115, 116], [115, 109, 111, 107, 101], [108, 111, 103, 115], [104, 111, 117, 114], [115, 99, 101, 110, 116], [108, 111, 103], [100, 111, 117, 115, 101], [97, 103, 97, 105, 110]]
def s_w (k : Nat) : List Nat := s_W.getD k []
theorem s_w_ok0 : ∀ k, k < 16 → (s_w k).length ≤ 6 ∧ ∀ i, i < 6 → (s_w k).getD i 0 < 128 := by decide
theorem s_w_len {k : Nat} (hk : k < 16) : (s_w k).length ≤ 6 := (s_w_ok0 k hk).1
theorem s_w_lt {k i : Nat} (hk : k < 16) (hi : i < (s_w k).length) : (s_w k).getD i 0 < 128 := (s_w_ok0 k hk).2 i (Nat.lt_of_lt_of_le hi (s_w_len hk))
/-- the words lie in the heap -/
def jStr (h : LH) (I : Nat → Nat → Int32) : Prop := ∀ k, 1 ≤ k → k < 16 → jl_kd h k = 31 ∧ jl_kd h (k + 21) = 32 ∧ jl_ln h (k + 21) = (s_w k).length ∧ ∀ i, i < (s_w k).length → I (k + 21) i = nI ((s_w k).getD i 0)
theorem i2c_0 : ∀ v, v < 128 → ji_i2c (nI v &&& nI 255) = nI v := by decide +kernel
theorem i2c_1 : ∀ v, v < 128 → ((nI v).toUInt32 % 65536).toInt32 = nI v := by decide +kernel
theorem nS_eq {v w : Nat} (hv : v < 256) (hw : w < 128) : (nS v = nI w) = (v = w) := by
  refine propext ⟨fun e => ?_, fun e => by rw [← e]; exact nS_lo (by omega)⟩
  have h1 := nS_and hv
  rw [e, kn_and, show w &&& 255 = w by rw [Nat.and_two_pow_sub_one_eq_mod w 8]; omega] at h1
  exact (kn_inj (by omega) (by omega) h1).symm
def s_rng (tp : Nat → Nat) (w k : Nat) : List Nat := (List.range k).map (fun i => tp (w + i))
def s_isw (tp : Nat → Nat) (w : Nat) (y : JTs) (k : Nat) : Bool := decide (y.2.1 = 0 ∧ s_rng tp w (y.1 - w) = s_w k)
theorem s_rng_eq {tp : Nat → Nat} {w k : Nat} {ws : List Nat} : s_rng tp w k = ws ↔ (k = ws.length ∧ ∀ j, j < ws.length → tp (w + j) = ws.getD j 0) := by
  constructor
  · intro e
    have hl : k = ws.length := by rw [← e]; unfold s_rng; rw [List.length_map, List.length_range]
    refine ⟨hl, fun j hj => ?_⟩
    rw [← e]
    unfold s_rng
    rw [List.getD_eq_getElem?_getD, List.getElem?_map, List.getElem?_range (by omega)]
    rfl
  · intro ⟨hl, e⟩
    unfold s_rng
    refine List.ext_getElem (by rw [List.length_map, List.length_range]; exact hl) (fun i h1 h2 => ?_)
    rw [List.getElem_map, List.getElem_range, e i h2, List.getD_eq_getElem?_getD, List.getElem?_eq_getElem h2]
    rfl
section
variable {Q : Type} {t u l m b c : Nat} {h : LH} {I J K : Nat → Nat → Int32} {τ : JTn} {tp : Nat → Nat} {n : Nat} {y : JTs} {x : Int32} {k : Nat}
theorem jStr_eq (hS : jStr h J) (e : ∀ a, a < 64 → K a = J a) : jStr h K := fun k h1 h2 => by
  obtain ⟨a1, a2, a3, a4⟩ := hS k h1 h2
  exact ⟨a1, a2, a3, fun i hi => by rw [e (k + 21) (by omega)]; exact a4 i hi⟩
theorem jStr_T1 (hS : jStr h J) (e : jT1 J K) : jStr h K := jStr_eq hS (fun a ha => e.2 a (by omega))
theorem dGs {X : Option Q} (hk : jl_kd h k = 31) : jf_gs (jz_I h J) k X = X := if_pos hk
theorem dKs {X : Option Q} (hk : jl_kd h k = 31) : jf_kd (jz_I h J) k 31 X = X := if_pos hk
theorem dAl {a q : Nat} {K : Int32 → Option Q} (hk : jl_kd h a = 32) (hl : jl_ln h a = q) : jf_al (jz_I h J) a K = K (nI q) := (if_pos (Or.inr (Or.inr hk))).trans (by rw [show jl_ln (jz_I h J) a = q from hl]; rfl)
theorem c_len (hS : jStr h J) (h1 : 1 ≤ k) (h2 : k < 16) : F_Str_length k (jz_I h J) = some (nI (s_w k).length, jz_I h J) := by
  obtain ⟨a1, a2, a3, -⟩ := hS k h1 h2
  have hl := s_w_len h2
  unfold F_Str_length F_Str_coder F_Str_coder_b14
  rw [dGs a1, dAl a2 a3, dKs a1, if_neg (show ¬ (1 : Int32) = 0 by decide), dGs a1]
  show some (nI (s_w k).length >>> (nI 0 &&& nI 31), jz_I h J) = _
  rw [kn_a31 0 (by omega), kn_shr (by omega) (by omega), Nat.pow_zero, Nat.div_one]
theorem c_chr (hS : jStr h J) (h1 : 1 ≤ k) (h2 : k < 16) {i : Nat} (hi : i < (s_w k).length) : F_Str_charAt k (nI i) (jz_I h J) = some (nI ((s_w k).getD i 0), jz_I h J) := by
  obtain ⟨a1, a2, a3, a4⟩ := hS k h1 h2
  have hl := s_w_len h2
  have hv := s_w_lt h2 hi
  have e4 := a4 i hi
  have e5 := i2c_0 _ hv
  have e6 := i2c_1 _ hv
  have n0 : ¬ nI i < 0 := kn_nneg (by omega)
  have nl : nI i < nI (s_w k).length := by rw [kn_lt (by omega) (by omega)]; exact hi
  have eL : F_Str_isLatin1 k (jz_I h J) = some (nI 1, jz_I h J) := by
    unfold F_Str_isLatin1 F_Str_isLatin1_b18
    rw [if_neg (show ¬ (1 : Int32) = 0 by decide), dGs a1, if_pos (show (0 : Int32) = 0 from rfl)]
    rfl
  have eC : F_Str_checkIndex (nI i) (nI (s_w k).length) (jz_I h J) = some (jz_I h J) := by
    unfold F_Str_checkIndex F_Pre_checkIndex
    rw [if_neg n0, if_pos nl]
    rfl
  have eR : ∀ r : Option (Int32 × LH), jf_rc (nI ((s_w k).getD i 0)) r = r := fun r => if_pos e6
  have eS : F_SL_charAt (k + 21) (nI i) (jz_I h J) = some (nI ((s_w k).getD i 0), jz_I h J) := by
    unfold F_SL_charAt
    rw [dAl a2 a3, eC, Option.bind_some, kq_ba (Or.inr (Or.inr a2)) (by rw [a3]; exact hi) (by omega), e4, show (255 : Int32) = nI 255 from rfl, e5, eR]
  unfold F_Str_charAt
  rw [dKs a1, eL, kq_bi, if_neg (show ¬ nI 1 = 0 by decide), dGs a1, eS, kq_bi, eR]
theorem c_isWordL (hL : jLay t u l m b c h) (hS : jStr h J) (hT : jTX J tp n y) (h1 : 1 ≤ k) (h2 : k < 16) {w : Nat} (h6 : J 65 6 = nI w) (hw : w + (s_w k).length ≤ n) : ∀ r i fuel, i + r = (s_w k).length → r < fuel → F_Text_isWord_l27 fuel 65 k (nI i) (jz_I h J) = some (nB (decide (∀ j, j < (s_w k).length → i ≤ j → tp (w + j) = (s_w k).getD j 0)), jz_I h J) := by
  obtain ⟨a1, -, -, -⟩ := hS k h1 h2
  have hl := s_w_len h2
  have hn : n ≤ 600 := hT.2.1.2.2.2
  intro r
  induction r with
  | zero =>
    intro i fuel hi hf
    obtain ⟨F, rfl⟩ : ∃ F, fuel = F + 1 := ⟨fuel - 1, by omega⟩
    have e : decide (∀ j, j < (s_w k).length → i ≤ j → tp (w + j) = (s_w k).getD j 0) = true := decide_eq_true (fun j _ _ => by omega)
    show F_Text_isWord_c27 (F_Text_isWord_l27 F) 65 k (nI i) (jz_I h J) = _
    rw [e]
    unfold F_Text_isWord_c27
    rw [dKs a1, c_len hS h1 h2]
    generalize (s_w k).length = q at hi hl
    simp (disch := omega) only [↓reduceIte, ↓kq_bi, ↓kq_let, ↓kq_rz0, ↓kq_rz1, ↓kq_rzB, ↓Option.bind_some, kq_dvn, kt_lt, kf_lt, kt_eq, kf_eq, decide_true, decide_false, eq_self, Bool.false_eq_true, Bool.true_eq_false, not_true_eq_false, not_false_eq_true, jU_eq, jU_ne, jU_U, jV_eq, jV_ne, jV_V, kn_lit, kn_add, kn_mul, kn_sdm, kn_sub, kn_div, kn_nsdm, kn_lt, kn_eq, kn_pred, kn_m1, kn_m1', kn_a31, kn_shl, kn_shr, kn_bit, nB_0, nB_1, nB_t, nB_f, Nat.zero_add, Nat.add_zero, Nat.reduceAdd, Nat.reduceMul, Nat.reduceSub, Nat.reducePow]
  | succ r ih =>
    intro i fuel hi hf
    obtain ⟨F, rfl⟩ : ∃ F, fuel = F + 1 := ⟨fuel - 1, by omega⟩
    have hch := c_chr hS h1 h2 (i := i) (by omega)
    have hlt := s_w_lt (k := k) (i := i) h2 (by omega)
    have e6 := hT.2.2.1 (w + i) (by omega)
    have eq := nS_eq (hT.2.2.2 (w + i)) hlt
    have ih' := ih (i + 1) F (by omega) (by omega)
    show F_Text_isWord_c27 (F_Text_isWord_l27 F) 65 k (nI i) (jz_I h J) = _
    unfold F_Text_isWord_c27
    rw [dKs a1, c_len hS h1 h2]
    by_cases z : tp (w + i) = (s_w k).getD i 0
    · have ed : decide (∀ j, j < (s_w k).length → i ≤ j → tp (w + j) = (s_w k).getD j 0) = decide (∀ j, j < (s_w k).length → i + 1 ≤ j → tp (w + j) = (s_w k).getD j 0) := by
        refine decide_eq_decide.mpr ⟨fun a j x1 x2 => a j x1 (by omega), fun a j x1 x2 => ?_⟩
        by_cases hj : j = i
        · rw [hj]; exact z
        · exact a j x1 (by omega)
      rw [ed, ← ih']
      rw [eq_true z] at eq
      generalize (s_w k).length = q at hi hl hw
      generalize (s_w k).getD i 0 = ch at hlt hch eq
      simp (disch := omega) only [h6, e6, dKs a1, hch, eq, ↓dR_64_0 hL, ↓dK_65 hL, ↓dG_65 hL, ↓dP_65 hL, ↓dR_65_0 hL, dI_66 hL, dS_66 hL, ↓reduceIte, ↓kq_bi, ↓kq_let, ↓kq_rz0, ↓kq_rz1, ↓kq_rzB, ↓Option.bind_some, kq_dvn, kt_lt, kf_lt, kt_eq, kf_eq, decide_true, decide_false, eq_self, Bool.false_eq_true, Bool.true_eq_false, not_true_eq_false, not_false_eq_true, jU_eq, jU_ne, jU_U, jV_eq, jV_ne, jV_V, kn_lit, kn_add, kn_mul, kn_sdm, kn_sub, kn_div, kn_nsdm, kn_lt, kn_eq, kn_pred, kn_m1, kn_m1', kn_a31, kn_shl, kn_shr, kn_bit, nB_0, nB_1, nB_t, nB_f, Nat.zero_add, Nat.add_zero, Nat.reduceAdd, Nat.reduceMul, Nat.reduceSub, Nat.reducePow]
    · have ed : decide (∀ j, j < (s_w k).length → i ≤ j → tp (w + j) = (s_w k).getD j 0) = false := decide_eq_false (fun a => z (a i (by omega) (Nat.le_refl i)))
      rw [ed]
      rw [eq_false z] at eq
      generalize (s_w k).length = q at hi hl hw
      generalize (s_w k).getD i 0 = ch at hlt hch eq
      simp (disch := omega) only [h6, e6, dKs a1, hch, eq, ↓dR_64_0 hL, ↓dK_65 hL, ↓dG_65 hL, ↓dP_65 hL, ↓dR_65_0 hL, dI_66 hL, dS_66 hL, ↓reduceIte, ↓kq_bi, ↓kq_let, ↓kq_rz0, ↓kq_rz1, ↓kq_rzB, ↓Option.bind_some, kq_dvn, kt_lt, kf_lt, kt_eq, kf_eq, decide_true, decide_false, eq_self, Bool.false_eq_true, Bool.true_eq_false, not_true_eq_false, not_false_eq_true, jU_eq, jU_ne, jU_U, jV_eq, jV_ne, jV_V, kn_lit, kn_add, kn_mul, kn_sdm, kn_sub, kn_div, kn_nsdm, kn_lt, kn_eq, kn_pred, kn_m1, kn_m1', kn_a31, kn_shl, kn_shr, kn_bit, nB_0, nB_1, nB_t, nB_f, Nat.zero_add, Nat.add_zero, Nat.reduceAdd, Nat.reduceMul, Nat.reduceSub, Nat.reducePow]
theorem c_isWord (hL : jLay t u l m b c h) (hS : jStr h J) (hT : jTX J tp n y) (h1 : 1 ≤ k) (h2 : k < 16) {w : Nat} (h6 : J 65 6 = nI w) (hw : w ≤ y.1) : F_Text_isWord 65 k (jz_I h J) = some (nB (s_isw tp w y k), jz_I h J) := by
  have hLp := fun z => c_isWordL hL hS hT h1 h2 h6 (w := w) z (s_w k).length 0 jF (Nat.zero_add _) (Nat.lt_of_le_of_lt (s_w_len h2) (by decide))
  obtain ⟨⟨x2, x3, x4, x5⟩, ⟨y1, y2, y3, y4⟩, htp, h256⟩ := hT
  have hcl := c_len hS h1 h2
  obtain ⟨a1, -, -, -⟩ := hS k h1 h2
  have hl := s_w_len h2
  unfold F_Text_isWord
  by_cases h0 : y.2.1 = 0
  · rw [h0] at x2
    by_cases hk : y.1 - w = (s_w k).length
    · have hLp := hLp (by omega)
      have e : s_isw tp w y k = decide (∀ j, j < (s_w k).length → 0 ≤ j → tp (w + j) = (s_w k).getD j 0) := by
        unfold s_isw
        refine decide_eq_decide.mpr ⟨fun ⟨_, a⟩ j x1 _ => (s_rng_eq.mp a).2 j x1, fun a => ⟨h0, s_rng_eq.mpr ⟨hk, fun j hj => a j hj (Nat.zero_le j)⟩⟩⟩
      rw [e, ← hLp]
      generalize (s_w k).length = q at hk hl hcl
      simp (disch := omega) only [x2, x5, h6, dKs a1, hcl, ↓dR_64_0 hL, ↓dK_65 hL, ↓dG_65 hL, ↓dP_65 hL, ↓reduceIte, ↓kq_bi, ↓kq_let, ↓kq_rz0, ↓kq_rz1, ↓kq_rzB, ↓Option.bind_some, kq_dvn, kt_lt, kf_lt, kt_eq, kf_eq, decide_true, decide_false, eq_self, Bool.false_eq_true, Bool.true_eq_false, not_true_eq_false, not_false_eq_true, jU_eq, jU_ne, jU_U, jV_eq, jV_ne, jV_V, kn_lit, kn_add, kn_mul, kn_sdm, kn_sub, kn_div, kn_nsdm, kn_lt, kn_eq, kn_pred, kn_m1, kn_m1', kn_a31, kn_shl, kn_shr, kn_bit, nB_0, nB_1, nB_t, nB_f, Nat.zero_add, Nat.add_zero, Nat.reduceAdd, Nat.reduceMul, Nat.reduceSub, Nat.reducePow]
    · have e : s_isw tp w y k = false := decide_eq_false (fun ⟨_, a⟩ => hk (s_rng_eq.mp a).1)
      rw [e]
      generalize (s_w k).length = q at hk hl hcl
      simp (disch := omega) only [x2, x5, h6, dKs a1, hcl, F_Text_isWord_b23, ↓dR_64_0 hL, ↓dK_65 hL, ↓dG_65 hL, ↓dP_65 hL, ↓reduceIte, ↓kq_bi, ↓kq_let, ↓kq_rz0, ↓kq_rz1, ↓kq_rzB, ↓Option.bind_some, kq_dvn, kt_lt, kf_lt, kt_eq, kf_eq, decide_true, decide_false, eq_self, Bool.false_eq_true, Bool.true_eq_false, not_true_eq_false, not_false_eq_true, jU_eq, jU_ne, jU_U, jV_eq, jV_ne, jV_V, kn_lit, kn_add, kn_mul, kn_sdm, kn_sub, kn_div, kn_nsdm, kn_lt, kn_eq, kn_pred, kn_m1, kn_m1', kn_a31, kn_shl, kn_shr, kn_bit, nB_0, nB_1, nB_t, nB_f, Nat.zero_add, Nat.add_zero, Nat.reduceAdd, Nat.reduceMul, Nat.reduceSub, Nat.reducePow]
  · have e : s_isw tp w y k = false := decide_eq_false (fun a => h0 a.1)
    rw [e]
    simp (disch := omega) only [x2, F_Text_isWord_b23, ↓dR_64_0 hL, ↓dK_65 hL, ↓dG_65 hL, ↓dP_65 hL, ↓reduceIte, ↓kq_bi, ↓kq_let, ↓kq_rz0, ↓kq_rz1, ↓kq_rzB, ↓Option.bind_some, kq_dvn, kt_lt, kf_lt, kt_eq, kf_eq, decide_true, decide_false, eq_self, Bool.false_eq_true, Bool.true_eq_false, not_true_eq_false, not_false_eq_true, jU_eq, jU_ne, jU_U, jV_eq, jV_ne, jV_V, kn_lit, kn_add, kn_mul, kn_sdm, kn_sub, kn_div, kn_nsdm, kn_lt, kn_eq, kn_pred, kn_m1, kn_m1', kn_a31, kn_shl, kn_shr, kn_bit, nB_0, nB_1, nB_t, nB_f, Nat.zero_add, Nat.add_zero, Nat.reduceAdd, Nat.reduceMul, Nat.reduceSub, Nat.reducePow]
theorem c_open (hL : jLay t u l m b c h) {z : Int32} (hz : (if nI 600 < z then nI 600 else z) = nI n) (hn : n ≤ 600) (htp : ∀ k, k < n → J 66 k = nS (tp k)) (h256 : ∀ k, tp k < 256) : ∃ K, F_Text_open 65 z (jz_I h J) = some (jz_I h K) ∧ jTX K tp n (0, 0, 0) ∧ jT1 J K := by
  refine jE_n (fun P hP => ?_)
  unfold F_Text_open
  rw [show (if (600 : Int32) < z then (600 : Int32) else z) = nI n from hz]
  simp (disch := omega) only [↓dR_64_0 hL, ↓dK_65 hL, ↓dG_65 hL, ↓dP_65 hL, ↓reduceIte, ↓kq_bi, ↓kq_let, ↓kq_rz0, ↓kq_rz1, ↓kq_rzB, ↓Option.bind_some, kq_dvn, kt_lt, kf_lt, kt_eq, kf_eq, decide_true, decide_false, eq_self, Bool.false_eq_true, Bool.true_eq_false, not_true_eq_false, not_false_eq_true, jU_eq, jU_ne, jU_U, jV_eq, jV_ne, jV_V, kn_lit, kn_add, kn_mul, kn_sdm, kn_sub, kn_div, kn_nsdm, kn_lt, kn_eq, kn_pred, kn_m1, kn_m1', kn_a31, kn_shl, kn_shr, kn_bit, nB_0, nB_1, nB_t, nB_f, Nat.zero_add, Nat.add_zero, Nat.reduceAdd, Nat.reduceMul, Nat.reduceSub, Nat.reducePow]
  refine jW_s (hP _ ⟨⟨⟨?_, ?_, ?_, ?_⟩, ⟨Nat.zero_le _, by show 0 ≤ 3; omega, Nat.zero_le _, hn⟩, fun k hk => by rw [jU_ne (by omega)]; exact htp k hk, h256⟩, ?_, fun a ha => jU_ne ha⟩)
  · simp (disch := omega) only [jU_eq, jV_ne, jV_eq]
  · simp (disch := omega) only [jU_eq, jV_ne, jV_eq]; rfl
  · simp (disch := omega) only [jU_eq, jV_ne, jV_eq]
  · simp (disch := omega) only [jU_eq, jV_ne, jV_eq]
  · simp (disch := omega) only [jU_eq, jV_ne, jV_eq]
theorem c_close (hL : jLay t u l m b c h) : F_Text_close 65 (jz_I h J) = some (jz_I h (jU J 65 (jV (J 65) 1 (nI 0)))) := by
  unfold F_Text_close
  simp (disch := omega) only [↓dR_64_0 hL, ↓dK_65 hL, ↓dG_65 hL, ↓dP_65 hL, ↓reduceIte, ↓kq_bi, ↓kq_let, ↓kq_rz0, ↓kq_rz1, ↓kq_rzB, ↓Option.bind_some, kq_dvn, kt_lt, kf_lt, kt_eq, kf_eq, decide_true, decide_false, eq_self, Bool.false_eq_true, Bool.true_eq_false, not_true_eq_false, not_false_eq_true, jU_eq, jU_ne, jU_U, jV_eq, jV_ne, jV_V, kn_lit, kn_add, kn_mul, kn_sdm, kn_sub, kn_div, kn_nsdm, kn_lt, kn_eq, kn_pred, kn_m1, kn_m1', kn_a31, kn_shl, kn_shr, kn_bit, nB_0, nB_1, nB_t, nB_f, Nat.zero_add, Nat.add_zero, Nat.reduceAdd, Nat.reduceMul, Nat.reduceSub, Nat.reducePow]
end

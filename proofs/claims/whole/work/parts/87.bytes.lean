/-! PLAIN LEAN, 53: bytes of a number -/
/-- the last byte -/
def s_lb (w : Int32) : Nat := w.toBitVec.toNat % 256
theorem s_lb_lt (w : Int32) : s_lb w < 256 := Nat.mod_lt _ (by decide)
theorem s_lb_and (w : Int32) : w &&& nI 255 = nI (s_lb w) := by
  apply kn_bvinj
  rw [Int32.toBitVec_and, kn_bv, kn_bv]
  apply BitVec.eq_of_toNat_eq
  rw [BitVec.toNat_and, BitVec.toNat_ofNat, BitVec.toNat_ofNat]
  have h1 : (255 : Nat) % 2 ^ 32 = 2 ^ 8 - 1 := by decide
  rw [h1, Nat.and_two_pow_sub_one_eq_mod]
  have := s_lb_lt w
  rw [Nat.mod_eq_of_lt (show s_lb w < 2 ^ 32 by omega)]
  rfl
theorem s_lb_8 (w : Int32) : w.toInt8 = Int8.ofNat (s_lb w) := by
  apply Int8.toBitVec_inj.mp
  rw [Int32.toBitVec_toInt8]
  apply BitVec.eq_of_toNat_eq
  have h8 : (Int8.ofNat (s_lb w)).toBitVec = BitVec.ofNat 8 (s_lb w) := rfl
  rw [h8, BitVec.toNat_ofNat, BitVec.signExtend_eq_setWidth_of_le _ (by decide), BitVec.toNat_setWidth]
  unfold s_lb
  omega
theorem s_lb_n0 : ∀ v, v < 256 → (Int8.ofNat v).toInt32 = nS v := by decide +kernel
theorem s_lb_n (w : Int32) : w.toInt8.toInt32 = nS (s_lb w) := by rw [s_lb_8]; exact s_lb_n0 _ (s_lb_lt w)
theorem nS_nar0 : ∀ v, v < 256 → vp_nar .byte (nS v) = nS v := by decide +kernel

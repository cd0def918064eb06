/-! the two ways to draw a sixteenth -/
theorem qi_mod16 {n : Nat} (hn : n < 2147483648) : Int32.ofNat n - Int32.ofNat n / 16 * 16 = Int32.ofNat (n % 16) := by
  show Int32.ofNat n - Int32.ofNat n / Int32.ofNat 16 * Int32.ofNat 16 = _
  rw [qi_div hn (by omega), ← Int32.ofNat_mul, qi_sub (by omega)]
  congr 1
  omega
theorem q_ush (s : Int32) : (axUshr s 16 &&& 32767).toBitVec = (s.toBitVec >>> 16) &&& 32767#32 := rfl
theorem q_ash (s : Int32) : ((s >>> ((16 : Int32) &&& 31)) &&& 15).toBitVec = (s.toBitVec.sshiftRight 16) &&& 15#32 := rfl
theorem q_six (s : Int32) : (axUshr s 16 &&& 32767) - (axUshr s 16 &&& 32767) / 16 * 16 = (s >>> ((16 : Int32) &&& 31)) &&& 15 := by
  have h1 : axUshr s 16 &&& 32767 = Int32.ofNat (s.toBitVec.toNat / 65536 % 32768) := by
    apply Int32.toBitVec_inj.1
    rw [q_ush]
    apply BitVec.eq_of_toNat_eq
    rw [BitVec.toNat_and, BitVec.toNat_ushiftRight, Nat.shiftRight_eq_div_pow]
    show (s.toBitVec.toNat / 2 ^ 16) &&& 32767 = (BitVec.ofNat 32 (s.toBitVec.toNat / 65536 % 32768)).toNat
    rw [BitVec.toNat_ofNat, show (32767 : Nat) = 2 ^ 15 - 1 by rfl, Nat.and_two_pow_sub_one_eq_mod]
    omega
  have h2 : (s >>> ((16 : Int32) &&& 31)) &&& 15 = Int32.ofNat (s.toBitVec.toNat / 65536 % 32768 % 16) := by
    apply Int32.toBitVec_inj.1
    rw [q_ash]
    apply BitVec.eq_of_toNat_eq
    rw [BitVec.toNat_and]
    show (s.toBitVec.sshiftRight 16).toNat &&& 15 = (BitVec.ofNat 32 (s.toBitVec.toNat / 65536 % 32768 % 16)).toNat
    rw [BitVec.toNat_ofNat, show (15 : Nat) = 2 ^ 4 - 1 by rfl, Nat.and_two_pow_sub_one_eq_mod]
    have hlt := s.toBitVec.isLt
    cases hm : s.toBitVec.msb with
    | false =>
      rw [BitVec.sshiftRight_eq_of_msb_false hm, BitVec.toNat_ushiftRight, Nat.shiftRight_eq_div_pow]
      omega
    | true =>
      rw [BitVec.sshiftRight_eq_of_msb_true hm, BitVec.toNat_not, BitVec.toNat_ushiftRight, BitVec.toNat_not, Nat.shiftRight_eq_div_pow]
      omega
  rw [h1, h2, qi_mod16 (by omega)]

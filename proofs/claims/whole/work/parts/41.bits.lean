/-! ===== bits as numbers ===== -/
theorem un64 (x : Int) : ((BitVec.ofInt 64 x).toNat : Int) = x % 18446744073709551616 := by
  rw [BitVec.toNat_ofInt]
  have : 0 ≤ x % 18446744073709551616 := Int.emod_nonneg _ (by decide)
  simp only [Nat.reducePow]
  omega
theorem ti64 (b : BitVec 64) : b.toInt = w64 (b.toNat : Int) := by
  have := b.isLt
  rw [BitVec.toInt_eq_toNat_cond]
  unfold w64
  split <;> omega
theorem un32 (x : Int) : ((BitVec.ofInt 32 x).toNat : Int) = x % 4294967296 := by
  rw [BitVec.toNat_ofInt]
  have : 0 ≤ x % 4294967296 := Int.emod_nonneg _ (by decide)
  simp only [Nat.reducePow]
  omega
theorem ti32 (b : BitVec 32) : b.toInt = w32 (b.toNat : Int) := by
  have := b.isLt
  rw [BitVec.toInt_eq_toNat_cond]
  unfold w32
  split <;> omega
theorem and64_lo (x : Int) : o_and64 x 4294967295 = x % 4294967296 := by
  unfold o_and64
  show ((BitVec.ofInt 64 x) &&& (BitVec.ofInt 64 4294967295)).toInt = _
  rw [ti64, BitVec.toNat_and]
  have e : (BitVec.ofInt 64 4294967295).toNat = 2 ^ 32 - 1 := by decide
  rw [e, Nat.and_two_pow_sub_one_eq_mod]
  have := un64 x
  unfold w64
  omega
theorem shr64_32 {x : Int} (h : i64 x) : o_shr64 x 32 = x / 4294967296 := by
  unfold o_shr64
  show ((BitVec.ofInt 64 x).sshiftRight' (BitVec.ofNat 64 32)).toInt = _
  show ((BitVec.ofInt 64 x).sshiftRight 32).toInt = _
  rw [BitVec.toInt_sshiftRight]
  have : (BitVec.ofInt 64 x).toInt = x := by rw [BitVec.toInt_ofInt, ← w64_bmod, w64_id h]
  rw [this, Int.shiftRight_eq_div_pow]
  rfl
theorem ushr64_32 (x : Int) : o_ushr64 x 32 = x % 18446744073709551616 / 4294967296 := by
  unfold o_ushr64
  show ((BitVec.ofInt 64 x) >>> (32 : Nat)).toInt = _
  rw [ti64, BitVec.toNat_ushiftRight, Nat.shiftRight_eq_div_pow]
  have := un64 x
  unfold w64
  omega
theorem shl64_32 (x : Int) : o_shl64 x 32 = w64 (x * 4294967296) := by
  unfold o_shl64
  show ((BitVec.ofInt 64 x) <<< (32 : Nat)).toInt = _
  rw [ti64, BitVec.toNat_shiftLeft, Nat.shiftLeft_eq]
  have := un64 x
  unfold w64
  omega
theorem xor64_m1 {x : Int} (h : i64 x) : o_xor64 x (-1) = -x - 1 := by
  unfold o_xor64
  show ((BitVec.ofInt 64 x) ^^^ (BitVec.ofInt 64 (-1))).toInt = _
  have e : BitVec.ofInt 64 (-1) = BitVec.allOnes 64 := by decide
  rw [e, BitVec.xor_allOnes, ti64, BitVec.toNat_not]
  have := un64 x
  unfold i64 at h
  unfold w64
  simp only [Nat.reducePow]
  omega
theorem xor_top (x : Nat) (hx : x < 18446744073709551616) : x ^^^ 9223372036854775808 = (9223372036854775808 + x) % 18446744073709551616 := by
  apply Nat.eq_of_testBit_eq
  intro i
  rw [Nat.testBit_xor, show (9223372036854775808 : Nat) = 2 ^ 63 by decide, show (18446744073709551616 : Nat) = 2 ^ 64 by decide, Nat.testBit_mod_two_pow, Nat.testBit_two_pow]
  rcases Nat.lt_trichotomy i 63 with q | q | q
  · rw [Nat.testBit_two_pow_add_gt q]
    have : ¬ (63 = i) := by omega
    have q2 : i < 64 := by omega
    simp [this, q2]
  · subst q
    rw [Nat.testBit_two_pow_add_eq]
    simp
  · have : ¬ (63 = i) := by omega
    have q2 : ¬ i < 64 := by omega
    have : x.testBit i = false := Nat.testBit_lt_two_pow (Nat.lt_of_lt_of_le hx (show 2 ^ 64 ≤ 2 ^ i from Nat.pow_le_pow_right (by decide) (by omega)))
    simp [*]
theorem xor64_top {x : Int} (h : i64 x) : o_xor64 x (-9223372036854775808) = x % 18446744073709551616 - 9223372036854775808 := by
  unfold o_xor64
  show ((BitVec.ofInt 64 x) ^^^ (BitVec.ofInt 64 (-9223372036854775808))).toInt = _
  rw [ti64, BitVec.toNat_xor]
  have e3 : (BitVec.ofInt 64 (-9223372036854775808)).toNat = 9223372036854775808 := by decide
  have := un64 x
  rw [e3, xor_top _ (BitVec.isLt _)]
  unfold i64 at h
  unfold w64
  omega
theorem or64_sum (a : Int) {b : Int} (h0 : 0 ≤ b) (h1 : b < 4294967296) : o_or64 (w64 (a * 4294967296)) b = w64 (a * 4294967296 + b) := by
  unfold o_or64
  show ((BitVec.ofInt 64 (w64 (a * 4294967296))) ||| (BitVec.ofInt 64 b)).toInt = _
  rw [ti64, BitVec.toNat_or]
  have e1 : (BitVec.ofInt 64 (w64 (a * 4294967296))).toNat = (a % 4294967296).toNat <<< 32 := by
    have := un64 (w64 (a * 4294967296))
    rw [Nat.shiftLeft_eq]
    unfold w64 at this ⊢
    omega
  have e2 : (BitVec.ofInt 64 b).toNat = b.toNat := by
    have := un64 b
    omega
  rw [e1, e2, ← Nat.shiftLeft_add_eq_or_of_lt (by omega), Nat.shiftLeft_eq]
  unfold w64
  omega
theorem and32_31 (x : Int) : o_and32 x 31 = x % 32 := by
  unfold o_and32
  show ((BitVec.ofInt 32 x) &&& (BitVec.ofInt 32 31)).toInt = _
  rw [ti32, BitVec.toNat_and]
  have e : (BitVec.ofInt 32 31).toNat = 2 ^ 5 - 1 := by decide
  rw [e, Nat.and_two_pow_sub_one_eq_mod]
  have := un32 x
  unfold w32
  omega
theorem ushr32_1 (x : Int) : o_ushr32 x 1 = x % 4294967296 / 2 := by
  unfold o_ushr32
  show ((BitVec.ofInt 32 x) >>> (1 : Nat)).toInt = _
  rw [ti32, BitVec.toNat_ushiftRight, Nat.shiftRight_eq_div_pow]
  have := un32 x
  unfold w32
  omega
theorem ushr32_31 (x : Int) : o_ushr32 x 31 = x % 4294967296 / 2147483648 := by
  unfold o_ushr32
  show ((BitVec.ofInt 32 x) >>> (31 : Nat)).toInt = _
  rw [ti32, BitVec.toNat_ushiftRight, Nat.shiftRight_eq_div_pow]
  have := un32 x
  unfold w32
  omega
theorem shl32_1 (x : Int) : o_shl32 x 1 = w32 (x * 2) := by
  unfold o_shl32
  show ((BitVec.ofInt 32 x) <<< (1 : Nat)).toInt = _
  rw [ti32, BitVec.toNat_shiftLeft, Nat.shiftLeft_eq]
  have := un32 x
  unfold w32
  omega
theorem shl32_31 (x : Int) : o_shl32 x 31 = w32 (x * 2147483648) := by
  unfold o_shl32
  show ((BitVec.ofInt 32 x) <<< (31 : Nat)).toInt = _
  rw [ti32, BitVec.toNat_shiftLeft, Nat.shiftLeft_eq]
  have := un32 x
  unfold w32
  omega
theorem or32_half {a : Int} (y : Int) (h0 : 0 ≤ a) (h1 : a < 2147483648) : o_or32 a (w32 (y * 2147483648)) = w32 (a + y * 2147483648) := by
  unfold o_or32
  show ((BitVec.ofInt 32 a) ||| (BitVec.ofInt 32 (w32 (y * 2147483648)))).toInt = _
  rw [ti32, BitVec.toNat_or, Nat.or_comm]
  have e1 : (BitVec.ofInt 32 (w32 (y * 2147483648))).toNat = (y % 2).toNat <<< 31 := by
    have := un32 (w32 (y * 2147483648))
    rw [Nat.shiftLeft_eq]
    unfold w32 at this ⊢
    omega
  have e2 : (BitVec.ofInt 32 a).toNat = a.toNat := by
    have := un32 a
    omega
  rw [e1, e2, ← Nat.shiftLeft_add_eq_or_of_lt (by omega), Nat.shiftLeft_eq]
  unfold w32
  omega
theorem or32_twice (x : Int) {b : Int} (h0 : 0 ≤ b) (h1 : b < 2) : o_or32 (w32 (x * 2)) b = w32 (x * 2 + b) := by
  unfold o_or32
  show ((BitVec.ofInt 32 (w32 (x * 2))) ||| (BitVec.ofInt 32 b)).toInt = _
  rw [ti32, BitVec.toNat_or]
  have e1 : (BitVec.ofInt 32 (w32 (x * 2))).toNat = (x % 2147483648).toNat <<< 1 := by
    have := un32 (w32 (x * 2))
    rw [Nat.shiftLeft_eq]
    unfold w32 at this ⊢
    omega
  have e2 : (BitVec.ofInt 32 b).toNat = b.toNat := by
    have := un32 b
    omega
  rw [e1, e2, ← Nat.shiftLeft_add_eq_or_of_lt (by omega), Nat.shiftLeft_eq]
  unfold w32
  omega
theorem ushr64_0 {x : Int} (h : i64 x) : o_ushr64 x 0 = x := by
  unfold o_ushr64
  show ((BitVec.ofInt 64 x) >>> (0 : Nat)).toInt = _
  rw [BitVec.ushiftRight_zero, BitVec.toInt_ofInt, ← w64_bmod, w64_id h]

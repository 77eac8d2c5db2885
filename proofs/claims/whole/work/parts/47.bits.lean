/-! PART 47: bits of small numbers. -/
theorem bv_nat {m : Nat} (h : m < 2147483648) : (BitVec.ofNat 32 m).toInt = m := by
  have e : (BitVec.ofNat 32 m).toNat = m := by rw [BitVec.toNat_ofNat]; exact Nat.mod_eq_of_lt (by omega)
  rw [BitVec.toInt_eq_toNat_of_lt (by rw [e]; omega), e]
theorem i32_nat (m : Nat) : (Int32.ofInt (m : Int)).toBitVec = BitVec.ofNat 32 m := by
  rw [Int32.toBitVec_ofInt, BitVec.ofInt_natCast]
theorem b_or {m k : Nat} (hm : m < 2147483648) (hk : k < 2147483648) : iio m k = ((m ||| k : Nat) : Int) := by
  unfold iio
  rw [← Int32.toInt_toBitVec, Int32.toBitVec_or, i32_nat, i32_nat, ← BitVec.ofNat_or]
  exact bv_nat (Nat.or_lt_two_pow (n := 31) hm hk)
theorem b_and {m k : Nat} (hm : m < 2147483648) : ian m k = ((m &&& k : Nat) : Int) := by
  unfold ian
  rw [← Int32.toInt_toBitVec, Int32.toBitVec_and, i32_nat, i32_nat, ← BitVec.ofNat_and]
  exact bv_nat (Nat.lt_of_le_of_lt Nat.and_le_left hm)
theorem b_xor {m k : Nat} (hm : m < 2147483648) (hk : k < 2147483648) : ixr m k = ((m ^^^ k : Nat) : Int) := by
  unfold ixr
  rw [← Int32.toInt_toBitVec, Int32.toBitVec_xor, i32_nat, i32_nat, ← BitVec.ofNat_xor]
  exact bv_nat (Nat.xor_lt_two_pow (n := 31) hm hk)
theorem b_shl : ∀ i : Nat, i < 31 → isl 1 i = ((2 ^ i : Nat) : Int) := by decide +kernel
theorem b_31 : ∀ i : Nat, i < 31 → (Int32.ofInt (i : Int) &&& 31) = Int32.ofInt (i : Int) := by decide +kernel
theorem b_sm : ∀ i : Nat, i < 31 → ((Int32.ofInt (i : Int)).toBitVec.smod 32).toNat = i := by decide +kernel
theorem b_um : ∀ i : Nat, i < 31 → ((Int32.ofInt (i : Int)).toUInt32 &&& Int32.toUInt32 31) = UInt32.ofNat i := by decide +kernel
theorem b_shr {m i : Nat} (hm : m < 2147483648) (hi : i < 31) : isr m i = ((m >>> i : Nat) : Int) := by
  unfold isr
  rw [b_31 i hi, ← Int32.toInt_toBitVec, Int32.toBitVec_shiftRight, BitVec.toInt_sshiftRight', b_sm i hi, i32_nat, bv_nat hm]
  rfl
theorem b_ushr {m i : Nat} (hm : m < 2147483648) (hi : i < 31) : iur m i = ((m >>> i : Nat) : Int) := by
  unfold iur
  rw [b_um i hi, ← Int32.toInt_toBitVec]
  have e : ((Int32.ofInt (m : Int)).toUInt32 >>> UInt32.ofNat i).toInt32.toBitVec = BitVec.ofNat 32 (m >>> i) := by
    apply BitVec.eq_of_toNat_eq
    show ((Int32.ofInt (m : Int)).toUInt32 >>> UInt32.ofNat i).toNat = _
    rw [UInt32.toNat_shiftRight]
    have e1 : (Int32.ofInt (m : Int)).toUInt32.toNat = m := by
      show (Int32.ofInt (m : Int)).toBitVec.toNat = m
      rw [i32_nat, BitVec.toNat_ofNat]
      exact Nat.mod_eq_of_lt (by omega)
    have e2 : (UInt32.ofNat i).toNat = i := UInt32.toNat_ofNat_of_lt' (by show i < 4294967296; omega)
    rw [e1, e2, Nat.mod_eq_of_lt (by omega), BitVec.toNat_ofNat]
    have : m >>> i ≤ m := by rw [Nat.shiftRight_eq_div_pow]; exact Nat.div_le_self _ _
    rw [Nat.mod_eq_of_lt (by omega)]
  rw [e]
  have : m >>> i ≤ m := by rw [Nat.shiftRight_eq_div_pow]; exact Nat.div_le_self _ _
  exact bv_nat (by omega)
theorem b_bit {m i : Nat} (hm : m < 2147483648) (hi : i < 31) : ian (isr m i) 1 = if m.testBit i then 1 else 0 := by
  rw [b_shr hm hi]
  have h := b_and (m := m >>> i) (k := 1) (Nat.lt_of_le_of_lt (by rw [Nat.shiftRight_eq_div_pow]; exact Nat.div_le_self _ _) hm)
  have h : ian ((m >>> i : Nat) : Int) 1 = _ := h
  rw [h, Nat.testBit, Nat.and_comm]
  rcases Nat.mod_two_eq_zero_or_one (m >>> i) with e | e <;> simp [Nat.one_and_eq_mod_two, e]
theorem b_ubit {m i : Nat} (hm : m < 2147483648) (hi : i < 31) : ian (iur m i) 1 = if m.testBit i then 1 else 0 := by
  rw [b_ushr hm hi]
  have h := b_and (m := m >>> i) (k := 1) (Nat.lt_of_le_of_lt (by rw [Nat.shiftRight_eq_div_pow]; exact Nat.div_le_self _ _) hm)
  have h : ian ((m >>> i : Nat) : Int) 1 = _ := h
  rw [h, Nat.testBit, Nat.and_comm]
  rcases Nat.mod_two_eq_zero_or_one (m >>> i) with e | e <;> simp [Nat.one_and_eq_mod_two, e]
theorem or_pow {m i : Nat} (h : m < 2 ^ i) : m ||| 2 ^ i = m + 2 ^ i := by
  have := Nat.two_pow_add_eq_or_of_lt h 1
  rw [Nat.mul_one] at this
  rw [Nat.or_comm, Nat.add_comm, this]

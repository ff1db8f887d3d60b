/-! BITS of small numbers. -/
theorem z_nat (a : Nat) : (Int32.ofInt (a : Int)).toBitVec = BitVec.ofNat 32 a := BitVec.ofInt_natCast 32 a
theorem z_int (v : BitVec 32) (h : v.toNat < 2147483648) : v.toInt = (v.toNat : Int) := BitVec.toInt_eq_toNat_of_lt (by omega)
theorem zand_n (a b : Nat) (ha : a < 2147483648) (hb : b < 2147483648) : zand a b = ((a &&& b : Nat) : Int) := by
  have e : zand a b = (BitVec.ofNat 32 a &&& BitVec.ofNat 32 b).toInt := by
    unfold zand; rw [← z_nat, ← z_nat]; rfl
  have t : (BitVec.ofNat 32 a &&& BitVec.ofNat 32 b).toNat = a &&& b := by
    rw [BitVec.toNat_and, BitVec.toNat_ofNat, BitVec.toNat_ofNat, Nat.mod_eq_of_lt (by omega), Nat.mod_eq_of_lt (by omega)]
  have l : a &&& b ≤ a := Nat.and_le_left
  rw [e, z_int _ (by rw [t]; omega), t]
theorem zor_n (a b : Nat) (ha : a < 2147483648) (hb : b < 2147483648) : zor a b = ((a ||| b : Nat) : Int) := by
  have e : zor a b = (BitVec.ofNat 32 a ||| BitVec.ofNat 32 b).toInt := by
    unfold zor; rw [← z_nat, ← z_nat]; rfl
  have t : (BitVec.ofNat 32 a ||| BitVec.ofNat 32 b).toNat = a ||| b := by
    rw [BitVec.toNat_or, BitVec.toNat_ofNat, BitVec.toNat_ofNat, Nat.mod_eq_of_lt (by omega), Nat.mod_eq_of_lt (by omega)]
  have l : a ||| b < 2 ^ 31 := Nat.or_lt_two_pow (by omega) (by omega)
  rw [e, z_int _ (by rw [t]; omega), t]
theorem zshr_n (a k : Nat) (ha : a < 2147483648) (hk : k < 32) : zshr a k = ((a / 2 ^ k : Nat) : Int) := by
  have key : ∀ k : Nat, k < 32 → ((Int32.ofInt (k : Int) &&& 31).toBitVec.smod 32).toNat = k := by decide +kernel
  have ms : (BitVec.ofNat 32 a).msb = false := by
    rw [BitVec.msb_eq_decide]
    rw [BitVec.toNat_ofNat, Nat.mod_eq_of_lt (by omega)]
    exact decide_eq_false (by omega)
  have e : zshr a k = (BitVec.ofNat 32 a >>> k).toInt := by
    unfold zshr
    show (Int32.ofInt (a : Int) >>> (Int32.ofInt (k : Int) &&& 31)).toBitVec.toInt = _
    rw [Int32.toBitVec_shiftRight, z_nat]
    show (BitVec.sshiftRight (BitVec.ofNat 32 a) ((Int32.ofInt (k : Int) &&& 31).toBitVec.smod 32).toNat).toInt = _
    rw [key k hk, BitVec.sshiftRight_eq_of_msb_false ms]
  have t : (BitVec.ofNat 32 a >>> k).toNat = a / 2 ^ k := by
    rw [BitVec.toNat_ushiftRight, BitVec.toNat_ofNat, Nat.mod_eq_of_lt (by omega), Nat.shiftRight_eq_div_pow]
  have l : a / 2 ^ k ≤ a := Nat.div_le_self _ _
  rw [e, z_int _ (by rw [t]; omega), t]
theorem zbit_n (a k : Nat) (ha : a < 2147483648) (hk : k < 32) : zand (zshr a k) 1 = if a.testBit k then 1 else 0 := by
  have l : a / 2 ^ k ≤ a := Nat.div_le_self _ _
  rw [zshr_n a k ha hk, show (1 : Int) = ((1 : Nat) : Int) from rfl, zand_n _ 1 (by omega) (by decide)]
  rw [Nat.and_one_is_mod, Nat.testBit_eq_decide_div_mod_eq]
  have := Nat.mod_two_eq_zero_or_one (a / 2 ^ k)
  rcases this with z | z <;> simp [z]
theorem zshl_n : ∀ k : Nat, k < 31 → zshl 1 k = ((2 ^ k : Nat) : Int) := by decide +kernel
theorem tb_or (a k j : Nat) : (a ||| 2 ^ k).testBit j = (a.testBit j || decide (k = j)) := by
  rw [Nat.testBit_or, Nat.testBit_two_pow]
theorem zhr_i : ∀ a : Nat, a < 25 → ∀ b : Nat, b < 25 → a ≤ b → w32 (zshl 1 b - zshl 1 a) = zhr ((b : Int) - a).toNat a 0 ∧ w32 (zshl 1 b - zshl 1 a) = ((2 ^ b - 2 ^ a : Nat) : Int) ∧ zpc (w32 (zshl 1 b - zshl 1 a)) = (b : Int) - a := by decide +kernel

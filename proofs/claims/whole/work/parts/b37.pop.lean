/-! HOW MANY BITS. -/
theorem and_spl (u v a b : Nat) (hu : u < 256) (ha : a < 256) : (u + 256 * v) &&& (a + 256 * b) = (u &&& a) + 256 * (v &&& b) := by
  have l : u &&& a < 2 ^ 8 := Nat.lt_of_le_of_lt Nat.and_le_left (by omega)
  apply Nat.eq_of_testBit_eq
  intro i
  rw [Nat.testBit_and, show u + 256 * v = 2 ^ 8 * v + u by omega, show a + 256 * b = 2 ^ 8 * b + a by omega, show (u &&& a) + 256 * (v &&& b) = 2 ^ 8 * (v &&& b) + (u &&& a) by omega,
    Nat.testBit_two_pow_mul_add _ (by omega : u < 2 ^ 8), Nat.testBit_two_pow_mul_add _ (by omega : a < 2 ^ 8), Nat.testBit_two_pow_mul_add _ l]
  split
  · rw [Nat.testBit_and]
  · rw [Nat.testBit_and]
theorem zushr_n (a k : Nat) (ha : a < 2147483648) (hk : k < 32) : zushr a k = ((a / 2 ^ k : Nat) : Int) := by
  have key : ∀ k : Nat, k < 32 → (((Int32.ofInt (k : Int)).toUInt32 &&& Int32.toUInt32 31).toBitVec % 32#32).toNat = k := by decide +kernel
  have e : zushr a k = (BitVec.ofNat 32 a >>> k).toInt := by
    unfold zushr
    show ((Int32.ofInt (a : Int)).toUInt32 >>> ((Int32.ofInt (k : Int)).toUInt32 &&& Int32.toUInt32 31)).toBitVec.toInt = _
    rw [UInt32.toBitVec_shiftRight]
    show (BitVec.ushiftRight (Int32.ofInt (a : Int)).toBitVec (((Int32.ofInt (k : Int)).toUInt32 &&& Int32.toUInt32 31).toBitVec % 32#32).toNat).toInt = _
    rw [key k hk, z_nat]; rfl
  have t : (BitVec.ofNat 32 a >>> k).toNat = a / 2 ^ k := by
    rw [BitVec.toNat_ushiftRight, BitVec.toNat_ofNat, Nat.mod_eq_of_lt (by omega), Nat.shiftRight_eq_div_pow]
  have l : a / 2 ^ k ≤ a := Nat.div_le_self _ _
  rw [e, z_int _ (by rw [t]; omega), t]
/-- of a byte -/
def fb1 (b : Nat) : Nat := b - (b / 2 &&& 85)
def fb2 (b : Nat) : Nat := (fb1 b &&& 51) + (fb1 b / 4 &&& 51)
def fb (b : Nat) : Nat := (fb2 b + fb2 b / 16) % 16
theorem fb_t : ∀ b : Nat, b < 256 → (∀ p : Nat, p < 2 → ((b / 2 + 128 * p) &&& 85) = (b / 2 &&& 85)) ∧ (b / 2 &&& 85) ≤ b ∧ (∀ p : Nat, p < 4 → ((fb1 b / 4 + 64 * p) &&& 51) = (fb1 b / 4 &&& 51)) ∧ fb2 b % 16 ≤ 4 ∧ fb2 b / 16 ≤ 4 ∧ fb b ≤ 8 ∧ fb b = fb2 b % 16 + fb2 b / 16 := by decide +kernel
theorem fb_or : ∀ u : Nat, u < 256 → ∀ v : Nat, v < 256 → u &&& v = 0 → fb (u ||| v) = fb u + fb v := by decide +kernel
theorem sum63 (p q r y : Nat) (hp : p ≤ 8) (hq : q ≤ 8) (hr : r ≤ 8) (hy : y = p + 256 * (q + 256 * r)) : (y + y / 256 + (y + y / 256) / 65536) % 64 = p + q + r := by
  have e1 : y / 256 = q + 256 * r := by omega
  have e2 : (y + y / 256) / 65536 = r := by omega
  rw [e2, e1]; omega
theorem zpc_b (x : Nat) (hx : x < 16777216) : zpc x = ((fb (x % 256) + fb (x / 256 % 256) + fb (x / 65536) : Nat) : Int) := by
  have b0 : x % 256 < 256 := by omega
  have b1 : x / 256 % 256 < 256 := by omega
  have b2 : x / 65536 < 256 := by omega
  have ex : x = x % 256 + 256 * (x / 256 % 256 + 256 * (x / 65536)) := by omega
  generalize x % 256 = u at *
  generalize x / 256 % 256 = v at *
  generalize x / 65536 = w at *
  obtain ⟨u1, u2, u3, u4, u5, u6, u7⟩ := fb_t u b0
  obtain ⟨v1, v2, v3, v4, v5, v6, v7⟩ := fb_t v b1
  obtain ⟨w1, w2, w3, w4, w5, w6, w7⟩ := fb_t w b2
  have s1 : x / 2 &&& 1431655765 = (u / 2 &&& 85) + 256 * ((v / 2 &&& 85) + 256 * (w / 2 &&& 85)) := by
    have e1 : x / 2 = (u / 2 + 128 * (v % 2)) + 256 * ((v / 2 + 128 * (w % 2)) + 256 * (w / 2)) := by omega
    rw [e1, show (1431655765 : Nat) = 85 + 256 * (85 + 256 * 21845) by decide, and_spl _ _ _ _ (by omega) (by decide), and_spl _ _ _ _ (by omega) (by decide), u1 _ (by omega), v1 _ (by omega)]
    have : w / 2 &&& 21845 = w / 2 &&& 85 := by
      have := and_spl (w / 2) 0 85 85 (by omega) (by decide)
      simpa using this
    rw [this]
  have x1 : x - (x / 2 &&& 1431655765) = fb1 u + 256 * (fb1 v + 256 * fb1 w) := by
    rw [s1]; unfold fb1; omega
  have l1 : fb1 u < 256 ∧ fb1 v < 256 ∧ fb1 w < 256 := by unfold fb1; omega
  generalize hx1 : x - (x / 2 &&& 1431655765) = y1 at *
  have m1 : (858993459 : Nat) = 51 + 256 * (51 + 256 * 13107) := by decide
  have c13 : ∀ a : Nat, a < 256 → a &&& 13107 = a &&& 51 := fun a ha => by
    have := and_spl a 0 51 51 ha (by decide)
    simpa using this
  have a51 : ∀ a : Nat, a &&& 51 ≤ 51 := fun a => Nat.and_le_right
  have s2 : y1 &&& 858993459 = (fb1 u &&& 51) + 256 * ((fb1 v &&& 51) + 256 * (fb1 w &&& 51)) := by
    rw [x1, m1, and_spl _ _ _ _ l1.1 (by decide), and_spl _ _ _ _ l1.2.1 (by decide), c13 _ l1.2.2]
  have s3 : y1 / 4 &&& 858993459 = (fb1 u / 4 &&& 51) + 256 * ((fb1 v / 4 &&& 51) + 256 * (fb1 w / 4 &&& 51)) := by
    have e1 : y1 / 4 = (fb1 u / 4 + 64 * (fb1 v % 4)) + 256 * ((fb1 v / 4 + 64 * (fb1 w % 4)) + 256 * (fb1 w / 4)) := by omega
    rw [e1, m1, and_spl _ _ _ _ (by omega) (by decide), and_spl _ _ _ _ (by omega) (by decide), u3 _ (by omega), v3 _ (by omega), c13 _ (by omega)]
  have x2 : (y1 &&& 858993459) + (y1 / 4 &&& 858993459) = fb2 u + 256 * (fb2 v + 256 * fb2 w) := by
    rw [s2, s3]; unfold fb2; omega
  have l2 : fb2 u ≤ 102 ∧ fb2 v ≤ 102 ∧ fb2 w ≤ 102 := by
    unfold fb2
    have := a51 (fb1 u); have := a51 (fb1 v); have := a51 (fb1 w); have := a51 (fb1 u / 4); have := a51 (fb1 v / 4); have := a51 (fb1 w / 4)
    omega
  generalize hy2 : (y1 &&& 858993459) + (y1 / 4 &&& 858993459) = y2 at *
  have m15 : ∀ a : Nat, a &&& 15 = a % 16 := fun a => Nat.and_two_pow_sub_one_eq_mod a 4
  have x3 : (y2 + y2 / 16) &&& 252645135 = fb u + 256 * (fb v + 256 * fb w) := by
    have e1 : y2 + y2 / 16 = (fb2 u + fb2 u / 16 + 16 * (fb2 v % 16)) + 256 * ((fb2 v + fb2 v / 16 + 16 * (fb2 w % 16)) + 256 * (fb2 w + fb2 w / 16)) := by omega
    have c15 : (fb2 w + fb2 w / 16) &&& 3855 = (fb2 w + fb2 w / 16) &&& 15 := by
      have := and_spl (fb2 w + fb2 w / 16) 0 15 15 (by omega) (by decide)
      simpa using this
    rw [e1, show (252645135 : Nat) = 15 + 256 * (15 + 256 * 3855) by decide, and_spl _ _ _ _ (by omega) (by decide), and_spl _ _ _ _ (by omega) (by decide), c15, m15, m15, m15]
    unfold fb; omega
  generalize hy3 : (y2 + y2 / 16) &&& 252645135 = y3 at *
  have m63 : ∀ a : Nat, a &&& 63 = a % 64 := fun a => Nat.and_two_pow_sub_one_eq_mod a 6
  have x5 : (y3 + y3 / 256 + (y3 + y3 / 256) / 65536) &&& 63 = fb u + fb v + fb w := by
    rw [m63]; exact sum63 _ _ _ _ u6 v6 w6 x3
  have i1 : w32 ((x : Int) - zand (zushr x 1) 1431655765) = (y1 : Int) := by
    have e1 : zushr x 1 = ((x / 2 : Nat) : Int) := zushr_n x 1 (by omega) (by decide)
    have e2 : zand ((x / 2 : Nat) : Int) 1431655765 = ((x / 2 &&& 1431655765 : Nat) : Int) := zand_n (x / 2) 1431655765 (by omega) (by decide)
    have le : x / 2 &&& 1431655765 ≤ x / 2 := Nat.and_le_left
    rw [e1, e2, w32_id (by omega) (by omega), ← hx1]; omega
  have i2 : w32 (zand (y1 : Int) 858993459 + zand (zushr (y1 : Int) 2) 858993459) = (y2 : Int) := by
    have e1 : zushr (y1 : Int) 2 = ((y1 / 4 : Nat) : Int) := zushr_n y1 2 (by omega) (by decide)
    have e2 : zand ((y1 / 4 : Nat) : Int) 858993459 = ((y1 / 4 &&& 858993459 : Nat) : Int) := zand_n (y1 / 4) 858993459 (by omega) (by decide)
    have e3 : zand (y1 : Int) 858993459 = ((y1 &&& 858993459 : Nat) : Int) := zand_n y1 858993459 (by omega) (by decide)
    have le := Nat.and_le_left (n := y1) (m := 858993459)
    have le2 := Nat.and_le_left (n := y1 / 4) (m := 858993459)
    rw [e1, e2, e3, w32_id (by omega) (by omega), ← hy2]; omega
  have i3 : zand (w32 ((y2 : Int) + zushr (y2 : Int) 4)) 252645135 = (y3 : Int) := by
    have e1 : zushr (y2 : Int) 4 = ((y2 / 16 : Nat) : Int) := zushr_n y2 4 (by omega) (by decide)
    have e2 : zand ((y2 + y2 / 16 : Nat) : Int) 252645135 = (((y2 + y2 / 16) &&& 252645135 : Nat) : Int) := zand_n (y2 + y2 / 16) 252645135 (by omega) (by decide)
    rw [e1, w32_id (by omega) (by omega), show (y2 : Int) + ((y2 / 16 : Nat) : Int) = ((y2 + y2 / 16 : Nat) : Int) by omega, e2, hy3]
  have i4 : w32 ((y3 : Int) + zushr (y3 : Int) 8) = ((y3 + y3 / 256 : Nat) : Int) := by
    have e1 : zushr (y3 : Int) 8 = ((y3 / 256 : Nat) : Int) := zushr_n y3 8 (by omega) (by decide)
    rw [e1, w32_id (by omega) (by omega)]; omega
  have i5 : w32 (((y3 + y3 / 256 : Nat) : Int) + zushr ((y3 + y3 / 256 : Nat) : Int) 16) = ((y3 + y3 / 256 + (y3 + y3 / 256) / 65536 : Nat) : Int) := by
    have e1 : zushr ((y3 + y3 / 256 : Nat) : Int) 16 = (((y3 + y3 / 256) / 65536 : Nat) : Int) := zushr_n (y3 + y3 / 256) 16 (by omega) (by decide)
    rw [e1, w32_id (by omega) (by omega)]; omega
  have i6 : zand ((y3 + y3 / 256 + (y3 + y3 / 256) / 65536 : Nat) : Int) 63 = (((y3 + y3 / 256 + (y3 + y3 / 256) / 65536) &&& 63 : Nat) : Int) := zand_n (y3 + y3 / 256 + (y3 + y3 / 256) / 65536) 63 (by omega) (by decide)
  unfold zpc
  simp only [i1, i2, i3, i4, i5, i6, x5]
/-- disjoint sets: their bits add up -/
theorem zpc_or {x y : Nat} (hx : x < 16777216) (hy : y < 16777216) (h : x &&& y = 0) : zpc ((x ||| y : Nat) : Int) = zpc x + zpc y ∧ x ||| y < 16777216 := by
  have lt : x ||| y < 2 ^ 24 := Nat.or_lt_two_pow (by omega) (by omega)
  refine ⟨?_, by omega⟩
  have d8 : ∀ a b : Nat, (a ||| b) / 256 = a / 256 ||| b / 256 := fun a b => by
    have := Nat.shiftRight_or_distrib (a := a) (b := b) (i := 8)
    simpa [Nat.shiftRight_eq_div_pow] using this
  have m8 : ∀ a b : Nat, (a ||| b) % 256 = a % 256 ||| b % 256 := fun a b => by
    have := Nat.or_mod_two_pow (a := a) (b := b) (n := 8)
    simpa using this
  have dA : ∀ a b : Nat, (a &&& b) / 256 = a / 256 &&& b / 256 := fun a b => by
    have := Nat.shiftRight_and_distrib (a := a) (b := b) (i := 8)
    simpa [Nat.shiftRight_eq_div_pow] using this
  have mA : ∀ a b : Nat, (a &&& b) % 256 = a % 256 &&& b % 256 := fun a b => by
    have := Nat.and_mod_two_pow (a := a) (b := b) (n := 8)
    simpa using this
  have q0 : x % 256 &&& y % 256 = 0 := by rw [← mA, h]
  have q1 : x / 256 % 256 &&& y / 256 % 256 = 0 := by rw [← mA, ← dA, h]
  have q2 : x / 65536 &&& y / 65536 = 0 := by
    have e : ∀ a : Nat, a / 65536 = a / 256 / 256 := fun a => by omega
    rw [e, e, ← dA, ← dA, h]
  have e2 : (x ||| y) / 65536 = x / 65536 ||| y / 65536 := by
    have e : ∀ a : Nat, a / 65536 = a / 256 / 256 := fun a => by omega
    rw [e, e x, e y, d8, d8]
  rw [zpc_b _ (by omega), zpc_b _ hx, zpc_b _ hy, m8, d8, m8, e2, fb_or _ (by omega) _ (by omega) q0, fb_or _ (by omega) _ (by omega) q1, fb_or _ (by omega) _ (by omega) q2]
  omega

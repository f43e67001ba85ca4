-- LEVEL 2: numbers of 32 and 64 bits as whole numbers, for omega
theorem z_bm (x : Int) : x.bmod (2 ^ 32) = (x + 2147483648) % 4294967296 - 2147483648 := by
  unfold Int.bmod
  simp only [Nat.reducePow]
  split <;> omega
theorem Z_bm (x : Int) : x.bmod (2 ^ 64) = (x + 9223372036854775808) % 18446744073709551616 - 9223372036854775808 := by
  unfold Int.bmod
  simp only [Nat.reducePow]
  split <;> omega
theorem z_rg (a : Int32) : -2147483648 ≤ a.toInt ∧ a.toInt < 2147483648 := ⟨a.le_toInt, a.toInt_lt⟩
theorem Z_rg (a : Int64) : -9223372036854775808 ≤ a.toInt ∧ a.toInt < 9223372036854775808 := ⟨a.le_toInt, a.toInt_lt⟩
theorem z_add (a b : Int32) : (a + b).toInt = (a.toInt + b.toInt + 2147483648) % 4294967296 - 2147483648 := by rw [Int32.toInt_add, z_bm]
theorem z_sub (a b : Int32) : (a - b).toInt = (a.toInt - b.toInt + 2147483648) % 4294967296 - 2147483648 := by rw [Int32.toInt_sub, z_bm]
theorem z_mul (a b : Int32) : (a * b).toInt = (a.toInt * b.toInt + 2147483648) % 4294967296 - 2147483648 := by rw [Int32.toInt_mul, z_bm]
theorem z_neg (a : Int32) : (-a).toInt = (-a.toInt + 2147483648) % 4294967296 - 2147483648 := by rw [Int32.toInt_neg, z_bm]
theorem Z_add (a b : Int64) : (a + b).toInt = (a.toInt + b.toInt + 9223372036854775808) % 18446744073709551616 - 9223372036854775808 := by rw [Int64.toInt_add, Z_bm]
theorem Z_sub (a b : Int64) : (a - b).toInt = (a.toInt - b.toInt + 9223372036854775808) % 18446744073709551616 - 9223372036854775808 := by rw [Int64.toInt_sub, Z_bm]
theorem Z_mul (a b : Int64) : (a * b).toInt = (a.toInt * b.toInt + 9223372036854775808) % 18446744073709551616 - 9223372036854775808 := by rw [Int64.toInt_mul, Z_bm]
theorem z_lt {a b : Int32} : a < b ↔ a.toInt < b.toInt := Int32.lt_iff_toInt_lt
theorem z_le {a b : Int32} : a ≤ b ↔ a.toInt ≤ b.toInt := Int32.le_iff_toInt_le
theorem z_eq {a b : Int32} : a = b ↔ a.toInt = b.toInt := Int32.toInt_inj.symm
theorem Z_lt {a b : Int64} : a < b ↔ a.toInt < b.toInt := Int64.lt_iff_toInt_lt
theorem Z_le {a b : Int64} : a ≤ b ↔ a.toInt ≤ b.toInt := Int64.le_iff_toInt_le
theorem Z_eq {a b : Int64} : a = b ↔ a.toInt = b.toInt := Int64.toInt_inj.symm
theorem z_cl (a : Int32) : a.toNatClampNeg = a.toInt.toNat := rfl
theorem z_of64 (x : Int64) : x.toInt32.toInt = (x.toInt + 2147483648) % 4294967296 - 2147483648 := by rw [Int64.toInt_toInt32, z_bm]
theorem Z_of32 (x : Int32) : x.toInt64.toInt = x.toInt := Int32.toInt_toInt64 x
theorem z_nI {n : Nat} (h : n < 2147483648) : (nI n).toInt = n := nI_toInt h
theorem z_nI' (n : Nat) : (nI n).toInt = ((n : Int) + 2147483648) % 4294967296 - 2147483648 := by
  show (Int32.ofNat n).toInt = _
  rw [Int32.toInt_ofNat', show Int32.size = 2 ^ 32 from rfl, z_bm]
theorem z_nat (x : Int32) : (x.toBitVec.toNat : Int) = x.toInt % 4294967296 := by
  have h : x.toInt = x.toBitVec.toInt := rfl
  rw [h, BitVec.toInt_eq_toNat_cond]
  have := x.toBitVec.isLt
  split <;> omega
theorem Z_nat (x : Int64) : (x.toBitVec.toNat : Int) = x.toInt % 18446744073709551616 := by
  have h : x.toInt = x.toBitVec.toInt := rfl
  rw [h, BitVec.toInt_eq_toNat_cond]
  have := x.toBitVec.isLt
  split <;> omega
theorem z_mask (x : Int32) {m : Int32} (k : Nat) (hm : m.toBitVec.toNat = 2 ^ k - 1) (hk : k ≤ 30) : (x &&& m).toInt = x.toInt % (2 ^ k : Nat) := by
  have hp : 2 ^ k ≤ 2 ^ 30 := Nat.pow_le_pow_right (by omega) hk
  have h0 : 0 < 2 ^ k := Nat.two_pow_pos k
  have hl : x.toBitVec.toNat % 2 ^ k < 2 ^ k := Nat.mod_lt _ h0
  rw [pk_and x k hm, nI_toInt (by omega)]
  have e := z_nat x
  have hd : (4294967296 : Int) = (2 ^ k : Nat) * (2 ^ (32 - k) : Nat) := by
    rw [← Int.natCast_mul, ← Nat.pow_add, show k + (32 - k) = 32 by omega]
    rfl
  rw [Int.natCast_emod, e, hd, Int.emod_emod_of_dvd _ (Int.dvd_mul_right _ _)]
theorem z_255 (x : Int32) : (x &&& 255).toInt = x.toInt % 256 := z_mask x 8 rfl (by omega)
theorem z_127 (x : Int32) : (x &&& 127).toInt = x.toInt % 128 := z_mask x 7 rfl (by omega)
theorem z_31 (x : Int32) : (x &&& 31).toInt = x.toInt % 32 := z_mask x 5 rfl (by omega)
theorem z_in {x : Int32} {n : Nat} : vp_in x n ↔ 0 ≤ x.toInt ∧ x.toInt < n := vp_in_iff
theorem Z_and (x m : Int64) : (x &&& m).toBitVec.toNat = x.toBitVec.toNat &&& m.toBitVec.toNat := by
  rw [Int64.toBitVec_and, BitVec.toNat_and]
theorem Z_mask (x : Int64) {m : Int64} (k : Nat) (hm : m.toBitVec.toNat = 2 ^ k - 1) (hk : k ≤ 62) : (x &&& m).toInt = x.toInt % (2 ^ k : Nat) := by
  have hp : 2 ^ k ≤ 2 ^ 62 := Nat.pow_le_pow_right (by omega) hk
  have h0 : 0 < 2 ^ k := Nat.two_pow_pos k
  have hl : x.toBitVec.toNat % 2 ^ k < 2 ^ k := Nat.mod_lt _ h0
  have e1 := Z_and x m
  rw [hm, Nat.and_two_pow_sub_one_eq_mod] at e1
  have e2 := Z_nat (x &&& m)
  have e := Z_nat x
  have hd : (18446744073709551616 : Int) = (2 ^ k : Nat) * (2 ^ (64 - k) : Nat) := by
    rw [← Int.natCast_mul, ← Nat.pow_add, show k + (64 - k) = 64 by omega]
    rfl
  have e3 : ((x.toBitVec.toNat % 2 ^ k : Nat) : Int) = x.toInt % (2 ^ k : Nat) := by
    rw [Int.natCast_emod, e, hd, Int.emod_emod_of_dvd _ (Int.dvd_mul_right _ _)]
  rw [e1] at e2
  have hr := Z_rg (x &&& m)
  rw [e3] at e2
  have h5 : 0 ≤ x.toInt % ((2 ^ k : Nat) : Int) := by omega
  have h6 : x.toInt % ((2 ^ k : Nat) : Int) < 4611686018427387904 + 1 := by omega
  omega
theorem Z_low (x : Int64) : (x &&& 4294967295).toInt = x.toInt % 4294967296 := Z_mask x 32 rfl (by omega)
theorem Z_255 (x : Int64) : (x &&& 255).toInt = x.toInt % 256 := Z_mask x 8 rfl (by omega)

-- long numbers
theorem Z_and_mod (x : Int64) {m : Int64} (k : Nat) (hm : m.toBitVec.toNat = 2 ^ k - 1) : (x &&& m).toBitVec.toNat = x.toBitVec.toNat % 2 ^ k := by
  rw [Z_and, hm, Nat.and_two_pow_sub_one_eq_mod]
theorem Z_even (v : Int64) : (xb_lushr v 1).toBitVec.toNat = v.toBitVec.toNat / 2 := by
  have := Z_ushr (x := v) (y := 1) (k := 1) rfl (by omega)
  rw [this]
theorem Z_nn {x : Int64} {n : Nat} (h : x.toBitVec.toNat = n) (hn : n < 9223372036854775808) : x.toInt = n := by
  have h1 := Z_nat x
  have h2 := Z_rg x
  omega

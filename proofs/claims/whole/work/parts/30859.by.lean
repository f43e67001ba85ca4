-- bytes in long words
theorem Z_or (x m : Int64) : (x ||| m).toBitVec.toNat = x.toBitVec.toNat ||| m.toBitVec.toNat := by
  rw [Int64.toBitVec_or, BitVec.toNat_or]
theorem Z_xor (x m : Int64) : (x ^^^ m).toBitVec.toNat = x.toBitVec.toNat ^^^ m.toBitVec.toNat := by
  rw [Int64.toBitVec_xor, BitVec.toNat_xor]
theorem z_sh {y : Int32} {k : Nat} (hy : y.toInt = k) (hk : k < 64) : (y.toInt64 &&& 63).toBitVec.toNat = k := by
  rw [Z_and, show (63 : Int64).toBitVec.toNat = 2 ^ 6 - 1 from rfl, Nat.and_two_pow_sub_one_eq_mod]
  have := Z_nat y.toInt64
  rw [Z_of32, hy] at this
  omega
theorem Z_ushr {x : Int64} {y : Int32} {k : Nat} (hy : y.toInt = k) (hk : k < 64) : (xb_lushr x y).toBitVec.toNat = x.toBitVec.toNat / 2 ^ k := by
  have e1 : (y.toInt64.toUInt64 &&& Int64.toUInt64 63).toNat = k := z_sh hy hk
  show (x.toUInt64 >>> (y.toInt64.toUInt64 &&& Int64.toUInt64 63)).toNat = _
  rw [UInt64.toNat_shiftRight, e1, Nat.mod_eq_of_lt hk, Nat.shiftRight_eq_div_pow]
  rfl
theorem Z_shl {x : Int64} {y : Int32} {k : Nat} (hy : y.toInt = k) (hk : k < 64) : (xb_lshl x y).toBitVec.toNat = x.toBitVec.toNat * 2 ^ k % 18446744073709551616 := by
  have e1 := z_sh hy hk
  have e2 : (y.toInt64 &&& 63).toInt = k := by
    have := Z_nat (y.toInt64 &&& 63)
    have := Z_rg (y.toInt64 &&& 63)
    omega
  unfold xb_lshl
  rw [Int64.toBitVec_shiftLeft, BitVec.shiftLeft_eq', BitVec.toNat_shiftLeft]
  have e3 : ((y.toInt64 &&& 63).toBitVec.smod 64).toNat = k := by
    have : (y.toInt64 &&& 63).toBitVec = BitVec.ofNat 64 k := by
      apply BitVec.eq_of_toNat_eq
      rw [e1, BitVec.toNat_ofNat]
      omega
    rw [this]
    have : ∀ k, k < 64 → ((BitVec.ofNat 64 k).smod 64).toNat = k := by decide
    exact this k hk
  rw [e3, Nat.shiftLeft_eq]

/-- the byte at a place of words of eight bytes -/
def byA (l : Nat → Int64) (a : Nat) : Nat := (l (a / 8)).toBitVec.toNat / 2 ^ (8 * (a % 8)) % 256
/-- the place in the world's bytes of a byte of a memory -/
def mpA (sl : Nat → Int32) (p : Nat) : Nat := 65536 * (sl (p / 65536)).toInt.toNat + p % 65536
/-- a number of k bytes, the lowest first -/
def gth (b : Nat → Nat) : Nat → Nat
  | 0 => 0
  | k + 1 => gth b k + 256 ^ k * b k
/-- k bytes of a number written, the lowest first -/
def sto (b a : Nat → Nat) (v : Nat) : Nat → Nat → Nat
  | 0 => b
  | k + 1 => va_up (sto b a v k) (a k) (v / 256 ^ k % 256)
theorem byA_lt (l : Nat → Int64) (a : Nat) : byA l a < 256 := Nat.mod_lt _ (by decide)
theorem gth_cg {b b' : Nat → Nat} : ∀ (k : Nat), (∀ i, i < k → b i = b' i) → gth b k = gth b' k
  | 0, _ => rfl
  | k + 1, h => by unfold gth; rw [gth_cg k (fun i hi => h i (by omega)), h k (by omega)]
theorem by_lem {L v i j : Nat} (hi : i < 8) (hj : j < 8) : ((L &&& (255 * 2 ^ (8 * i) % 18446744073709551616 ^^^ 18446744073709551615)) ||| (v % 256) * 2 ^ (8 * i) % 18446744073709551616) / 2 ^ (8 * j) % 256 = if j = i then v % 256 else L / 2 ^ (8 * j) % 256 := by
  apply Nat.eq_of_testBit_eq
  intro t
  rw [show (256 : Nat) = 2 ^ 8 from rfl, show (18446744073709551616 : Nat) = 2 ^ 64 from rfl, show (18446744073709551615 : Nat) = 2 ^ 64 - 1 from rfl, show (255 : Nat) = 2 ^ 8 - 1 from rfl]
  rw [Nat.testBit_mod_two_pow, Nat.testBit_div_two_pow, Nat.testBit_or, Nat.testBit_and, Nat.testBit_xor, Nat.testBit_mod_two_pow, Nat.testBit_mod_two_pow, Nat.testBit_mul_two_pow, Nat.testBit_mul_two_pow, Nat.testBit_two_pow_sub_one, Nat.testBit_two_pow_sub_one, Nat.testBit_mod_two_pow]
  by_cases ht : t < 8
  · by_cases hij : j = i
    · subst hij
      rw [if_pos rfl, Nat.testBit_mod_two_pow]
      have e1 : t + 8 * j - 8 * j = t := by omega
      have e2 : 8 * j + t - 8 * j = t := by omega
      have e3 : 8 * j + t < 64 := by omega
      have e4 : t + 8 * j < 64 := by omega
      simp [e1, e2, e3, e4, ht]
    · rw [if_neg hij, Nat.testBit_mod_two_pow, Nat.testBit_div_two_pow]
      have e3 : 8 * j + t < 64 := by omega
      have e4 : t + 8 * j < 64 := by omega
      by_cases hlt : j < i
      · have e5 : ¬ 8 * i ≤ 8 * j + t := by omega
        have e6 : ¬ 8 * i ≤ t + 8 * j := by omega
        simp [e3, e4, e5, e6, ht]
      · have e5 : ¬ 8 * j + t - 8 * i < 8 := by omega
        have e6 : ¬ t + 8 * j - 8 * i < 8 := by omega
        simp [e3, e4, e5, e6, ht]
  · split
    · rw [Nat.testBit_mod_two_pow]
      simp [ht]
    · rw [Nat.testBit_mod_two_pow]
      simp [ht]
theorem z_7 (x : Int32) : (x &&& 7).toInt = x.toInt % 8 := z_mask x 3 rfl (by omega)
theorem z_shl3 {x : Int32} {p : Nat} (hx : x.toInt = p) : ((x &&& 7) <<< ((3 : Int32) &&& 31)).toInt = (8 * (p % 8) : Nat) := by
  have e1 := z_7 x
  have e2 := z_nat (x &&& 7)
  have r2 := z_rg (x &&& 7)
  rw [e1, hx] at e2
  have e3 : ((x &&& 7) <<< ((3 : Int32) &&& 31)).toBitVec.toNat = 8 * (p % 8) := by
    rw [Int32.toBitVec_shiftLeft, BitVec.shiftLeft_eq', BitVec.toNat_shiftLeft, show (((3 : Int32) &&& 31).toBitVec.smod 32).toNat = 3 from by decide, Nat.shiftLeft_eq]
    omega
  have e4 := z_nat ((x &&& 7) <<< ((3 : Int32) &&& 31))
  have r4 := z_rg ((x &&& 7) <<< ((3 : Int32) &&& 31))
  omega
/-- a byte read out of a word -/
theorem by_get {l : Nat → Int64} {x : Int32} {p a w : Nat} (hx : x.toInt = p) (ha : a % 8 = p % 8) (hw : w = a / 8) : ((Int64.toInt32 (xb_lushr (l w) ((x &&& 7) <<< ((3 : Int32) &&& 31)))) &&& 255).toInt = byA l a := by
  have e1 := Z_ushr (x := l w) (z_shl3 hx) (by omega)
  have e2 := z_255 (Int64.toInt32 (xb_lushr (l w) ((x &&& 7) <<< ((3 : Int32) &&& 31))))
  rw [e2]
  have e3 : (Int64.toInt32 (xb_lushr (l w) ((x &&& 7) <<< ((3 : Int32) &&& 31)))).toBitVec.toNat = (xb_lushr (l w) ((x &&& 7) <<< ((3 : Int32) &&& 31))).toBitVec.toNat % 4294967296 := by
    rw [Int64.toBitVec_toInt32, BitVec.signExtend_eq_setWidth_of_le _ (by decide), BitVec.toNat_setWidth]
  have e4 := z_nat (Int64.toInt32 (xb_lushr (l w) ((x &&& 7) <<< ((3 : Int32) &&& 31))))
  unfold byA
  rw [ha, ← hw]
  rw [e1] at e3
  generalize (l w).toBitVec.toNat / 2 ^ (8 * (p % 8)) = y at *
  omega
/-- a byte written into a word -/
theorem by_set {l : Nat → Int64} {x x2 : Int32} {p a w : Nat} {v4 : Int32} (hx : x.toInt = p) (ha : a % 8 = p % 8) (hw : w = a / 8) (h4 : v4 = ((x &&& 7) <<< ((3 : Int32) &&& 31))) (b : Nat) : byA (va_up l w (((l w) &&& ((xb_lshl 255 v4) ^^^ (-1))) ||| (xb_lshl ((Int32.toInt64 x2) &&& 255) v4))) b = if b = a then (x2.toInt % 256).toNat else byA l b := by
  have e0 := z_shl3 hx
  rw [← h4] at e0
  have e1 := Z_shl (x := 255) e0 (by omega)
  have e2 := Z_shl (x := (Int32.toInt64 x2) &&& 255) e0 (by omega)
  have e3 : ((Int32.toInt64 x2) &&& 255).toBitVec.toNat = (x2.toInt % 256).toNat := by
    rw [Z_and, show (255 : Int64).toBitVec.toNat = 2 ^ 8 - 1 from rfl, Nat.and_two_pow_sub_one_eq_mod]
    have := Z_nat (Int32.toInt64 x2)
    rw [Z_of32] at this
    omega
  unfold byA
  rw [xh_up]
  by_cases hb : b / 8 = w
  · rw [if_pos hb, Z_or, Z_and, Z_xor, e1, e2, e3, show (255 : Int64).toBitVec.toNat = 255 from rfl, show (-1 : Int64).toBitVec.toNat = 18446744073709551615 from rfl, hb]
    have hv : (x2.toInt % 256).toNat = (x2.toInt % 256).toNat % 256 := by omega
    rw [hv, by_lem (i := p % 8) (by omega) (by omega)]
    by_cases h9 : b = a
    · rw [if_pos h9, if_pos (by omega)]
    · rw [if_neg h9, if_neg (by omega)]
  · rw [if_neg hb, if_neg (fun h9 => hb (by rw [h9, hw]))]
theorem sto_cg {b b' a a' : Nat → Nat} {v : Nat} : ∀ (k : Nat), (∀ c, b c = b' c) → (∀ i, i < k → a i = a' i) → ∀ c, sto b a v k c = sto b' a' v k c
  | 0, h, _, c => h c
  | k + 1, h, h2, c => by
    unfold sto
    rw [xh_up, xh_up, h2 k (by omega), sto_cg k h (fun i hi => h2 i (by omega)) c]

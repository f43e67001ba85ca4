-- equality, whole numbers: what they are
def sgn (w a : Nat) : Int := if a < 2 ^ (w - 1) then (a : Int) else (a : Int) - (2 ^ w : Nat)
/-- bits set, of the lowest n -/
def pcb : Nat → Nat → Nat
  | 0, _ => 0
  | n + 1, x => x % 2 + pcb n (x / 2)
/-- zeros below the lowest bit set, of n bits -/
def ctb : Nat → Nat → Nat
  | 0, _ => 0
  | n + 1, x => if x % 2 = 1 then 0 else 1 + ctb n (x / 2)
def clb (w a : Nat) : Nat := if a = 0 then w else w - 1 - a.log2
def iop (w k a b : Nat) : Nat :=
  if k = 0 then (a + b) % 2 ^ w else if k = 1 then (2 ^ w - b + a) % 2 ^ w else if k = 2 then a * b % 2 ^ w
  else if k = 3 then (Int.tdiv (sgn w a) (sgn w b) % (2 ^ w : Nat)).toNat else if k = 4 then a / b
  else if k = 5 then (Int.tmod (sgn w a) (sgn w b) % (2 ^ w : Nat)).toNat else if k = 6 then a % b
  else if k = 7 then a &&& b else if k = 8 then a ||| b else if k = 9 then a ^^^ b
  else if k = 10 then a * 2 ^ (b % w) % 2 ^ w else if k = 11 then (sgn w a / (2 ^ (b % w) : Nat) % (2 ^ w : Nat)).toNat else if k = 12 then a / 2 ^ (b % w)
  else if k = 13 then a * 2 ^ (b % w) % 2 ^ w ||| a / 2 ^ ((w - b % w) % w) else a / 2 ^ (b % w) ||| a * 2 ^ ((w - b % w) % w) % 2 ^ w
def icn (w k a : Nat) : Nat := if k = 0 then clb w a else if k = 1 then ctb w a else pcb w a
def icm (w k a b : Nat) : Prop :=
  (k = 0 ∧ a = b) ∨ (k = 1 ∧ a ≠ b) ∨ (k = 2 ∧ sgn w a < sgn w b) ∨ (k = 3 ∧ a < b) ∨ (k = 4 ∧ sgn w b < sgn w a) ∨ (k = 5 ∧ b < a) ∨ (k = 6 ∧ sgn w a ≤ sgn w b) ∨ (k = 7 ∧ a ≤ b) ∨ (k = 8 ∧ sgn w b ≤ sgn w a) ∨ (k = 9 ∧ b ≤ a)
/-- 0, or the trap of a division -/
def itr (w k a b : Nat) : Nat := if 3 ≤ k ∧ k ≤ 6 ∧ b = 0 then 3 else if k = 3 ∧ a = 2 ^ (w - 1) ∧ b = 2 ^ w - 1 then 4 else 0
theorem sg32 (x : Int32) : x.toInt = sgn 32 x.toBitVec.toNat := by
  have c1 := z_nat x
  have c2 := z_rg x
  unfold sgn
  split <;> omega
theorem sg64 (x : Int64) : x.toInt = sgn 64 x.toBitVec.toNat := by
  have c1 := Z_nat x
  have c2 := Z_rg x
  unfold sgn
  split <;> omega
theorem N32 {x : Int32} {v : Int} (h : x.toInt = (v + 2147483648) % 4294967296 - 2147483648) : x.toBitVec.toNat = (v % 4294967296).toNat := by
  have c1 := z_nat x
  rw [h] at c1
  omega
theorem N64 {x : Int64} {v : Int} (h : x.toInt = (v + 9223372036854775808) % 18446744073709551616 - 9223372036854775808) : x.toBitVec.toNat = (v % 18446744073709551616).toNat := by
  have c1 := Z_nat x
  rw [h] at c1
  omega
theorem z_shg {y : Int32} {k : Nat} (hy : y.toInt % 64 = k) : (y.toInt64 &&& 63).toBitVec.toNat = k := by
  rw [Z_and, show (63 : Int64).toBitVec.toNat = 2 ^ 6 - 1 from rfl, Nat.and_two_pow_sub_one_eq_mod]
  have := Z_nat y.toInt64
  rw [Z_of32] at this
  omega
theorem z_smod {v : BitVec 64} {k : Nat} (h : v.toNat = k) (hk : k < 64) : (v.smod 64).toNat = k := by
  have : v = BitVec.ofNat 64 k := by
    apply BitVec.eq_of_toNat_eq
    rw [h, BitVec.toNat_ofNat]
    omega
  rw [this]
  have : ∀ k, k < 64 → ((BitVec.ofNat 64 k).smod 64).toNat = k := by decide
  exact this k hk
theorem z_smod32 {v : BitVec 32} {k : Nat} (h : v.toNat = k) (hk : k < 32) : (v.smod 32).toNat = k := by
  have : v = BitVec.ofNat 32 k := by
    apply BitVec.eq_of_toNat_eq
    rw [h, BitVec.toNat_ofNat]
    omega
  rw [this]
  have : ∀ k, k < 32 → ((BitVec.ofNat 32 k).smod 32).toNat = k := by decide
  exact this k hk
section SHG
variable {x : Int64} {y : Int32} {k : Nat}
theorem Z_ushrG (hy : y.toInt % 64 = k) : (xb_lushr x y).toBitVec.toNat = x.toBitVec.toNat / 2 ^ k := by
  have e1 : (y.toInt64.toUInt64 &&& Int64.toUInt64 63).toNat = k := z_shg hy
  show (x.toUInt64 >>> (y.toInt64.toUInt64 &&& Int64.toUInt64 63)).toNat = _
  rw [UInt64.toNat_shiftRight, e1, Nat.mod_eq_of_lt (show k < 64 by omega), Nat.shiftRight_eq_div_pow]
  rfl
theorem Z_shlG (hy : y.toInt % 64 = k) : (xb_lshl x y).toBitVec.toNat = x.toBitVec.toNat * 2 ^ k % 18446744073709551616 := by
  unfold xb_lshl
  rw [Int64.toBitVec_shiftLeft, BitVec.shiftLeft_eq', BitVec.toNat_shiftLeft, z_smod (z_shg hy) (by omega), Nat.shiftLeft_eq]
theorem Z_sarG (hy : y.toInt % 64 = k) : (xb_lshr x y).toInt = x.toInt / (2 ^ k : Nat) := by
  show (xb_lshr x y).toBitVec.toInt = _
  unfold xb_lshr
  rw [Int64.toBitVec_shiftRight]
  show (x.toBitVec.sshiftRight ((y.toInt64 &&& 63).toBitVec.smod 64).toNat).toInt = _
  rw [BitVec.toInt_sshiftRight, z_smod (z_shg hy) (by omega), Int.shiftRight_eq_div_pow]
  rfl
end SHG
section SH32
variable {x y : Int32} {k : Nat}
theorem z_sh32 (hy : y.toBitVec.toNat % 32 = k) : (y &&& 31).toBitVec.toNat = k := by
  rw [Int32.toBitVec_and, BitVec.toNat_and, show (31 : Int32).toBitVec.toNat = 2 ^ 5 - 1 from rfl, Nat.and_two_pow_sub_one_eq_mod]
  exact hy
theorem z_ushr32 (hy : y.toBitVec.toNat % 32 = k) : (xb_ushr x y).toBitVec.toNat = x.toBitVec.toNat / 2 ^ k := by
  have e1 : (y.toUInt32 &&& Int32.toUInt32 31).toNat = k := z_sh32 hy
  show (x.toUInt32 >>> (y.toUInt32 &&& Int32.toUInt32 31)).toNat = _
  rw [UInt32.toNat_shiftRight, e1, Nat.mod_eq_of_lt (show k < 32 by omega), Nat.shiftRight_eq_div_pow]
  rfl
theorem z_shl32 (hy : y.toBitVec.toNat % 32 = k) : (x <<< (y &&& 31)).toBitVec.toNat = x.toBitVec.toNat * 2 ^ k % 4294967296 := by
  rw [Int32.toBitVec_shiftLeft, BitVec.shiftLeft_eq', BitVec.toNat_shiftLeft, z_smod32 (z_sh32 hy) (by omega), Nat.shiftLeft_eq]
theorem z_sar32 (hy : y.toBitVec.toNat % 32 = k) : (x >>> (y &&& 31)).toInt = x.toInt / (2 ^ k : Nat) := by
  show ((x >>> (y &&& 31)).toBitVec).toInt = _
  rw [Int32.toBitVec_shiftRight]
  show (x.toBitVec.sshiftRight ((y &&& 31).toBitVec.smod 32).toNat).toInt = _
  rw [BitVec.toInt_sshiftRight, z_smod32 (z_sh32 hy) (by omega), Int.shiftRight_eq_div_pow]
  rfl
end SH32
theorem z_or32 (x m : Int32) : (x ||| m).toBitVec.toNat = x.toBitVec.toNat ||| m.toBitVec.toNat := by
  rw [Int32.toBitVec_or, BitVec.toNat_or]
theorem z_and32 (x m : Int32) : (x &&& m).toBitVec.toNat = x.toBitVec.toNat &&& m.toBitVec.toNat := by
  rw [Int32.toBitVec_and, BitVec.toNat_and]
theorem z_xor32 (x m : Int32) : (x ^^^ m).toBitVec.toNat = x.toBitVec.toNat ^^^ m.toBitVec.toNat := by
  rw [Int32.toBitVec_xor, BitVec.toNat_xor]
theorem z_add32 (x m : Int32) : (x + m).toBitVec.toNat = (x.toBitVec.toNat + m.toBitVec.toNat) % 4294967296 := by
  rw [Int32.toBitVec_add, BitVec.toNat_add]
theorem z_sub32 (x m : Int32) : (x - m).toBitVec.toNat = (4294967296 - m.toBitVec.toNat + x.toBitVec.toNat) % 4294967296 := by
  rw [Int32.toBitVec_sub, BitVec.toNat_sub]
theorem z_mul32 (x m : Int32) : (x * m).toBitVec.toNat = x.toBitVec.toNat * m.toBitVec.toNat % 4294967296 := by
  rw [Int32.toBitVec_mul, BitVec.toNat_mul]
theorem Z_subG (x m : Int64) : (x - m).toBitVec.toNat = (18446744073709551616 - m.toBitVec.toNat + x.toBitVec.toNat) % 18446744073709551616 := by
  rw [Int64.toBitVec_sub, BitVec.toNat_sub]
/-- a short number among the long ones -/
theorem z_low32 {v : Int64} {a : Nat} (h : v.toBitVec.toNat = a) : (Int64.toInt32 v).toBitVec.toNat = a % 4294967296 := by
  have c1 := z_nat (Int64.toInt32 v)
  have c2 := Z_nat v
  rw [z_of64] at c1
  omega
theorem Z_up32 {x : Int32} {a : Nat} (h : x.toBitVec.toNat = a) : (Int32.toInt64 x &&& 4294967295).toBitVec.toNat = a := by
  have c1 := z_nat x
  have c2 := Z_nat (Int32.toInt64 x &&& 4294967295)
  have c3 := Z_low_rg (Int32.toInt64 x)
  have c4 := x.toBitVec.isLt
  rw [Z_low, Z_of32] at c2
  omega
-- bits are counted
theorem and_pc {B a m r s : Nat} {k : Nat} (hB : B = 2 ^ k) (hr : r < B) (hs : s < B) : (B * a + r) &&& (B * m + s) = B * (a &&& m) + (r &&& s) := by
  subst hB
  have hp : 0 < 2 ^ k := Nat.pow_pos (by decide)
  have e1 : ((2 ^ k * a + r) &&& (2 ^ k * m + s)) / 2 ^ k = a &&& m := by
    rw [Nat.and_div_two_pow, Nat.mul_add_div hp, Nat.mul_add_div hp, Nat.div_eq_of_lt hr, Nat.div_eq_of_lt hs, Nat.add_zero, Nat.add_zero]
  have e2 : ((2 ^ k * a + r) &&& (2 ^ k * m + s)) % 2 ^ k = r &&& s := by
    rw [Nat.and_mod_two_pow, Nat.mul_add_mod, Nat.mul_add_mod, Nat.mod_eq_of_lt hr, Nat.mod_eq_of_lt hs]
  have := Nat.div_add_mod ((2 ^ k * a + r) &&& (2 ^ k * m + s)) (2 ^ k)
  rw [e1, e2] at this
  exact this.symm
/-- s in each of n bytes -/
def byM (s : Nat) : Nat → Nat
  | 0 => 0
  | n + 1 => 256 * byM s n + s
/-- f of each of n bytes -/
def byF (f : Nat → Nat) : Nat → Nat → Nat
  | 0, _ => 0
  | n + 1, x => 256 * byF f n (x / 256) + f (x % 256)
def pb1 (c : Nat) : Nat := c - (c / 2 &&& 85)
def pb2 (c : Nat) : Nat := (c &&& 51) + (c / 4 &&& 51)
def pb3 (c : Nat) : Nat := (c + c / 16) % 16
theorem pb1_ok : ∀ c, c < 256 → ∀ z, z < 2 → (c / 2 + 128 * z &&& 85) = (c / 2 &&& 85) ∧ (c / 2 &&& 85) ≤ c := by decide +kernel
theorem pb2_ok : ∀ c, c < 256 → ∀ z, z < 4 → (c / 4 + 64 * z &&& 51) = (c / 4 &&& 51) := by decide +kernel
theorem pb3_ok : ∀ c, c < 256 → pb2 (pb1 c) % 16 ≤ 4 ∧ pb2 (pb1 c) / 16 ≤ 4 ∧ pb1 c < 256 ∧ pb2 (pb1 c) < 256 ∧ pb3 (pb2 (pb1 c)) = pcb 8 c ∧ pb3 (pb2 (pb1 c)) ≤ 8 := by decide +kernel
theorem by1 : ∀ (n x : Nat), x < 256 ^ n → (x / 2 &&& byM 85 n) ≤ x ∧ x - (x / 2 &&& byM 85 n) = byF pb1 n x
  | 0, x, h => by
    have : x = 0 := by rw [Nat.pow_zero] at h; omega
    rw [this]
    exact ⟨Nat.le_refl _, rfl⟩
  | n + 1, x, h => by
    have hy : x / 256 < 256 ^ n := Nat.div_lt_of_lt_mul (by rw [Nat.mul_comm, ← Nat.pow_succ]; exact h)
    obtain ⟨i1, i2⟩ := by1 n (x / 256) hy
    have hc := Nat.mod_lt x (show 0 < 256 by decide)
    have hz := Nat.mod_lt (x / 256) (show 0 < 2 by decide)
    obtain ⟨p1, p2⟩ := pb1_ok (x % 256) hc (x / 256 % 2) hz
    have e : x / 2 = 256 * (x / 256 / 2) + (x % 256 / 2 + 128 * (x / 256 % 2)) := by omega
    have e2 : (x / 2 &&& byM 85 (n + 1)) = 256 * (x / 256 / 2 &&& byM 85 n) + (x % 256 / 2 &&& 85) := by
      rw [e, show byM 85 (n + 1) = 256 * byM 85 n + 85 from rfl, and_pc (k := 8) rfl (by omega) (by omega), p1]
    rw [e2]
    show _ ∧ _ = 256 * byF pb1 n (x / 256) + pb1 (x % 256)
    rw [← i2]
    unfold pb1
    have := Nat.div_add_mod x 256
    omega
theorem byF_lt {f : Nat → Nat} (hf : ∀ c, c < 256 → f c < 256) : ∀ (n x : Nat), byF f n x < 256 ^ n
  | 0, x => by rw [Nat.pow_zero]; exact Nat.one_pos
  | n + 1, x => by
    have i := byF_lt hf n (x / 256)
    have j := hf (x % 256) (Nat.mod_lt _ (by decide))
    show 256 * byF f n (x / 256) + f (x % 256) < 256 ^ (n + 1)
    rw [Nat.pow_succ]
    omega
theorem by2 : ∀ (n x : Nat), (x &&& byM 51 n) + (x / 4 &&& byM 51 n) = byF pb2 n x
  | 0, x => by
    show (x &&& 0) + (x / 4 &&& 0) = 0
    rw [Nat.and_zero, Nat.and_zero]
  | n + 1, x => by
    have i := by2 n (x / 256)
    have hc := Nat.mod_lt x (show 0 < 256 by decide)
    have hz := Nat.mod_lt (x / 256) (show 0 < 4 by decide)
    have p1 := pb2_ok (x % 256) hc (x / 256 % 4) hz
    have e : x / 4 = 256 * (x / 256 / 4) + (x % 256 / 4 + 64 * (x / 256 % 4)) := by omega
    have e2 : (x / 4 &&& byM 51 (n + 1)) = 256 * (x / 256 / 4 &&& byM 51 n) + (x % 256 / 4 &&& 51) := by
      rw [e, show byM 51 (n + 1) = 256 * byM 51 n + 51 from rfl, and_pc (k := 8) rfl (by omega) (by omega), p1]
    have e3 : (x &&& byM 51 (n + 1)) = 256 * (x / 256 &&& byM 51 n) + (x % 256 &&& 51) := by
      have := Nat.div_add_mod x 256
      rw [show (x &&& byM 51 (n + 1)) = ((256 * (x / 256) + x % 256) &&& (256 * byM 51 n + 51)) by rw [this]; rfl, and_pc (k := 8) rfl hc (by omega)]
    rw [e2, e3]
    show _ = 256 * byF pb2 n (x / 256) + pb2 (x % 256)
    rw [← i]
    unfold pb2
    omega
theorem byF_c (f g : Nat → Nat) (hg : ∀ c, c < 256 → g c < 256) : ∀ (n x : Nat), byF f n (byF g n x) = byF (fun c => f (g c)) n x
  | 0, x => rfl
  | n + 1, x => by
    have j := hg (x % 256) (Nat.mod_lt _ (by decide))
    show 256 * byF f n ((256 * byF g n (x / 256) + g (x % 256)) / 256) + f ((256 * byF g n (x / 256) + g (x % 256)) % 256) = 256 * byF (fun c => f (g c)) n (x / 256) + f (g (x % 256))
    rw [show (256 * byF g n (x / 256) + g (x % 256)) / 256 = byF g n (x / 256) by omega, show (256 * byF g n (x / 256) + g (x % 256)) % 256 = g (x % 256) by omega, byF_c f g hg n]
/-- bytes whose halves are both small -/
def smB (x : Nat) : Nat → Prop
  | 0 => x = 0
  | n + 1 => x % 16 ≤ 4 ∧ x % 256 / 16 ≤ 4 ∧ smB (x / 256) n
theorem by3 : ∀ (n x : Nat), smB x n → (x + x / 16 &&& byM 15 n) = byF pb3 n x ∧ x + x / 16 < 256 ^ n
  | 0, x, h => by
    have : x = 0 := h
    rw [this]
    exact ⟨rfl, by decide⟩
  | n + 1, x, h => by
    obtain ⟨h1, h2, h3⟩ := h
    obtain ⟨i, i2⟩ := by3 n (x / 256) h3
    have hc := Nat.mod_lt x (show 0 < 256 by decide)
    have h4 : x / 256 % 16 ≤ 4 := by
      cases n with
      | zero =>
        have : x / 256 = 0 := h3
        omega
      | succ n => exact h3.1
    have e : x + x / 16 = 256 * (x / 256 + x / 256 / 16) + (x % 256 + x % 256 / 16 + 16 * (x / 256 % 16)) := by omega
    have hl : x % 256 + x % 256 / 16 + 16 * (x / 256 % 16) < 256 := by omega
    constructor
    · rw [e, show byM 15 (n + 1) = 256 * byM 15 n + 15 from rfl, and_pc (k := 8) rfl hl (by omega), i]
      show _ = 256 * byF pb3 n (x / 256) + pb3 (x % 256)
      congr 1
      rw [show (15 : Nat) = 2 ^ 4 - 1 from rfl, Nat.and_two_pow_sub_one_eq_mod]
      unfold pb3
      omega
    · rw [Nat.pow_succ]
      omega
theorem smB_2 : ∀ (n x : Nat), smB (byF (fun c => pb2 (pb1 c)) n x) n
  | 0, x => rfl
  | n + 1, x => by
    have hc := Nat.mod_lt x (show 0 < 256 by decide)
    obtain ⟨p1, p2, p3, p4, -⟩ := pb3_ok (x % 256) hc
    have i := smB_2 n (x / 256)
    show smB (256 * byF (fun c => pb2 (pb1 c)) n (x / 256) + pb2 (pb1 (x % 256))) (n + 1)
    refine ⟨by omega, by omega, ?_⟩
    rw [show (256 * byF (fun c => pb2 (pb1 c)) n (x / 256) + pb2 (pb1 (x % 256))) / 256 = byF (fun c => pb2 (pb1 c)) n (x / 256) by omega]
    exact i
theorem pcb_add : ∀ (k n x : Nat), pcb (n + k) x = pcb k x + pcb n (x / 2 ^ k)
  | 0, n, x => by
    show pcb n x = 0 + pcb n (x / 1)
    rw [Nat.div_one, Nat.zero_add]
  | k + 1, n, x => by
    show x % 2 + pcb (n + k) (x / 2) = x % 2 + pcb k (x / 2) + pcb n (x / 2 ^ (k + 1))
    rw [pcb_add k n (x / 2), Nat.div_div_eq_div_mul, Nat.pow_succ, Nat.mul_comm (2 ^ k) 2]
    omega
theorem pcb_mod : ∀ (n x : Nat), pcb n (x % 2 ^ n) = pcb n x
  | 0, x => rfl
  | n + 1, x => by
    show x % 2 ^ (n + 1) % 2 + pcb n (x % 2 ^ (n + 1) / 2) = x % 2 + pcb n (x / 2)
    have e1 : x % 2 ^ (n + 1) % 2 = x % 2 := Nat.mod_mod_of_dvd _ ⟨2 ^ n, by rw [Nat.pow_succ, Nat.mul_comm]⟩
    have e2 : x % 2 ^ (n + 1) / 2 = x / 2 % 2 ^ n := by rw [Nat.pow_succ, Nat.mul_comm, Nat.mod_mul_right_div_self]
    rw [e1, e2, pcb_mod n]

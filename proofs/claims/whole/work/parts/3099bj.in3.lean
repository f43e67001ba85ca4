-- equality, whole numbers: the class reckons
theorem dv32 (x y : Int32) : (x / y).toInt = (Int.tdiv x.toInt y.toInt + 2147483648) % 4294967296 - 2147483648 := by rw [Int32.toInt_div, z_bm]
theorem dv64 (x y : Int64) : (x / y).toInt = (Int.tdiv x.toInt y.toInt + 9223372036854775808) % 18446744073709551616 - 9223372036854775808 := by rw [Int64.toInt_div, Z_bm]
theorem wr_sm {M a q y z : Int} (k : Int) (hy : y = q + M * k) : ∃ j, y * z = q * z + M * j := ⟨k * z, by rw [hy, Int.add_mul, Int.mul_assoc]⟩
theorem rm32 (x y : Int32) : (x - x / y * y).toBitVec.toNat = (Int.tmod x.toInt y.toInt % 4294967296).toNat := by
  have e := dv32 x y
  obtain ⟨j, hj⟩ := wr_sm (M := 4294967296) (a := 0) (z := y.toInt) (-((Int.tdiv x.toInt y.toInt + 2147483648) / 4294967296)) (show (x / y).toInt = Int.tdiv x.toInt y.toInt + _ by rw [e]; omega)
  have c1 := z_nat (x - x / y * y)
  rw [z_sub, z_mul, hj] at c1
  rw [Int.tmod_def, Int.mul_comm y.toInt]
  generalize Int.tdiv x.toInt y.toInt * y.toInt = P at *
  omega
theorem rm64 (x y : Int64) : (x - x / y * y).toBitVec.toNat = (Int.tmod x.toInt y.toInt % 18446744073709551616).toNat := by
  have e := dv64 x y
  obtain ⟨j, hj⟩ := wr_sm (M := 18446744073709551616) (a := 0) (z := y.toInt) (-((Int.tdiv x.toInt y.toInt + 9223372036854775808) / 18446744073709551616)) (show (x / y).toInt = Int.tdiv x.toInt y.toInt + _ by rw [e]; omega)
  have c1 := Z_nat (x - x / y * y)
  rw [Z_sub, Z_mul, hj] at c1
  rw [Int.tmod_def, Int.mul_comm y.toInt]
  generalize Int.tdiv x.toInt y.toInt * y.toInt = P at *
  omega
/-- numbers of no sign, below 2^63 -/
theorem dvN64 {x y : Int64} {a b : Nat} (hx : x.toBitVec.toNat = a) (hy : y.toBitVec.toNat = b) (ha : a < 9223372036854775808) (hb : b < 9223372036854775808) : (x / y).toBitVec.toNat = a / b := by
  have e := dv64 x y
  rw [Z_nn hx ha, Z_nn hy hb, show Int.tdiv (a : Int) (b : Int) = ((a / b : Nat) : Int) from (Int.ofNat_tdiv a b).symm] at e
  have := Nat.div_le_self a b
  have c1 := Z_nat (x / y)
  generalize a / b = q at *
  omega
theorem mdN64 {x y : Int64} {a b : Nat} (hx : x.toBitVec.toNat = a) (hy : y.toBitVec.toNat = b) (ha : a < 9223372036854775808) (hb : b < 9223372036854775808) : (x - x / y * y).toBitVec.toNat = a % b := by
  rw [rm64, Z_nn hx ha, Z_nn hy hb, show Int.tmod (a : Int) (b : Int) = ((a % b : Nat) : Int) from (Int.ofNat_tmod a b).symm]
  have := Nat.mod_le a b
  generalize a % b = q at *
  omega
section INT3
variable {h : xb_H}
theorem ex_countShort {x0 x : Int32} {k a : Nat} {Qr : Int32 → xb_H → Prop} (h0 : x0.toInt = k) (hk : k ≤ 2) (hx : x.toBitVec.toNat = a) (hQ : ∀ r : Int32, r.toInt = icn 32 k a → Qr r h) : w_Whole_countShort x0 x h Qr := by
  have la : a < 4294967296 := by rw [← hx]; exact x.toBitVec.isLt
  have k0 : x0 = 0 ↔ k = 0 := by rw [z_eq, h0, show (0 : Int32).toInt = 0 from rfl]; omega
  have k1 : x0 = 1 ↔ k = 1 := by rw [z_eq, h0, show (1 : Int32).toInt = 1 from rfl]; omega
  unfold w_Whole_countShort
  rw [k0, k1]
  refine ⟨fun e => ex_za (Z_up32 hx) (fun r hr _ => hQ _ ?_), fun e => ex_ibc rfl (fun r hr _ => hQ _ ?_), fun e1 e2 => ex_ibc hx (fun r hr _ => hQ _ ?_)⟩
  · unfold icn
    rw [if_pos e, z_sub, show (32 : Int32).toInt = 32 from rfl, hr]
    unfold clb
    rcases Nat.eq_zero_or_pos a with h9 | h9
    · rw [if_pos h9, if_pos h9]
      rfl
    · have : a.log2 < 32 := (Nat.log2_lt (by omega)).mpr la
      rw [if_neg (by omega), if_neg (by omega)]
      omega
  · unfold icn
    rw [if_neg (by omega), if_pos e, hr, z_and32, z_xor32, z_sub32, hx, show (-1 : Int32).toBitVec.toNat = 2 ^ 32 - 1 from rfl, show (1 : Int32).toBitVec.toNat = 1 from rfl, ← ct_p 32 a la]
  · unfold icn
    rw [if_neg e1, if_neg e2, hr]
theorem ex_countLong {x0 : Int32} {x : Int64} {k a : Nat} {Qr : Int32 → xb_H → Prop} (h0 : x0.toInt = k) (hk : k ≤ 2) (hx : x.toBitVec.toNat = a) (hQ : ∀ r : Int32, r.toInt = icn 64 k a → Qr r h) : w_Whole_countLong x0 x h Qr := by
  have la : a < 18446744073709551616 := by rw [← hx]; exact x.toBitVec.isLt
  have k0 : x0 = 0 ↔ k = 0 := by rw [z_eq, h0, show (0 : Int32).toInt = 0 from rfl]; omega
  have k1 : x0 = 1 ↔ k = 1 := by rw [z_eq, h0, show (1 : Int32).toInt = 1 from rfl]; omega
  unfold w_Whole_countLong
  rw [k0, k1]
  refine ⟨fun e => ex_za hx (fun r hr _ => hQ _ ?_), fun e => ex_lbc rfl (fun r hr _ => hQ _ ?_), fun e1 e2 => ex_lbc hx (fun r hr _ => hQ _ ?_)⟩
  · unfold icn
    rw [if_pos e, hr]
  · unfold icn
    rw [if_neg (by omega), if_pos e, hr, Z_and, Z_xor, Z_subG, hx, show (-1 : Int64).toBitVec.toNat = 2 ^ 64 - 1 from rfl, show (1 : Int64).toBitVec.toNat = 1 from rfl, ← ct_p 64 a la]
  · unfold icn
    rw [if_neg e1, if_neg e2, hr]
theorem ex_trapOf {x0 x1 x2 : Int32} {w k a b : Nat} {Qr : Int32 → xb_H → Prop} (h0 : x0.toInt = k) (h1 : x1 = 0 ↔ b ≠ 0) (h2 : x2 = 0 ↔ ¬ (a = 2 ^ (w - 1) ∧ b = 2 ^ w - 1)) (hQ : ∀ r : Int32, r.toInt = itr w k a b → Qr r h) : w_Whole_trapOf x0 x1 x2 h Qr := by
  have k3 : x0 = 3 ↔ k = 3 := by rw [z_eq, h0, show (3 : Int32).toInt = 3 from rfl]; omega
  have l3 : x0 < 3 ↔ k < 3 := by rw [z_lt, h0, show (3 : Int32).toInt = 3 from rfl]; omega
  have l6 : 6 < x0 ↔ 6 < k := by rw [z_lt, h0, show (6 : Int32).toInt = 6 from rfl]; omega
  unfold w_Whole_trapOf w_Whole_trapOf_L17 w_Whole_trapOf_L30 w_Whole_trapOf_L31
  rw [k3, l3, l6, h1, h2]
  have L : ¬ (3 ≤ k ∧ k ≤ 6 ∧ b = 0) → (¬ k = 3 → Qr 0 h) ∧ (k = 3 → (¬ (a = 2 ^ (w - 1) ∧ b = 2 ^ w - 1) → Qr 0 h) ∧ (¬ ¬ (a = 2 ^ (w - 1) ∧ b = 2 ^ w - 1) → Qr 4 h)) := by
    intro e
    refine ⟨fun e1 => hQ _ ?_, fun e1 => ⟨fun e2 => hQ _ ?_, fun e2 => hQ _ ?_⟩⟩
    · unfold itr
      rw [if_neg e, if_neg (fun h9 => e1 h9.1)]
      rfl
    · unfold itr
      rw [if_neg e, if_neg (fun h9 => e2 h9.2)]
      rfl
    · unfold itr
      rw [if_neg e, if_pos ⟨e1, Classical.not_not.mp e2⟩]
      rfl
  refine ⟨fun e => L (by omega), fun e1 => ⟨fun e => L (by omega), fun e2 => ⟨fun e => L (by omega), fun e3 => hQ _ ?_⟩⟩⟩
  unfold itr
  rw [if_pos ⟨by omega, by omega, by omega⟩]
  rfl
theorem ex_divideShort {x0 x y : Int32} {k a b : Nat} {Qr : Int32 → xb_H → Prop} (h0 : x0.toInt = k) (k3 : 3 ≤ k) (k6 : k ≤ 6) (hx : x.toBitVec.toNat = a) (hy : y.toBitVec.toNat = b) (hb : b ≠ 0) (hQ : ∀ r : Int32, r.toBitVec.toNat = iop 32 k a b → Qr r h) : w_Whole_divideShort x0 x y h Qr := by
  have c3 : x0 = 3 ↔ k = 3 := by rw [z_eq, h0, show (3 : Int32).toInt = 3 from rfl]; omega
  have c4 : x0 = 4 ↔ k = 4 := by rw [z_eq, h0, show (4 : Int32).toInt = 4 from rfl]; omega
  have c5 : x0 = 5 ↔ k = 5 := by rw [z_eq, h0, show (5 : Int32).toInt = 5 from rfl]; omega
  have la : a < 4294967296 := by rw [← hx]; exact x.toBitVec.isLt
  have lb : b < 4294967296 := by rw [← hy]; exact y.toBitVec.isLt
  have y0 : ¬ y = 0 := fun h9 => hb (by rw [← hy, h9]; rfl)
  unfold w_Whole_divideShort
  rw [c3, c4, c5]
  intro v1 e1 v2 e2
  have n1 : v1.toBitVec.toNat = a := by rw [e1]; exact Z_up32 hx
  have n2 : v2.toBitVec.toNat = b := by rw [e2]; exact Z_up32 hy
  have w0 : ¬ v2 = 0 := fun h9 => hb (by rw [← n2, h9]; rfl)
  refine ⟨fun e => ⟨y0, hQ _ ?_⟩, fun e => ⟨w0, hQ _ ?_⟩, fun e => ⟨y0, hQ _ ?_⟩, fun e3 e4 e5 => ⟨w0, hQ _ ?_⟩⟩
  · subst e
    rw [N32 (dv32 x y), sg32, sg32, hx, hy]
    rfl
  · subst e
    rw [z_low32 (dvN64 n1 n2 (by omega) (by omega))]
    have := Nat.div_le_self a b
    exact Nat.mod_eq_of_lt (by omega)
  · subst e
    rw [rm32, sg32, sg32, hx, hy]
    rfl
  · have e : k = 6 := by omega
    subst e
    rw [z_low32 (mdN64 n1 n2 (by omega) (by omega))]
    have := Nat.mod_le a b
    exact Nat.mod_eq_of_lt (by omega)
theorem ex_reckonShort {x0 x y : Int32} {k a b : Nat} {Qr : Int32 → xb_H → Prop} (h0 : x0.toInt = k) (hk : k ≤ 14) (hx : x.toBitVec.toNat = a) (hy : y.toBitVec.toNat = b) (hQ : ∀ r : Int32, (¬ (3 ≤ k ∧ k ≤ 6 ∧ b = 0) → r.toBitVec.toNat = iop 32 k a b) → Qr r h) : w_Whole_reckonShort x0 x y h Qr := by
  have la : a < 4294967296 := by rw [← hx]; exact x.toBitVec.isLt
  have lb : b < 4294967296 := by rw [← hy]; exact y.toBitVec.isLt
  have L : 3 ≤ k → k ≤ 6 → w_Whole_reckonShort_L84 Qr x0 x y h := by
    intro k3 k6
    unfold w_Whole_reckonShort_L84 w_Whole_reckonShort_L98
    refine ⟨fun e => ex_divideShort h0 k3 k6 hx hy (fun h9 => e ?_) (fun r hr _ => hQ _ (fun _ => hr)), fun e => hQ _ (fun h9 => absurd ⟨k3, k6, ?_⟩ h9)⟩
    · rw [z_eq, sg32, hy, h9]
      rfl
    · rw [← hy, e]
      rfl
  have m1 : (-y).toBitVec.toNat % 32 = (32 - b % 32) % 32 := by
    rw [show -y = 0 - y from (Int32.zero_sub y).symm, z_sub32, hy, show (0 : Int32).toBitVec.toNat = 0 from rfl]
    omega
  have m0 : y.toBitVec.toNat % 32 = b % 32 := by rw [hy]
  have c : ∀ (z : Int32) (j : Nat), z.toInt = j → (x0 = z ↔ k = j) := fun z j e => by rw [z_eq, h0, e]; omega
  unfold w_Whole_reckonShort
  rw [c 0 0 rfl, c 1 1 rfl, c 2 2 rfl, c 3 3 rfl, c 4 4 rfl, c 5 5 rfl, c 6 6 rfl, c 7 7 rfl, c 8 8 rfl, c 9 9 rfl, c 10 10 rfl, c 11 11 rfl, c 12 12 rfl, c 13 13 rfl]
  refine ⟨fun e => hQ _ (fun _ => ?_), fun e => hQ _ (fun _ => ?_), fun e => hQ _ (fun _ => ?_), fun e => L (by omega) (by omega), fun e => L (by omega) (by omega), fun e => L (by omega) (by omega), fun e => L (by omega) (by omega), fun e => hQ _ (fun _ => ?_), fun e => hQ _ (fun _ => ?_), fun e => hQ _ (fun _ => ?_), fun e => hQ _ (fun _ => ?_), fun e => hQ _ (fun _ => ?_), fun e => hQ _ (fun _ => ?_), fun e => hQ _ (fun _ => ?_), fun g0 g1 g2 g3 g4 g5 g6 g7 g8 g9 ga gb gc gd => hQ _ (fun _ => ?_)⟩
  · subst e
    rw [z_add32, hx, hy]
    rfl
  · subst e
    rw [z_sub32, hx, hy]
    rfl
  · subst e
    rw [z_mul32, hx, hy]
    rfl
  · subst e
    rw [z_and32, hx, hy]
    rfl
  · subst e
    rw [z_or32, hx, hy]
    rfl
  · subst e
    rw [z_xor32, hx, hy]
    rfl
  · subst e
    rw [z_shl32 m0, hx]
    rfl
  · subst e
    have e1 := z_sar32 (x := x) m0
    have c1 := z_nat (x >>> (y &&& 31))
    rw [e1, sg32, hx] at c1
    show _ = (sgn 32 a / (2 ^ (b % 32) : Nat) % (4294967296 : Nat)).toNat
    omega
  · subst e
    rw [z_ushr32 m0, hx]
    rfl
  · subst e
    rw [z_or32, z_shl32 m0, z_ushr32 m1, hx]
    rfl
  · have e : k = 14 := by omega
    subst e
    rw [z_or32, z_ushr32 m0, z_shl32 m1, hx]
    rfl
end INT3

-- equality, floating point: a number's parts; the class's small methods
/-- the sign's weight, infinity, the number without its sign, its field, its amount and weight, what the amount lacks of p bits -/
def fS (p b : Nat) : Nat := (2 * b + 2) * 2 ^ (p - 1)
def fI_ (p b : Nat) : Nat := (2 * b + 1) * 2 ^ (p - 1)
def fmg (p b a : Nat) : Nat := a % fS p b
def ffl (p b a : Nat) : Nat := fmg p b a / 2 ^ (p - 1)
def fam (p b a : Nat) : Nat := if ffl p b a = 0 then fmg p b a else fmg p b a % 2 ^ (p - 1) + 2 ^ (p - 1)
def fwt (p b a : Nat) : Int := (if ffl p b a = 0 then 1 else (ffl p b a : Int)) - b - (p - 1 : Nat)
def flk (p b a : Nat) : Nat := if ffl p b a = 0 then p - 1 - (fmg p b a).log2 else 0
section FL4
variable {h : xb_H} {F p b a n : Nat} {τ : Int} {x : Int64}
theorem fpb.w (hb : fpb τ p b) : ∃ k : Nat, fS p b = 2 ^ k ∧ k ≤ 63 ∧ p ≤ k ∧ 2 ≤ p ∧ fI_ p b < fS p b := by
  rcases hb with ⟨-, rfl, rfl⟩ | ⟨-, rfl, rfl⟩
  · exact ⟨31, by decide, by omega, by omega, by omega, by decide⟩
  · exact ⟨63, by decide, by omega, by omega, by omega, by decide⟩
theorem fS_le (hb : fpb τ p b) : fS p b ≤ 9223372036854775808 := by
  rcases hb with ⟨-, rfl, rfl⟩ | ⟨-, rfl, rfl⟩ <;> decide
theorem fmg_lt (hb : fpb τ p b) : fmg p b a < fS p b := Nat.mod_lt _ (by obtain ⟨k, e, -⟩ := hb.w; rw [e]; exact Nat.pow_pos (by omega))
/-- the format's own numbers, by the names of this part -/
theorem fm.pp (hf : fm h F τ) (hb : fpb τ p b) : (xb_i h F 0).toInt = p ∧ (xb_i h F 1).toInt = b ∧ (xb_l h F 3).toBitVec.toNat = fI_ p b ∧ (xb_l h F 2).toBitVec.toNat = fS p b := by
  obtain ⟨p', b', hb', b1, b2, b3, b4⟩ := hf.pb
  obtain ⟨rfl, rfl⟩ := hb.u hb'
  exact ⟨b1, b2, b3, b4⟩
theorem fm.mg (hf : fm h F τ) (hb : fpb τ p b) (hx : x.toBitVec.toNat = a) : (x &&& (xb_l h F 2 - 1)).toBitVec.toNat = fmg p b a := by
  obtain ⟨-, -, -, b4⟩ := hf.pp hb
  obtain ⟨k, e, -⟩ := hb.w
  have hp : 0 < 2 ^ k := Nat.pow_pos (by omega)
  have e1 : (xb_l h F 2 - 1).toBitVec.toNat = 2 ^ k - 1 := by
    rw [Z_subN _ _ (by rw [b4, e]; exact hp), b4, e]
    rfl
  rw [Z_and_mod _ k e1, hx]
  unfold fmg
  rw [e]
theorem Z_leN {a b : Int64} (ha : a.toBitVec.toNat < 9223372036854775808) (hb : b.toBitVec.toNat < 9223372036854775808) : a ≤ b ↔ a.toBitVec.toNat ≤ b.toBitVec.toNat := by
  have h1 := Z_nat a
  have h2 := Z_nat b
  have h3 := Z_rg a
  have h4 := Z_rg b
  rw [Z_le]
  omega
theorem ex_isNan {Qr : Int32 → xb_H → Prop} (hf : fm h F τ) (hb : fpb τ p b) (hx : x.toBitVec.toNat = a) (hQ : ∀ r : Int32, (r = 0 ↔ fmg p b a ≤ fI_ p b) → Qr r h) : w_Format_isNan F x h Qr := by
  have m := hf.mg hb hx
  obtain ⟨-, -, b3, -⟩ := hf.pp hb
  have l1 := fmg_lt (a := a) hb
  have l2 := fS_le hb
  obtain ⟨k, -, -, -, -, l3⟩ := hb.w
  unfold w_Format_isNan w_Format_isNan_L21
  rw [Z_leN (by omega) (by omega), m, b3]
  exact ⟨hf.1, fun e => ⟨.inl rfl, hQ 0 ⟨fun _ => e, fun _ => rfl⟩⟩, fun e => ⟨.inr rfl, hQ 1 ⟨fun e9 => absurd e9 (by decide), fun e9 => absurd e9 e⟩⟩⟩
theorem ex_isInfinite {Qr : Int32 → xb_H → Prop} (hf : fm h F τ) (hb : fpb τ p b) (hx : x.toBitVec.toNat = a) (hQ : ∀ r : Int32, (r = 0 ↔ fmg p b a ≠ fI_ p b) → Qr r h) : w_Format_isInfinite F x h Qr := by
  have m := hf.mg hb hx
  obtain ⟨-, -, b3, -⟩ := hf.pp hb
  unfold w_Format_isInfinite w_Format_isInfinite_L21
  rw [Z_eqN, m, b3]
  exact ⟨hf.1, fun e => ⟨.inl rfl, hQ 0 ⟨fun _ => e, fun _ => rfl⟩⟩, fun e => ⟨.inr rfl, hQ 1 ⟨fun e9 => absurd e9 (by decide), fun e9 => absurd e e9⟩⟩⟩
theorem ex_isZero {Qr : Int32 → xb_H → Prop} (hf : fm h F τ) (hb : fpb τ p b) (hx : x.toBitVec.toNat = a) (hQ : ∀ r : Int32, (r = 0 ↔ fmg p b a ≠ 0) → Qr r h) : w_Format_isZero F x h Qr := by
  have m := hf.mg hb hx
  unfold w_Format_isZero w_Format_isZero_L18
  rw [Z_eqN, m, show (0 : Int64).toBitVec.toNat = 0 from rfl]
  exact ⟨hf.1, fun e => ⟨.inl rfl, hQ 0 ⟨fun _ => e, fun _ => rfl⟩⟩, fun e => ⟨.inr rfl, hQ 1 ⟨fun e9 => absurd e9 (by decide), fun e9 => absurd e e9⟩⟩⟩
theorem and_pow {a k : Nat} (ha : a < 2 * 2 ^ k) : a &&& 2 ^ k = 0 ↔ a < 2 ^ k := by
  have hp : 0 < 2 ^ k := Nat.pow_pos (by omega)
  constructor
  · intro h1
    refine Classical.byContradiction fun h2 => ?_
    have h3 : a / 2 ^ k = 1 := by
      have a1 : a / 2 ^ k < 2 := Nat.div_lt_of_lt_mul (by omega)
      have a2 : 0 < a / 2 ^ k := Nat.div_pos (by omega) hp
      omega
    have h4 : a.testBit k = true := by
      rw [Nat.testBit_eq_decide_div_mod_eq, h3]
      rfl
    have h5 : (a &&& 2 ^ k).testBit k = true := by
      rw [Nat.testBit_and, h4, Nat.testBit_two_pow_self]
      rfl
    rw [h1, Nat.zero_testBit] at h5
    cases h5
  · intro h1
    refine Nat.eq_of_testBit_eq fun i => ?_
    rw [Nat.testBit_and, Nat.zero_testBit]
    by_cases h2 : k = i
    · subst h2
      rw [Nat.testBit_lt_two_pow h1]
      rfl
    · rw [Nat.testBit_two_pow_of_ne h2, Bool.and_false]
/-- numbers of the format: of short ones 32 bits -/
def fW (p b a : Nat) : Prop := a < 2 * fS p b
theorem fW.d (ha : fW p b a) : a = fmg p b a + (if a < fS p b then 0 else fS p b) := by
  unfold fW at ha
  unfold fmg
  split
  · rw [Nat.mod_eq_of_lt (by assumption), Nat.add_zero]
  · have : a = a - fS p b + fS p b := by omega
    rw [this, Nat.add_mod_right, Nat.mod_eq_of_lt (by omega)]
theorem neg_key (hf : fm h F τ) (hb : fpb τ p b) (hx : x.toBitVec.toNat = a) (ha : fW p b a) : (x &&& xb_l h F 2) = 0 ↔ a < fS p b := by
  obtain ⟨-, -, -, b4⟩ := hf.pp hb
  obtain ⟨k, e, -⟩ := hb.w
  rw [Z_eqN, Z_and, hx, b4, show (0 : Int64).toBitVec.toNat = 0 from rfl, e]
  unfold fW at ha
  rw [e] at ha
  exact and_pow ha
theorem ex_isNeg {Qr : Int32 → xb_H → Prop} (hf : fm h F τ) (hb : fpb τ p b) (hx : x.toBitVec.toNat = a) (ha : fW p b a) (hQ : ∀ r : Int32, (r = 0 ∨ r = 1) → (r = 0 ↔ a < fS p b) → Qr r h) : w_Format_isNegative F x h Qr := by
  unfold w_Format_isNegative w_Format_isNegative_L16
  rw [neg_key hf hb hx ha]
  exact ⟨hf.1, fun e => ⟨.inl rfl, hQ 0 (.inl rfl) ⟨fun _ => e, fun _ => rfl⟩⟩, fun e => ⟨.inr rfl, hQ 1 (.inr rfl) ⟨fun e9 => absurd e9 (by decide), fun e9 => absurd e9 e⟩⟩⟩
theorem ex_isNegative {Qr : Int32 → xb_H → Prop} (hf : fm h F τ) (hb : fpb τ p b) (hx : x.toBitVec.toNat = a) (ha : fW p b a) (hQ : ∀ r : Int32, (r = 0 ↔ a < fS p b) → Qr r h) : w_Format_isNegative F x h Qr := ex_isNeg hf hb hx ha (fun r _ hr => hQ r hr)
/-- the amount, moved to p bits -/
theorem fam_b (hb : fpb τ p b) (h0 : fmg p b a ≠ 0) : 2 ^ (p - 1) ≤ fam p b a * 2 ^ flk p b a ∧ fam p b a * 2 ^ flk p b a < 2 ^ p ∧ flk p b a ≤ 62 := by
  obtain ⟨k, -, -, -, h2, -⟩ := hb.w
  have hp : (p = 24 ∧ b = 127) ∨ (p = 53 ∧ b = 1023) := by unfold fpb at hb; omega
  have hq : 0 < 2 ^ (p - 1) := Nat.pow_pos (by omega)
  have e2 : 2 ^ p = 2 ^ (p - 1) * 2 := by rw [← Nat.pow_succ, Nat.succ_eq_add_one, Nat.sub_add_cancel (by omega)]
  unfold fam flk
  split
  · rename_i h1
    unfold ffl at h1
    have h3 : fmg p b a < 2 ^ (p - 1) := (Nat.div_eq_zero_iff.mp h1).resolve_left (by omega)
    generalize fmg p b a = m at *
    obtain ⟨l1, l2⟩ := log2_b (N := m) (by omega)
    have l3 : m.log2 < p - 1 := (Nat.log2_lt h0).mpr h3
    have g1 := Nat.mul_le_mul_right (2 ^ (p - 1 - m.log2)) l1
    have g2 := Nat.mul_lt_mul_of_pos_right l2 (Nat.pow_pos (n := p - 1 - m.log2) (show 0 < 2 by omega))
    rw [← Nat.pow_add, show m.log2 + (p - 1 - m.log2) = p - 1 by omega] at g1
    rw [← Nat.pow_add, show m.log2 + 1 + (p - 1 - m.log2) = p by omega] at g2
    exact ⟨g1, g2, by omega⟩
  · have := Nat.mod_lt (fmg p b a) hq
    rw [Nat.pow_zero, Nat.mul_one]
    omega
theorem ex_mantissa {Qr : Int64 → xb_H → Prop} (hf : fm h F τ) (hb : fpb τ p b) (hx : x.toBitVec.toNat = a) (h0 : fmg p b a ≠ 0) (hQ : ∀ r : Int64, r.toBitVec.toNat = fam p b a * 2 ^ flk p b a → Qr r h) : w_Format_mantissa F x h Qr := by
  have m := hf.mg hb hx
  obtain ⟨b1, b2, b3, b4⟩ := hf.pp hb
  obtain ⟨k, e, k1, k2, k3, -⟩ := hb.w
  have l1 := fmg_lt (a := a) hb
  have l2 := fS_le hb
  have hp : (p = 24 ∧ b = 127) ∨ (p = 53 ∧ b = 1023) := by unfold fpb at hb; omega
  obtain ⟨q1, q2, q3⟩ := fam_b hb h0
  have s1 : (xb_i h F 0 - 1).toInt = (p - 1 : Nat) := by rw [z_sub, b1, show (1 : Int32).toInt = 1 from rfl]; omega
  have s2 : 2 ^ (p - 1) ≤ 2 ^ 52 := Nat.pow_le_pow_right (by omega) (by omega)
  have s0 : 0 < 2 ^ (p - 1) := Nat.pow_pos (by omega)
  have s3 : (xb_lshl 1 (xb_i h F 0 - 1)).toBitVec.toNat = 2 ^ (p - 1) := by
    rw [Z_shl s1 (by omega), show (1 : Int64).toBitVec.toNat = 1 from rfl, Nat.one_mul, Nat.mod_eq_of_lt (by omega)]
  unfold w_Format_mantissa
  refine ⟨hf.1, fun v2 e2 v3 e3 => ?_⟩
  rw [← e2] at m
  rw [← e3] at s3
  rw [Z_leN (by omega) (by omega), m, s3]
  refine ⟨fun h9 => hQ _ ?_, fun h9 => ex_zerosAbove m (by omega) (fun r6 k' z1 z2 z3 z4 _ => hQ _ ?_)⟩
  · have f0 : ffl p b a ≠ 0 := by
      unfold ffl
      have := Nat.div_pos h9 s0
      omega
    have sm : (v3 - 1).toBitVec.toNat = 2 ^ (p - 1) - 1 := by
      rw [Z_subN _ _ (by rw [s3]; exact s0), s3]
      rfl
    unfold fam flk
    rw [if_neg f0, if_neg f0, Nat.pow_zero, Nat.mul_one, Z_or, Z_and_mod _ (p - 1) sm, m, s3, Nat.or_comm]
    have g := Nat.two_pow_add_eq_or_of_lt (Nat.mod_lt (fmg p b a) s0) 1
    rw [Nat.mul_one] at g
    rw [← g, Nat.add_comm]
  · have f0 : ffl p b a = 0 := Nat.div_eq_of_lt (by omega)
    have lg : (fmg p b a).log2 = 63 - k' := by
      have c1 : (9223372036854775808 : Nat) = 2 ^ (63 - k') * 2 ^ k' := by rw [← Nat.pow_add, Nat.sub_add_cancel z2]
      have c2 : (18446744073709551616 : Nat) = 2 ^ (63 - k' + 1) * 2 ^ k' := by rw [← Nat.pow_add, show 63 - k' + 1 + k' = 64 by omega]
      have hp : 0 < 2 ^ k' := Nat.pow_pos (by omega)
      exact log2_of (Nat.le_of_mul_le_mul_right (by rw [← c1]; exact z3) hp) (Nat.lt_of_mul_lt_mul_right (by rw [← c2]; exact z4))
    have lt : (fmg p b a).log2 < p - 1 := (Nat.log2_lt h0).mpr (by omega)
    have g : (r6 - (64 - xb_i h F 0)).toInt = (p - 1 - (63 - k') : Nat) := by
      have : (64 - xb_i h F 0).toInt = 64 - p := by rw [z_sub, b1, show (64 : Int32).toInt = 64 from rfl]; omega
      rw [z_sub, z1, this]
      omega
    have fa : fam p b a = fmg p b a := by
      unfold fam
      rw [if_pos f0]
    have fk : flk p b a = p - 1 - (63 - k') := by
      unfold flk
      rw [if_pos f0, lg]
    have q4 : 2 ^ p ≤ 2 ^ 53 := Nat.pow_le_pow_right (by omega) (by omega)
    rw [fa, fk] at q2 ⊢
    rw [Z_shl g (by omega), m, Nat.mod_eq_of_lt (by omega)]
theorem ex_exponent {Qr : Int32 → xb_H → Prop} (hf : fm h F τ) (hb : fpb τ p b) (hx : x.toBitVec.toNat = a) (h0 : fmg p b a ≠ 0) (hQ : ∀ r : Int32, r.toInt = fwt p b a - flk p b a → Qr r h) : w_Format_exponent F x h Qr := by
  have m := hf.mg hb hx
  obtain ⟨b1, b2, b3, b4⟩ := hf.pp hb
  obtain ⟨k, e, k1, k2, k3, -⟩ := hb.w
  have l1 := fmg_lt (a := a) hb
  have l2 := fS_le hb
  have hp : (p = 24 ∧ b = 127) ∨ (p = 53 ∧ b = 1023) := by unfold fpb at hb; omega
  obtain ⟨-, -, q3⟩ := fam_b hb h0
  have s1 : (xb_i h F 0 - 1).toInt = (p - 1 : Nat) := by rw [z_sub, b1, show (1 : Int32).toInt = 1 from rfl]; omega
  have s0 : 0 < 2 ^ (p - 1) := Nat.pow_pos (by omega)
  have fb : ffl p b a < 2 * b + 2 := by
    unfold ffl
    refine Nat.div_lt_of_lt_mul ?_
    have := l1
    unfold fS at this
    rw [Nat.mul_comm]
    exact this
  unfold w_Format_exponent
  refine ⟨hf.1, fun v2 e2 v3 e3 => ?_⟩
  rw [← e2] at m
  have f3 : v3.toInt = ffl p b a := by
    have c1 := Z_ushr (x := v2) s1 (by omega)
    rw [m] at c1
    have c2 := Z_nat (xb_lushr v2 (xb_i h F 0 - 1))
    have c3 := Z_rg (xb_lushr v2 (xb_i h F 0 - 1))
    have c4 : (xb_lushr v2 (xb_i h F 0 - 1)).toBitVec.toNat = ffl p b a := c1
    rw [e3, z_of64]
    omega
  have L : ∀ (y0 : Int32), y0.toInt = flk p b a → w_Format_exponent_L41 Qr F v3 y0 h := by
    intro y0 hy
    unfold w_Format_exponent_L41
    refine ⟨hf.1, hQ _ ?_⟩
    have e1 : (if (1 : Int32) < v3 then v3 else 1).toInt = (if ffl p b a = 0 then 1 else (ffl p b a : Int)) := by
      by_cases h7 : (1 : Int32) < v3
      · rw [if_pos h7]
        rw [z_lt, f3, show (1 : Int32).toInt = 1 from rfl] at h7
        rw [if_neg (by omega)]
        exact f3
      · rw [if_neg h7]
        rw [z_lt, f3, show (1 : Int32).toInt = 1 from rfl] at h7
        rw [show (1 : Int32).toInt = 1 from rfl]
        split <;> omega
    generalize (if (1 : Int32) < v3 then v3 else 1) = w at e1
    have wr : 1 ≤ w.toInt ∧ w.toInt ≤ 2047 := by
      rw [e1]
      split <;> omega
    have a1 : (w - xb_i h F 1).toInt = w.toInt - b := by rw [z_sub, b2]; omega
    have a2 : (w - xb_i h F 1 - (xb_i h F 0 - 1)).toInt = w.toInt - b - (p - 1 : Nat) := by rw [z_sub, a1, s1]; omega
    rw [z_sub, a2, hy]
    unfold fwt
    rw [← e1]
    omega
  rw [z_le, f3, show (0 : Int32).toInt = 0 from rfl]
  refine ⟨fun h9 => ex_zerosAbove m (by omega) (fun r6 k' z1 z2 z3 z4 _ => L _ ?_), fun h9 => L 0 ?_⟩
  · have f0 : ffl p b a = 0 := by omega
    have lg : (fmg p b a).log2 = 63 - k' := by
      have c1 : (9223372036854775808 : Nat) = 2 ^ (63 - k') * 2 ^ k' := by rw [← Nat.pow_add, Nat.sub_add_cancel z2]
      have c2 : (18446744073709551616 : Nat) = 2 ^ (63 - k' + 1) * 2 ^ k' := by rw [← Nat.pow_add, show 63 - k' + 1 + k' = 64 by omega]
      have hp : 0 < 2 ^ k' := Nat.pow_pos (by omega)
      exact log2_of (Nat.le_of_mul_le_mul_right (by rw [← c1]; exact z3) hp) (Nat.lt_of_mul_lt_mul_right (by rw [← c2]; exact z4))
    have l3 : fmg p b a < 2 ^ (p - 1) := by
      unfold ffl at f0
      exact (Nat.div_eq_zero_iff.mp f0).resolve_left (by omega)
    have lt : (fmg p b a).log2 < p - 1 := (Nat.log2_lt h0).mpr l3
    have : (64 - xb_i h F 0).toInt = 64 - p := by rw [z_sub, b1, show (64 : Int32).toInt = 64 from rfl]; omega
    unfold flk
    rw [if_pos f0, lg, z_sub, z1, this]
    omega
  · unfold flk
    rw [if_neg (by omega)]
    rfl
end FL4

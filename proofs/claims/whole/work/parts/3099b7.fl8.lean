-- equality, floating point: the class's product
/-- the sign of a product -/
def fsp (p b x y : Nat) : Nat := if fsg p b x = fsg p b y then 0 else fS p b
def fmu (p b x y : Nat) : Nat :=
  if fmg p b x = fI_ p b ∨ fmg p b y = fI_ p b then (if fmg p b x = 0 ∨ fmg p b y = 0 then fnn p b else fsp p b x y ||| fI_ p b)
  else if fmg p b x = 0 ∨ fmg p b y = 0 then fsp p b x y else fsp p b x y ||| rnF p b (fam p b x * fam p b y) (fwt p b x + fwt p b y)
section FL8
variable {h : xb_H} {F p b : Nat} {τ : Int} {x y : Int64} {ax ay : Nat}
theorem Z_mulN (a b : Int64) : (a * b).toBitVec.toNat = a.toBitVec.toNat * b.toBitVec.toNat % 18446744073709551616 := by
  rw [Int64.toBitVec_mul, BitVec.toNat_mul]
theorem hp_core {X Y fl fh ll lh low mid oth hi : Nat} (e1 : fl = X % 4294967296) (e2 : fh = X / 4294967296) (e3 : ll = Y % 4294967296) (e4 : lh = Y / 4294967296) (e5 : low = fl * ll) (e6 : mid = fh * ll + low / 4294967296) (e7 : oth = fl * lh + mid % 4294967296) (e8 : hi = fh * lh + mid / 4294967296 + oth / 4294967296) : X * Y = hi * 18446744073709551616 + (oth % 4294967296 * 4294967296 + low % 4294967296) := by
  have x1 : X = fh * 4294967296 + fl := by omega
  have y1 : Y = lh * 4294967296 + ll := by omega
  have q : X * Y = fh * lh * 18446744073709551616 + (fh * ll + fl * lh) * 4294967296 + fl * ll := by
    rw [x1, y1, Nat.add_mul, Nat.mul_add, Nat.mul_add]
    have a1 : fh * 4294967296 * (lh * 4294967296) = fh * lh * 18446744073709551616 := by
      rw [Nat.mul_mul_mul_comm]
    have a2 : fh * 4294967296 * ll = fh * ll * 4294967296 := Nat.mul_right_comm _ _ _
    have a3 : fl * (lh * 4294967296) = fl * lh * 4294967296 := (Nat.mul_assoc _ _ _).symm
    rw [a1, a2, a3, Nat.add_mul]
    omega
  rw [q, ← e5]
  generalize fh * lh = A at *
  generalize fh * ll = B at *
  generalize fl * lh = C at *
  omega
theorem ex_highProduct {X Y : Nat} {Qr : Int64 → xb_H → Prop} (hx : x.toBitVec.toNat = X) (hy : y.toBitVec.toNat = Y) (lx : X < 9223372036854775808) (ly : Y < 9223372036854775808) (hQ : ∀ r : Int64, r.toBitVec.toNat = stk (X * Y) 64 → Qr r h) : w_Format_highProduct x y h Qr := by
  have lo : ∀ z : Int64, (z &&& 4294967295).toBitVec.toNat = z.toBitVec.toNat % 4294967296 := fun z => Z_and_mod z 32 rfl
  have up : ∀ z : Int64, (xb_lushr z 32).toBitVec.toNat = z.toBitVec.toNat / 4294967296 := fun z => Z_ushr (k := 32) rfl (by omega)
  unfold w_Format_highProduct
  intro v1 e1 v2 e2 v3 e3 v4 e4 v5 e5 v6 e6 v7 e7 v8 e8
  have f1 : v1.toBitVec.toNat = X % 4294967296 := by rw [e1, lo, hx]
  have f2 : v2.toBitVec.toNat = X / 4294967296 := by rw [e2, up, hx]
  have f3 : v3.toBitVec.toNat = Y % 4294967296 := by rw [e3, lo, hy]
  have f4 : v4.toBitVec.toNat = Y / 4294967296 := by rw [e4, up, hy]
  have b1 : X % 4294967296 ≤ 4294967295 := by omega
  have b2 : X / 4294967296 ≤ 2147483647 := by omega
  have b3 : Y % 4294967296 ≤ 4294967295 := by omega
  have b4 : Y / 4294967296 ≤ 2147483647 := by omega
  have c5 := Nat.mul_le_mul b1 b3
  have c6 := Nat.mul_le_mul b2 b3
  have c7 := Nat.mul_le_mul b1 b4
  have c8 := Nat.mul_le_mul b2 b4
  have f5 : v5.toBitVec.toNat = X % 4294967296 * (Y % 4294967296) := by rw [e5, Z_mulN, f1, f3, Nat.mod_eq_of_lt (by omega)]
  have f6 : v6.toBitVec.toNat = X / 4294967296 * (Y % 4294967296) + X % 4294967296 * (Y % 4294967296) / 4294967296 := by
    rw [e6, Z_addN, Z_mulN, f2, f3, up, f5, Nat.mod_eq_of_lt (a := X / 4294967296 * (Y % 4294967296)) (by omega), Nat.mod_eq_of_lt (by omega)]
  have f7 : v7.toBitVec.toNat = X % 4294967296 * (Y / 4294967296) + v6.toBitVec.toNat % 4294967296 := by
    rw [e7, Z_addN, Z_mulN, f1, f4, lo, Nat.mod_eq_of_lt (a := X % 4294967296 * (Y / 4294967296)) (by omega), Nat.mod_eq_of_lt (by omega)]
  have f8 : v8.toBitVec.toNat = X / 4294967296 * (Y / 4294967296) + v6.toBitVec.toNat / 4294967296 + v7.toBitVec.toNat / 4294967296 := by
    have i6 := v6.toBitVec.isLt
    have i7 := v7.toBitVec.isLt
    rw [e8, Z_addN, Z_addN, Z_mulN, f2, f4, up, up, Nat.mod_eq_of_lt (a := X / 4294967296 * (Y / 4294967296)) (by omega), Nat.mod_eq_of_lt (a := X / 4294967296 * (Y / 4294967296) + v6.toBitVec.toNat / 4294967296) (by omega), Nat.mod_eq_of_lt (by omega)]
  have core := hp_core (X := X) (Y := Y) rfl rfl rfl rfl (show v5.toBitVec.toNat = _ from f5) (by rw [f6, f5]) f7 f8
  have d1 : X * Y / 2 ^ 64 = v8.toBitVec.toNat := by rw [core]; omega
  have d2 : X * Y % 2 ^ 64 = v7.toBitVec.toNat % 4294967296 * 4294967296 + v5.toBitVec.toNat % 4294967296 := by rw [core]; omega
  have more : X * Y % 2 ^ 64 ≠ 0 → w_Format_highProduct_L101 Qr v8 h := fun hm => by
    unfold w_Format_highProduct_L101 w_Format_highProduct_L106 w_Format_highProduct_L122
    refine ⟨fun e => absurd e (by decide), fun _ => hQ _ ?_⟩
    unfold stk
    rw [if_neg hm, d1, Z_or, show (1 : Int64).toBitVec.toNat = 1 from rfl]
    generalize v8.toBitVec.toNat = q
    have g := Nat.two_pow_add_eq_or_of_lt (b := 1) (i := 1) (by omega) (q / 2)
    rw [Nat.pow_one] at g
    rcases (show q % 2 = 0 ∨ q % 2 = 1 by omega) with h6 | h6
    · rw [show q / 2 * 2 + 1 = 2 * (q / 2) + 1 by omega, g, show 2 * (q / 2) = q by omega]
    · have h7 : q = 2 * (q / 2) ||| 1 := by rw [← g]; omega
      have h8 : q ||| 1 = q := by
        rw [h7, Nat.or_assoc, Nat.or_self]
      rw [h8]
      omega
  rw [Z_eqN, lo, show (0 : Int64).toBitVec.toNat = 0 from rfl, Z_eqN, lo, show (0 : Int64).toBitVec.toNat = 0 from rfl]
  refine ⟨fun e => more (by omega), fun e => ⟨fun e' => ?_, fun e' => more (by omega)⟩⟩
  unfold w_Format_highProduct_L106 w_Format_highProduct_L122
  refine ⟨fun _ => hQ _ ?_, fun e9 => absurd rfl e9⟩
  rw [stk_dm.2.1 (by omega), d1]
theorem ex_signed {y0 : Int32} {sg v : Nat} {Qr : Int64 → xb_H → Prop} (hf : fm h F τ) (hb : fpb τ p b) (hx : x.toBitVec.toNat = v) (hs : sg = if y0 = 0 then 0 else fS p b) (hQ : ∀ r : Int64, r.toBitVec.toNat = sg ||| v → Qr r h) : w_Format_signed F y0 x h Qr := by
  obtain ⟨-, -, -, b4⟩ := hf.pp hb
  unfold w_Format_signed w_Format_signed_L14
  refine ⟨fun e => hQ _ ?_, fun e => ⟨hf.1, hQ _ ?_⟩⟩
  · rw [hs, if_pos e, Nat.zero_or, hx]
  · rw [hs, if_neg e, Z_or, hx, b4, Nat.or_comm]
/-- the exponents are small -/
theorem fwr (hb : fpb τ p b) {a : Nat} (ha : fmg p b a ≠ 0) : -2000 ≤ fwt p b a - flk p b a ∧ fwt p b a - flk p b a ≤ 2000 := by
  have hp : (p = 24 ∧ b = 127) ∨ (p = 53 ∧ b = 1023) := by unfold fpb at hb; omega
  have q3 := (fam_b hb ha).2.2
  have fb : ffl p b a < 2 * b + 2 := by
    unfold ffl
    refine Nat.div_lt_of_lt_mul ?_
    have := fmg_lt (a := a) hb
    unfold fS at this
    rw [Nat.mul_comm]
    exact this
  unfold fwt
  split <;> omega
theorem ex_product {Qr : Int64 → xb_H → Prop} (hf : fm h F τ) (hb : fpb τ p b) (hx : x.toBitVec.toNat = ax) (hy : y.toBitVec.toNat = ay) (wx : fW p b ax) (wy : fW p b ay) (hQ : ∀ r : Int64, r.toBitVec.toNat = fmu p b ax ay → Qr r h) : w_Format_product F x y h Qr := by
  obtain ⟨b1, b2, b3, b4⟩ := hf.pp hb
  obtain ⟨kk, ek, k1, k2, k3, k4⟩ := hb.w
  have sp : 0 < fS p b := by rw [ek]; exact Nat.pow_pos (by omega)
  have hp : (p = 24 ∧ b = 127) ∨ (p = 53 ∧ b = 1023) := by unfold fpb at hb; omega
  have L18 : ∀ y0 : Int32, (fsp p b ax ay = if y0 = 0 then 0 else fS p b) → w_Format_product_L18 Qr F x y y0 h := by
    intro y0 hs
    have L52 : fmg p b ax = fI_ p b ∨ fmg p b ay = fI_ p b → fmg p b ax = 0 ∨ fmg p b ay = 0 → w_Format_product_L52 Qr F h := fun c1 c2 => by
      unfold w_Format_product_L52 w_Format_product_L69
      refine ⟨hf.1, hQ _ ?_⟩
      unfold fmu
      rw [if_pos c1, if_pos c2, hf.nn hb]
    have L36 : fmg p b ax = fI_ p b ∨ fmg p b ay = fI_ p b → w_Format_product_L36 Qr F x y y0 h := fun c1 => by
      unfold w_Format_product_L36
      refine ⟨hf.1, ex_isZero hf hb hx (fun r3 c3 _ => ⟨fun e3 => L52 c1 (.inl (Classical.byContradiction fun h9 => e3 (c3.mpr h9))), fun e3 => ex_isZero hf hb hy (fun r6 c6 _ => ⟨fun e6 => ex_signed hf hb b3 hs (fun r9 e9 _ => hQ _ ?_), fun e6 => L52 c1 (.inr (Classical.byContradiction fun h9 => e6 (c6.mpr h9)))⟩)⟩)⟩
      unfold fmu
      rw [if_pos c1, if_neg (fun h9 => h9.elim (c3.mp e3) (c6.mp e6)), e9]
    have L86 : ¬ (fmg p b ax = fI_ p b ∨ fmg p b ay = fI_ p b) → fmg p b ax = 0 ∨ fmg p b ay = 0 → w_Format_product_L86 Qr F y0 h := fun c1 c2 => by
      unfold w_Format_product_L86
      refine ⟨hf.1, ex_signed (v := 0) hf hb rfl hs (fun r e _ => hQ _ ?_)⟩
      unfold fmu
      rw [if_neg c1, if_pos c2, e, Nat.or_zero]
    unfold w_Format_product_L18
    refine ⟨hf.1, ex_isInfinite hf hb hx (fun r3 c3 _ => ⟨fun e3 => L36 (.inl (Classical.byContradiction fun h9 => e3 (c3.mpr h9))), fun e3 => ex_isInfinite hf hb hy (fun r6 c6 _ => ⟨fun e6 => ?_, fun e6 => L36 (.inr (Classical.byContradiction fun h9 => e6 (c6.mpr h9)))⟩)⟩)⟩
    have ni : ¬ (fmg p b ax = fI_ p b ∨ fmg p b ay = fI_ p b) := fun h9 => h9.elim (c3.mp e3) (c6.mp e6)
    refine ex_isZero hf hb hx (fun r9 c9 _ => ⟨fun e9 => L86 ni (.inl (Classical.byContradiction fun h9 => e9 (c9.mpr h9))), fun e9 => ex_isZero hf hb hy (fun r12 c12 _ => ⟨fun e12 v14 e14 => ?_, fun e12 => L86 ni (.inr (Classical.byContradiction fun h9 => e12 (c12.mpr h9)))⟩)⟩)
    have zx := c9.mp e9
    have zy := c12.mp e12
    obtain ⟨a1, a2, a3⟩ := fam_b hb zx
    obtain ⟨d1, d2, d3⟩ := fam_b hb zy
    have wa := fwr hb zx
    have wb := fwr hb zy
    have f14 : v14.toInt = (63 - p : Nat) := by rw [e14, z_sub, b1, show (63 : Int32).toInt = 63 from rfl]; omega
    have e63 : 2 ^ p * 2 ^ (63 - p) = 9223372036854775808 := by rw [← Nat.pow_add, show p + (63 - p) = 63 by omega]
    have e62 : 2 ^ (p - 1) * 2 ^ (63 - p) = 4611686018427387904 := by rw [← Nat.pow_add, show p - 1 + (63 - p) = 62 by omega]
    have hu : 0 < 2 ^ (63 - p) := Nat.pow_pos (by omega)
    have A1 := Nat.mul_le_mul_right (2 ^ (63 - p)) a1
    have A2 := Nat.mul_lt_mul_of_pos_right a2 hu
    have B1 := Nat.mul_le_mul_right (2 ^ (63 - p)) d1
    have B2 := Nat.mul_lt_mul_of_pos_right d2 hu
    rw [e62] at A1 B1
    rw [e63] at A2 B2
    refine ex_exponent hf hb hx zx (fun r16 e16 _ => ex_exponent hf hb hy zy (fun r18 e18 _ v19 e19 => ex_mantissa hf hb hx zx (fun r21 e21 _ => ex_mantissa hf hb hy zy (fun r23 e23 _ => ?_))))
    have f19 : v19.toInt = fwt p b ax - flk p b ax + (fwt p b ay - flk p b ay) - 2 * (63 - p : Nat) + 64 := by
      have q1 : (r16 + r18).toInt = fwt p b ax - flk p b ax + (fwt p b ay - flk p b ay) := by rw [z_add, e16, e18]; omega
      have q2 : (2 * v14).toInt = 2 * (63 - p : Nat) := by rw [z_mul, f14, show (2 : Int32).toInt = 2 from rfl]; omega
      have q3 : (r16 + r18 - 2 * v14).toInt = fwt p b ax - flk p b ax + (fwt p b ay - flk p b ay) - 2 * (63 - p : Nat) := by rw [z_sub, q1, q2]; omega
      rw [e19, z_add, q3, show (64 : Int32).toInt = 64 from rfl]
      omega
    have g1 : (xb_lshl r21 v14).toBitVec.toNat = fam p b ax * 2 ^ flk p b ax * 2 ^ (63 - p) := by rw [Z_shl f14 (by omega), e21, Nat.mod_eq_of_lt (by omega)]
    have g2 : (xb_lshl r23 v14).toBitVec.toNat = fam p b ay * 2 ^ flk p b ay * 2 ^ (63 - p) := by rw [Z_shl f14 (by omega), e23, Nat.mod_eq_of_lt (by omega)]
    refine ex_highProduct g1 g2 A2 B2 (fun r25 e25 _ => ?_)
    have PP : fam p b ax * 2 ^ flk p b ax * 2 ^ (63 - p) * (fam p b ay * 2 ^ flk p b ay * 2 ^ (63 - p)) = fam p b ax * fam p b ay * 2 ^ (flk p b ax + flk p b ay + 2 * (63 - p)) := by
      rw [show flk p b ax + flk p b ay + 2 * (63 - p) = flk p b ax + (63 - p) + (flk p b ay + (63 - p)) by omega, Nat.mul_assoc (fam p b ax), Nat.mul_assoc (fam p b ay), ← Nat.pow_add, ← Nat.pow_add, Nat.mul_mul_mul_comm, ← Nat.pow_add]
    have lb := Nat.mul_le_mul A1 B1
    have ub := Nat.mul_lt_mul'' A2 B2
    generalize hP : fam p b ax * 2 ^ flk p b ax * 2 ^ (63 - p) * (fam p b ay * 2 ^ flk p b ay * 2 ^ (63 - p)) = P at *
    have q1 : 1152921504606846976 ≤ P / 2 ^ 64 := (Nat.le_div_iff_mul_le (by decide)).mpr (by omega)
    have q2 : P / 2 ^ 64 < 4611686018427387904 := Nat.div_lt_of_lt_mul (by omega)
    have q3 := stk_le (N := P) (j := 64)
    have q4 := stk_dm (N := P) (j := 64)
    have pw : 2 ^ (p + 1) ≤ 2 ^ 54 := Nat.pow_le_pow_right (by omega) (by omega)
    refine ex_nearest hf hb e25 (by omega) (by omega) f19 (by omega) (by omega) (fun w hw _ => hQ _ ?_)
    have st := rnF_st (N := P) (j := 64) (e := fwt p b ax + fwt p b ay - (flk p b ax + flk p b ay + 2 * (63 - p) : Nat)) hb (by omega)
    have p0 : 0 < fam p b ax * fam p b ay := by
      rcases Nat.eq_zero_or_pos (fam p b ax * fam p b ay) with h9 | h9
      · rw [h9, Nat.zero_mul] at PP
        omega
      · exact h9
    have eq : fmu p b ax ay = fsp p b ax ay ||| rnF p b (fam p b ax * fam p b ay) (fwt p b ax + fwt p b ay) := by
      unfold fmu
      rw [if_neg ni, if_neg (fun h9 => h9.elim zx zy)]
    rw [eq, Z_or, hw, hs]
    congr 1
    · split
      · rfl
      · exact b4
    · rw [← rnF_sc (j := flk p b ax + flk p b ay + 2 * (63 - p)) p0, ← PP, ← st]
      congr 1
      omega
  unfold w_Format_product
  refine ⟨hf.1, ex_isNeg hf hb hx wx (fun r3 z3 c3 _ => ex_isNeg hf hb hy wy (fun r5 z5 c5 _ => ⟨fun e => L18 0 ?_, fun e => L18 1 ?_⟩))⟩
  · rw [if_pos rfl]
    unfold fsp fsg
    rw [if_pos]
    by_cases h9 : ax < fS p b
    · rw [if_pos h9, if_pos (c5.mp (by rw [← e]; exact c3.mpr h9))]
    · rw [if_neg h9, if_neg (fun h8 => h9 (c3.mp (by rw [e]; exact c5.mpr h8)))]
  · rw [if_neg (by decide)]
    unfold fsp fsg
    rw [if_neg]
    by_cases h9 : ax < fS p b
    · have := c3.mpr h9
      rw [if_pos h9, if_neg (fun h8 => e (by rw [this, c5.mpr h8]))]
      omega
    · have q3 : r3 = 1 := z3.resolve_left (fun h8 => h9 (c3.mp h8))
      rw [if_neg h9, if_pos (c5.mp (z5.resolve_right (fun h8 => e (by rw [q3, h8]))))]
      omega
end FL8

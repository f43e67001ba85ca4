-- floating point numbers: every method ends, short results stay short
/-- a format: short (125) or long (124) -/
def fm (h : xb_H) (F : Nat) (τ : Int) : Prop := xb_k h F = 6 ∧ ((τ = 125 ∧ xb_i h F 0 = 24 ∧ xb_i h F 1 = 127 ∧ xb_l h F 2 = 2147483648 ∧ xb_l h F 3 = 2139095040 ∧ xb_l h F 4 = 2143289344) ∨ (τ = 124 ∧ xb_i h F 0 = 53 ∧ xb_i h F 1 = 1023 ∧ xb_l h F 2 = -9223372036854775808 ∧ xb_l h F 3 = 9218868437227405312 ∧ xb_l h F 4 = 9221120237041090560))
section FM1
variable {h : xb_H} {F : Nat} {τ : Int}
theorem fm.s (hf : fm h F τ) : vr τ (xb_l h F 2) := by
  rcases hf.2 with ⟨e, e0, e1, e2, e3, e4⟩ | ⟨e, e0, e1, e2, e3, e4⟩
  · rw [e2]
    exact fun _ => by decide
  · exact vr_no (by omega) (by omega)
theorem fm.s1 (hf : fm h F τ) : vr τ (xb_l h F 2 - 1) := by
  rcases hf.2 with ⟨e, e0, e1, e2, e3, e4⟩ | ⟨e, e0, e1, e2, e3, e4⟩
  · rw [e2]
    exact fun _ => by decide
  · exact vr_no (by omega) (by omega)
theorem fm.i (hf : fm h F τ) : vr τ (xb_l h F 3) := by
  rcases hf.2 with ⟨e, e0, e1, e2, e3, e4⟩ | ⟨e, e0, e1, e2, e3, e4⟩
  · rw [e3]
    exact fun _ => by decide
  · exact vr_no (by omega) (by omega)
theorem fm.n (hf : fm h F τ) : vr τ (xb_l h F 4) := by
  rcases hf.2 with ⟨e, e0, e1, e2, e3, e4⟩ | ⟨e, e0, e1, e2, e3, e4⟩
  · rw [e4]
    exact fun _ => by decide
  · exact vr_no (by omega) (by omega)
theorem fm.b (hf : fm h F τ) : ((xb_i h F 0).toInt = 24 ∨ (xb_i h F 0).toInt = 53) ∧ ((xb_i h F 1).toInt = 127 ∨ (xb_i h F 1).toInt = 1023) := by
  rcases hf.2 with ⟨e, e0, e1, e2, e3, e4⟩ | ⟨e, e0, e1, e2, e3, e4⟩
  · rw [e0, e1]
    exact ⟨.inl rfl, .inl rfl⟩
  · rw [e0, e1]
    exact ⟨.inr rfl, .inr rfl⟩
theorem vr_0 : vr τ 0 := fun _ => by decide
/-- the field of a number's power -/
theorem fm.fl (hf : fm h F τ) (x : Int64) : 0 ≤ (Int64.toInt32 (xb_lushr (x &&& (xb_l h F 2 - 1)) (xb_i h F 0 - 1))).toInt ∧ (Int64.toInt32 (xb_lushr (x &&& (xb_l h F 2 - 1)) (xb_i h F 0 - 1))).toInt < 2048 := by
  have key : ∀ (y : Int64) (z : Int32) (k : Nat), z.toInt = k → k < 64 → y.toBitVec.toNat < 2048 * 2 ^ k → 0 ≤ (Int64.toInt32 (xb_lushr y z)).toInt ∧ (Int64.toInt32 (xb_lushr y z)).toInt < 2048 := by
    intro y z k h1 h2 h3
    have e := Z_ushr (x := y) h1 h2
    have e2 : y.toBitVec.toNat / 2 ^ k < 2048 := Nat.div_lt_of_lt_mul (by rw [Nat.mul_comm]; exact h3)
    rw [← e] at e2
    have e3 := Z_nat (xb_lushr y z)
    have e4 := Z_rg (xb_lushr y z)
    rw [z_of64]
    omega
  rcases hf.2 with ⟨e, e0, e1, e2, e3, e4⟩ | ⟨e, e0, e1, e2, e3, e4⟩
  · rw [e0, e2]
    refine key _ _ 23 rfl (by omega) ?_
    rw [Z_and]
    have : x.toBitVec.toNat &&& (2147483648 - 1 : Int64).toBitVec.toNat ≤ (2147483648 - 1 : Int64).toBitVec.toNat := Nat.and_le_right
    have h9 : (2147483648 - 1 : Int64).toBitVec.toNat = 2147483647 := rfl
    omega
  · rw [e0, e2]
    refine key _ _ 52 rfl (by omega) ?_
    rw [Z_and]
    have : x.toBitVec.toNat &&& (-9223372036854775808 - 1 : Int64).toBitVec.toNat ≤ (-9223372036854775808 - 1 : Int64).toBitVec.toNat := Nat.and_le_right
    have h9 : (-9223372036854775808 - 1 : Int64).toBitVec.toNat = 9223372036854775807 := rfl
    omega
theorem sp_isNan {x : Int64} {Qr : Int32 → xb_H → Prop} (hf : fm h F τ) (hQ : ∀ r : Int32, r = 0 ∨ r = 1 → Qr r h) : w_Format_isNan F x h Qr := by
  unfold w_Format_isNan w_Format_isNan_L21
  exact ⟨hf.1, fun _ => ⟨.inl rfl, hQ 0 (.inl rfl)⟩, fun _ => ⟨.inr rfl, hQ 1 (.inr rfl)⟩⟩
theorem sp_isInfinite {x : Int64} {Qr : Int32 → xb_H → Prop} (hf : fm h F τ) (hQ : ∀ r : Int32, r = 0 ∨ r = 1 → Qr r h) : w_Format_isInfinite F x h Qr := by
  unfold w_Format_isInfinite w_Format_isInfinite_L21
  exact ⟨hf.1, fun _ => ⟨.inl rfl, hQ 0 (.inl rfl)⟩, fun _ => ⟨.inr rfl, hQ 1 (.inr rfl)⟩⟩
theorem sp_isNegative {x : Int64} {Qr : Int32 → xb_H → Prop} (hf : fm h F τ) (hQ : ∀ r : Int32, r = 0 ∨ r = 1 → Qr r h) : w_Format_isNegative F x h Qr := by
  unfold w_Format_isNegative w_Format_isNegative_L16
  exact ⟨hf.1, fun _ => ⟨.inl rfl, hQ 0 (.inl rfl)⟩, fun _ => ⟨.inr rfl, hQ 1 (.inr rfl)⟩⟩
theorem sp_isZero {x : Int64} {Qr : Int32 → xb_H → Prop} (hf : fm h F τ) (hQ : ∀ r : Int32, r = 0 ∨ r = 1 → Qr r h) : w_Format_isZero F x h Qr := by
  unfold w_Format_isZero w_Format_isZero_L18
  exact ⟨hf.1, fun _ => ⟨.inl rfl, hQ 0 (.inl rfl)⟩, fun _ => ⟨.inr rfl, hQ 1 (.inr rfl)⟩⟩
theorem sp_magnitude {x : Int64} {Qr : Int64 → xb_H → Prop} (hf : fm h F τ) (hQ : ∀ r : Int64, r = x &&& (xb_l h F 2 - 1) → vr τ r → Qr r h) : w_Format_magnitude F x h Qr := by
  unfold w_Format_magnitude
  exact ⟨hf.1, hQ _ rfl (vr.and2 hf.s1)⟩
theorem sp_signed {y : Int32} {x : Int64} {Qr : Int64 → xb_H → Prop} (hf : fm h F τ) (hx : vr τ x) (hQ : ∀ r : Int64, vr τ r → Qr r h) : w_Format_signed F y x h Qr := by
  unfold w_Format_signed w_Format_signed_L14
  exact ⟨fun _ => hQ _ hx, fun _ => ⟨hf.1, hQ _ (hx.or hf.s)⟩⟩
theorem sp_power {x : Int64} {Qr : Int32 → xb_H → Prop} (hf : fm h F τ) (hQ : ∀ r : Int32, -1023 ≤ r.toInt → r.toInt < 2048 → Qr r h) : w_Format_power F x h Qr := by
  unfold w_Format_power
  have := hf.fl x
  have hb := hf.b.2
  refine ⟨hf.1, hQ _ ?_ ?_⟩ <;> rw [z_sub] <;> omega
theorem sp_ordered {x : Int64} {Qr : Int64 → xb_H → Prop} (hf : fm h F τ) (hQ : ∀ r : Int64, Qr r h) : w_Format_ordered F x h Qr := by
  unfold w_Format_ordered w_Format_ordered_L22
  exact ⟨hf.1, sp_isNegative hf (fun _ _ _ => ⟨fun _ => sp_magnitude hf (fun _ _ _ _ => hQ _), fun _ => sp_magnitude hf (fun _ _ _ _ => hQ _)⟩)⟩
theorem sp_mantissa {x : Int64} {Qr : Int64 → xb_H → Prop} (hf : fm h F τ) (hQ : ∀ r : Int64, Qr r h) : w_Format_mantissa F x h Qr := by
  unfold w_Format_mantissa
  exact ⟨hf.1, fun v2 _ v3 _ => ⟨fun _ => hQ _, fun _ => sp_zerosAbove (fun _ _ _ _ _ => hQ _)⟩⟩
theorem sp_exponent {x : Int64} {Qr : Int32 → xb_H → Prop} (hf : fm h F τ) (hQ : ∀ r : Int32, -6000 ≤ r.toInt → r.toInt ≤ 6000 → Qr r h) : w_Format_exponent F x h Qr := by
  have hb := hf.b
  have hfl := hf.fl x
  have L : ∀ v3 y0 : Int32, 0 ≤ v3.toInt → v3.toInt < 2048 → -64 ≤ y0.toInt → y0.toInt ≤ 64 → w_Format_exponent_L41 Qr F v3 y0 h := by
    intro v3 y0 h1 h2 h3 h4
    unfold w_Format_exponent_L41
    have e1 : 0 ≤ (if (1 : Int32) < v3 then v3 else 1).toInt ∧ (if (1 : Int32) < v3 then v3 else 1).toInt < 2048 := by
      split
      · exact ⟨h1, h2⟩
      · decide
    obtain ⟨b1, b2⟩ := hb
    generalize (if (1 : Int32) < v3 then v3 else 1) = m at e1
    have e2 : (m - xb_i h F 1).toInt = m.toInt - (xb_i h F 1).toInt := by rw [z_sub]; omega
    have e3 : (xb_i h F 0 - 1).toInt = (xb_i h F 0).toInt - 1 := by rw [z_sub, show (1 : Int32).toInt = 1 from rfl]; omega
    have e4 : (m - xb_i h F 1 - (xb_i h F 0 - 1)).toInt = m.toInt - (xb_i h F 1).toInt - ((xb_i h F 0).toInt - 1) := by rw [z_sub, e2, e3]; omega
    have e5 : (m - xb_i h F 1 - (xb_i h F 0 - 1) - y0).toInt = m.toInt - (xb_i h F 1).toInt - ((xb_i h F 0).toInt - 1) - y0.toInt := by rw [z_sub, e4]; omega
    exact ⟨hf.1, hQ _ (by rw [e5]; omega) (by rw [e5]; omega)⟩
  unfold w_Format_exponent
  refine ⟨hf.1, fun v2 e2 v3 e3 => ?_⟩
  rw [← e2] at hfl
  rw [← e3] at hfl
  refine ⟨fun _ => sp_zerosAbove (fun r6 h1 h2 _ _ => L _ _ hfl.1 hfl.2 ?_ ?_), fun _ => L _ _ hfl.1 hfl.2 (by decide) (by decide)⟩
  all_goals
    obtain ⟨b1, b2⟩ := hb
    have e4 : (64 - xb_i h F 0).toInt = 64 - (xb_i h F 0).toInt := by rw [z_sub, show (64 : Int32).toInt = 64 from rfl]; omega
    rw [z_sub, e4]
    omega
theorem sp_nearest {x1 x2 : Int32} {x : Int64} {Qr : Int64 → xb_H → Prop} (hf : fm h F τ) (h1 : -100000 ≤ x2.toInt) (h2 : x2.toInt ≤ 100000) (hQ : ∀ r : Int64, vr τ r → Qr r h) : w_Format_nearest F x1 x2 x h Qr := by
  obtain ⟨b1, b2⟩ := hf.b
  unfold w_Format_nearest
  refine sp_zerosAbove (fun r2 z1 z2 _ _ v3 e3 v4 e4 => ⟨hf.1, fun v6 e6 => ?_⟩)
  have f3 : v3.toInt = r2.toInt - 1 := by rw [e3, z_sub, show (1 : Int32).toInt = 1 from rfl]; omega
  have f61 : (x2 - v3).toInt = x2.toInt - v3.toInt := by rw [z_sub]; omega
  have f62 : (x2 - v3 + 62).toInt = x2.toInt - v3.toInt + 62 := by rw [z_add, f61, show (62 : Int32).toInt = 62 from rfl]; omega
  have f6 : v6.toInt = x2.toInt - v3.toInt + 62 + (xb_i h F 1).toInt := by rw [e6, z_add, f62]; omega
  have hi : (2 * xb_i h F 1).toInt = 2 * (xb_i h F 1).toInt := by rw [z_mul, show (2 : Int32).toInt = 2 from rfl]; omega
  have hp : (63 - xb_i h F 0).toInt = 63 - (xb_i h F 0).toInt := by rw [z_sub, show (63 : Int32).toInt = 63 from rfl]; omega
  have hp1 : (xb_i h F 0 - 1).toInt = (xb_i h F 0).toInt - 1 := by rw [z_sub, show (1 : Int32).toInt = 1 from rfl]; omega
  have L81 : ∀ (y0 : Int64) (y : Int32), vr τ y0 → v6.toInt ≤ 2 * (xb_i h F 1).toInt → 0 ≤ y.toInt → y.toInt ≤ 110000 → w_Format_nearest_L81 Qr F v4 v6 y0 y (63 - xb_i h F 0) h := by
    intro y0 y hy k1 k2 k3
    unfold w_Format_nearest_L81
    intro v1 e1
    have f1 : v1.toInt = 63 - (xb_i h F 0).toInt + y.toInt := by rw [e1, z_add, hp]; omega
    have fin : ∀ x12 w : Int64, (τ = 125 → x12.toBitVec.toNat ≤ 33554432) → (τ = 125 → w.toBitVec.toNat ≤ 2122317824) → vr τ (y0 ||| (w + x12)) := by
      intro x12 w q1 q2
      refine hy.or (vr_N.mpr (fun e => ?_))
      have e9 : τ = 125 := by
        rcases hf.2 with ⟨e0, -⟩ | ⟨e0, -⟩ <;> omega
      have := q1 e9
      have := q2 e9
      rw [Z_addN]
      omega
    have L151 : ∀ x12 : Int64, (τ = 125 → x12.toBitVec.toNat ≤ 33554432) → w_Format_nearest_L151 Qr F v6 y0 x12 h := by
      intro x12 q1
      unfold w_Format_nearest_L151 w_Format_nearest_L172
      refine ⟨fun _ => hQ _ (fin _ _ q1 (fun _ => by decide)), fun e => ⟨hf.1, hQ _ (fin _ _ q1 (fun e9 => ?_))⟩⟩
      rw [z_le, show (0 : Int32).toInt = 0 from rfl] at e
      have c1 : (xb_i h F 0).toInt = 24 ∧ (xb_i h F 1).toInt = 127 := by
        rcases hf.2 with ⟨e0, e1, e2, -⟩ | ⟨e0, -⟩
        · rw [e1, e2]
          exact ⟨rfl, rfl⟩
        · omega
      have c2 : (v6 - 1).toInt = v6.toInt - 1 := by rw [z_sub, show (1 : Int32).toInt = 1 from rfl]; omega
      have c3 := Z_shl (x := (v6 - 1).toInt64) (y := xb_i h F 0 - 1) (k := 23) (by omega) (by omega)
      have c4 := Z_nat (v6 - 1).toInt64
      rw [Z_of32, c2] at c4
      rw [c3]
      omega
    refine ⟨fun e v3' e3' v4' _ v5 _ => ?_, fun _ => hQ _ hy⟩
    rw [z_le, show (63 : Int32).toInt = 63 from rfl] at e
    have hv3 : τ = 125 → v3'.toBitVec.toNat < 33554432 := by
      intro e9
      have c1 : (xb_i h F 0).toInt = 24 := by
        rcases hf.2 with ⟨e0, e1, e2, -⟩ | ⟨e0, -⟩
        · rw [e1]
          rfl
        · omega
      obtain ⟨k, hk⟩ : ∃ k : Nat, v1.toInt = k := ⟨v1.toInt.toNat, by omega⟩
      rw [e3', Z_ushr (k := k) hk (by omega)]
      have h9 : 2 ^ 39 ≤ 2 ^ k := Nat.pow_le_pow_right (by omega) (by omega)
      have h8 := v4.toBitVec.isLt
      refine Nat.div_lt_of_lt_mul ?_
      have : 33554432 * 2 ^ 39 ≤ 33554432 * 2 ^ k := Nat.mul_le_mul_left _ h9
      rw [Nat.mul_comm]
      omega
    have hu : w_Format_nearest_L145 Qr F v6 y0 v3' h := by
      unfold w_Format_nearest_L145
      intro w1 ew
      refine L151 w1 (fun e9 => ?_)
      have := hv3 e9
      rw [ew, Z_addN, show (1 : Int64).toBitVec.toNat = 1 from rfl]
      omega
    have hd : w_Format_nearest_L151 Qr F v6 y0 v3' h := L151 v3' (fun e9 => by have := hv3 e9; omega)
    exact ⟨fun _ => hu, fun _ => ⟨fun _ => hd, fun _ => ⟨fun _ => hd, fun _ => hu⟩⟩⟩
  have L40 : ∀ y0 : Int64, vr τ y0 → w_Format_nearest_L40 Qr F v4 v6 y0 h := by
    intro y0 hy
    unfold w_Format_nearest_L40
    refine ⟨hf.1, fun e => ?_, fun _ => hQ _ (hy.or hf.i)⟩
    rw [z_le, hi] at e
    refine ⟨fun e2 => L81 y0 _ hy e ?_ ?_, fun e2 => L81 y0 0 hy e (by decide) (by decide)⟩
    all_goals
      rw [z_le, show (0 : Int32).toInt = 0 from rfl] at e2
      rw [z_sub, show (1 : Int32).toInt = 1 from rfl]
      omega
  exact ⟨fun _ => L40 _ vr_0, fun _ => L40 _ hf.s⟩
theorem sp_isAway {x0 x1 x2 : Int32} {Qr : Int32 → xb_H → Prop} (h1 : x1 = 0 ∨ x1 = 1) (h2 : x2 = 0 ∨ x2 = 1) (hQ : ∀ r : Int32, Qr r h) : w_Format_isAway x0 x1 x2 h Qr := by
  unfold w_Format_isAway w_Format_isAway_L37
  exact ⟨fun _ => ⟨fun _ => ⟨.inl rfl, hQ _⟩, fun _ => ⟨.inr rfl, hQ _⟩⟩, fun _ => ⟨h1, hQ _⟩, fun _ => hQ _, fun _ _ _ => ⟨h2, hQ _⟩⟩
theorem sp_lowered {x : Int64} {y : Int32} {Qr : Int64 → xb_H → Prop} (hQ : ∀ r : Int64, Qr r h) : w_Format_lowered x y h Qr := by
  unfold w_Format_lowered w_Format_lowered_L30
  exact ⟨fun _ v2 _ => ⟨fun _ => hQ _, fun _ => hQ _⟩, fun _ => hQ _⟩
theorem sp_highProduct {x y : Int64} {Qr : Int64 → xb_H → Prop} (hQ : ∀ r : Int64, Qr r h) : w_Format_highProduct x y h Qr := by
  unfold w_Format_highProduct w_Format_highProduct_L101 w_Format_highProduct_L106 w_Format_highProduct_L122
  intro v1 _ v2 _ v3 _ v4 _ v5 _ v6 _ v7 _ v8 _
  exact ⟨fun _ => ⟨fun _ => hQ _, fun _ => hQ _⟩, fun _ => ⟨fun _ => ⟨fun _ => hQ _, fun _ => hQ _⟩, fun _ => ⟨fun _ => hQ _, fun _ => hQ _⟩⟩⟩
theorem sp_sumOfBounds {x y : Int64} {Qr : Int64 → xb_H → Prop} (hf : fm h F τ) (hx : vr τ x) (hy : vr τ y) (hQ : ∀ r : Int64, vr τ r → Qr r h) : w_Format_sumOfBounds F x y h Qr := by
  unfold w_Format_sumOfBounds w_Format_sumOfBounds_L29 w_Format_sumOfBounds_L30 w_Format_sumOfBounds_L64
  exact ⟨hf.1, sp_isInfinite hf (fun _ _ _ => ⟨fun _ => sp_isInfinite hf (fun _ _ _ => ⟨fun _ => sp_isZero hf (fun _ _ _ => ⟨fun _ => hQ _ hx, fun _ => sp_isZero hf (fun _ _ _ => ⟨fun _ => hQ _ hy, fun _ => hQ _ hx.and1⟩)⟩), fun _ => hQ _ hy⟩), fun _ => sp_isInfinite hf (fun _ _ _ => ⟨fun _ => hQ _ hx, fun _ => ⟨fun _ => hQ _ hx, fun _ => hQ _ hf.n⟩⟩)⟩)⟩
theorem sp_wholePart {x : Int64} {Qr : Int64 → xb_H → Prop} (hf : fm h F τ) (hQ : ∀ r : Int64, Qr r h) : w_Format_wholePart F x h Qr := by
  unfold w_Format_wholePart w_Format_wholePart_L62
  exact ⟨hf.1, sp_power hf (fun _ _ _ _ => ⟨fun _ v5 _ v6 _ v7 _ => ⟨fun _ => hQ _, fun _ => hQ _⟩, fun _ => hQ _⟩)⟩
end FM1

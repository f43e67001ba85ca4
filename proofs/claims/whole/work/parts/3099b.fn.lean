-- floating point numbers: what instructions reckon
theorem z_sar1 (x : Int32) : (x >>> (1 &&& 31)).toInt = x.toInt / 2 := by
  show ((x >>> (1 &&& 31)).toBitVec).toInt = _
  rw [Int32.toBitVec_shiftRight]
  show (x.toBitVec.sshiftRight ((1 &&& 31 : Int32).toBitVec.smod 32).toNat).toInt = _
  rw [BitVec.toInt_sshiftRight, show ((1 &&& 31 : Int32).toBitVec.smod 32).toNat = 1 by decide, Int.shiftRight_eq_div_pow]
  rfl
section FM2
variable {h : xb_H} {F F2 : Nat} {τ τ2 : Int}
theorem sp_rounded {x1 : Int32} {x : Int64} {Qr : Int64 → xb_H → Prop} (hf : fm h F τ) (hx : vr τ x) (hQ : ∀ r : Int64, vr τ r → Qr r h) : w_Format_rounded F x1 x h Qr := by
  unfold w_Format_rounded w_Format_rounded_L26
  refine ⟨hf.1, sp_power hf (fun r3 p1 p2 _ => ⟨fun _ => hQ _ hx, fun e3 => sp_isZero hf (fun r6 _ _ => ⟨fun _ => sp_isNegative hf (fun r9 hr9 _ => sp_magnitude hf (fun r11 e11 h11 _ => ⟨fun e0 v13 e13 v14 e14 v15 e15 => ⟨fun _ v17 _ => ?_, fun _ => hQ _ hx⟩, fun _ => ?_⟩)), fun _ => hQ _ hx⟩)⟩)⟩
  · have hw : vr τ v15 ∧ vr τ (v15 + xb_lshl 1 v13) := by
      rcases hf.2 with ⟨e, f0, f1, f2, -⟩ | ⟨e, -⟩
      · rw [f0, z_le, show (24 - 1 : Int32).toInt = 23 from rfl] at e3
        rw [z_le, show (0 : Int32).toInt = 0 from rfl] at e0
        have c13 : v13.toInt = (23 - r3.toInt.toNat : Nat) := by
          rw [e13, f0, z_sub, show (24 - 1 : Int32).toInt = 23 from rfl]
          omega
        have n11 : r11.toBitVec.toNat ≤ 2147483647 := by
          rw [e11, f2, Z_and]
          exact Nat.le_trans Nat.and_le_right (by decide)
        have n14 : v14.toBitVec.toNat ≤ r11.toBitVec.toNat := by
          rw [e14, Z_and]
          exact Nat.and_le_left
        have n1 : (xb_lshl 1 v13).toBitVec.toNat ≤ 8388608 := by
          rw [Z_shl (k := 23 - r3.toInt.toNat) c13 (by omega), show (1 : Int64).toBitVec.toNat = 1 from rfl, Nat.one_mul]
          have h9 : 2 ^ (23 - r3.toInt.toNat) ≤ 2 ^ 23 := Nat.pow_le_pow_right (by omega) (by omega)
          exact Nat.le_trans (Nat.mod_le _ _) h9
        have i11 := Z_nat r11
        have g11 := Z_rg r11
        have i14 := Z_nat v14
        have g14 := Z_rg v14
        have i15 : v15.toInt = r11.toInt - v14.toInt := by
          rw [e15, Z_sub]
          omega
        have n15 : v15.toBitVec.toNat ≤ 2147483647 := by
          have := Z_nat v15
          omega
        refine ⟨vr_N.mpr (fun _ => by omega), vr_N.mpr (fun _ => ?_)⟩
        rw [Z_addN]
        omega
      · exact ⟨vr_no (by omega) (by omega), vr_no (by omega) (by omega)⟩
    have L212 : ∀ y0 : Int32, (y0 = 0 ∨ y0 = 1) → w_Format_rounded_L212 Qr F r9 v13 v15 y0 r9 x1 h := by
      intro y0 hy
      unfold w_Format_rounded_L212 w_Format_rounded_L237
      exact sp_isAway hr9 hy (fun r2 _ => ⟨fun _ => ⟨hf.1, sp_signed hf hw.1 (fun r hr _ => hQ _ hr)⟩, fun _ => ⟨hf.1, sp_signed hf hw.2 (fun r hr _ => hQ _ hr)⟩⟩)
    have L181 : ∀ y0 : Int32, w_Format_rounded_L181 Qr F x1 r9 v13 v14 v15 v17 y0 h := by
      intro y0
      unfold w_Format_rounded_L181 w_Format_rounded_L207 w_Format_rounded_L211
      exact ⟨fun _ => L212 1 (.inr rfl), fun _ => ⟨fun _ => L212 0 (.inl rfl), fun _ => ⟨fun _ => L212 0 (.inl rfl), fun _ => L212 1 (.inr rfl)⟩⟩⟩
    exact ⟨fun _ => L181 0, fun _ => L181 1⟩
  · have hone : vr τ (xb_lshl (Int32.toInt64 (xb_i h F 1)) (xb_i h F 0 - 1)) := by
      rcases hf.2 with ⟨e, f0, f1, f2, -⟩ | ⟨e, -⟩
      · rw [f0, f1]
        exact fun _ => by decide
      · exact vr_no (by omega) (by omega)
    have L78 : ∀ y0 : Int32, (y0 = 0 ∨ y0 = 1) → w_Format_rounded_L78 Qr F x1 r9 y0 h := by
      intro y0 hy
      unfold w_Format_rounded_L78 w_Format_rounded_L114
      exact sp_isAway hr9 hy (fun r2 _ => ⟨fun _ => ⟨hf.1, sp_signed hf vr_0 (fun r hr _ => hQ _ hr)⟩, fun _ => ⟨hf.1, hf.1, sp_signed hf hone (fun r hr _ => hQ _ hr)⟩⟩)
    unfold w_Format_rounded_L77
    exact ⟨fun _ => L78 0 (.inl rfl), fun _ => ⟨fun _ => L78 0 (.inl rfl), fun _ => L78 1 (.inr rfl)⟩⟩
theorem sp_greater {x y : Int64} {Qr : Int64 → xb_H → Prop} (hf : fm h F τ) (hx : vr τ x) (hy : vr τ y) (hQ : ∀ r : Int64, vr τ r → Qr r h) : w_Format_greater F x y h Qr := by
  unfold w_Format_greater w_Format_greater_L37
  exact ⟨hf.1, sp_ordered hf (fun _ _ => sp_ordered hf (fun _ _ => ⟨fun _ => sp_ordered hf (fun _ _ => sp_ordered hf (fun _ _ => ⟨fun _ => hQ _ hy, fun _ => hQ _ hx⟩)), fun _ => hQ _ hx.and1⟩))⟩
theorem sp_lesser {x y : Int64} {Qr : Int64 → xb_H → Prop} (hf : fm h F τ) (hx : vr τ x) (hy : vr τ y) (hQ : ∀ r : Int64, vr τ r → Qr r h) : w_Format_lesser F x y h Qr := by
  unfold w_Format_lesser w_Format_lesser_L37
  exact ⟨hf.1, sp_ordered hf (fun _ _ => sp_ordered hf (fun _ _ => ⟨fun _ => sp_ordered hf (fun _ _ => sp_ordered hf (fun _ _ => ⟨fun _ => hQ _ hy, fun _ => hQ _ hx⟩)), fun _ => hQ _ (hx.or hy)⟩))⟩
theorem sp_fholds {w : Int32} {x y : Int64} {Qr : Int32 → xb_H → Prop} (hf : fm h F τ) (hQ : ∀ r : Int32, Qr r h) : w_Format_holds F w x y h Qr := by
  unfold w_Format_holds w_Format_holds_L17 w_Format_holds_L27 w_Format_holds_L93 w_Format_holds_L107 w_Format_holds_L121 w_Format_holds_L135 w_Format_holds_L149 w_Format_holds_L163
  have a : ∀ {p : Prop}, (p → ((0 : Int32) = 0 ∨ (0 : Int32) = 1) ∧ Qr 0 h) := fun _ => ⟨.inl rfl, hQ 0⟩
  have b : ∀ {p : Prop}, (p → ((1 : Int32) = 0 ∨ (1 : Int32) = 1) ∧ Qr 1 h) := fun _ => ⟨.inr rfl, hQ 1⟩
  exact ⟨hf.1, sp_isNan hf (fun _ _ _ => ⟨fun _ => ⟨a, b⟩, fun _ => sp_isNan hf (fun _ _ _ => ⟨fun _ => sp_ordered hf (fun _ _ => sp_ordered hf (fun _ _ => ⟨fun _ => ⟨a, b⟩, fun _ => ⟨a, b⟩, fun _ => ⟨a, b⟩, fun _ => ⟨a, b⟩, fun _ => ⟨a, b⟩, fun _ _ _ _ _ => ⟨a, b⟩⟩)), fun _ => ⟨a, b⟩⟩)⟩)⟩
theorem z_pm {x y : Int32} {m n : Int} (h1 : -m ≤ x.toInt) (h2 : x.toInt ≤ m) (h3 : -n ≤ y.toInt) (h4 : y.toInt ≤ n) (h5 : m + n < 1000000000) (h6 : 0 ≤ m) (h7 : 0 ≤ n) : (x + y).toInt = x.toInt + y.toInt ∧ (x - y).toInt = x.toInt - y.toInt := by
  rw [z_add, z_sub]
  omega
theorem sp_sum {x y : Int64} {Qr : Int64 → xb_H → Prop} (hf : fm h F τ) (hx : vr τ x) (hy : vr τ y) (hQ : ∀ r : Int64, vr τ r → Qr r h) : w_Format_sum F x y h Qr := by
  have L32 : w_Format_sum_L32 Qr F x y h := by
    unfold w_Format_sum_L32
    exact ⟨hf.1, sp_sumOfBounds hf hx hy (fun r hr _ => hQ r hr)⟩
  unfold w_Format_sum
  refine ⟨hf.1, sp_isInfinite hf (fun _ _ _ => ⟨fun _ => L32, fun _ => sp_isInfinite hf (fun _ _ _ => ⟨fun _ => L32, fun _ => sp_isZero hf (fun _ _ _ => ⟨fun _ => L32, fun _ => sp_isZero hf (fun _ _ _ => ⟨fun _ v14 e14 => sp_mantissa hf (fun r16 _ v17 _ => sp_mantissa hf (fun r19 _ v20 _ => sp_exponent hf (fun r22 _ _ _ => sp_exponent hf (fun r24 _ _ _ v25 _ => ?_)))), fun _ => L32⟩)⟩)⟩)⟩)⟩
  have h14 : v14.toInt = 62 - (xb_i h F 0).toInt := by
    have := hf.b.1
    rw [e14, z_sub, show (62 : Int32).toInt = 62 from rfl]
    omega
  have L140 : ∀ a b : Int64, w_Format_sum_L140 Qr F x y v14 a b h := by
    intro a b
    unfold w_Format_sum_L140 w_Format_sum_L183 w_Format_sum_L200
    refine fun v1 _ => ⟨fun _ => ⟨hf.1, sp_exponent hf (fun r5 q1 q2 _ => sp_exponent hf (fun r7 q3 q4 _ v8 e8 => ?_))⟩, fun _ => hQ _ vr_0⟩
    have hm : -6000 ≤ (if r5 < r7 then r7 else r5).toInt ∧ (if r5 < r7 then r7 else r5).toInt ≤ 6000 := by
      split
      · exact ⟨q3, q4⟩
      · exact ⟨q1, q2⟩
    have hb := hf.b.1
    have e9 : v8.toInt = (if r5 < r7 then r7 else r5).toInt - v14.toInt := by
      rw [e8]
      exact (z_pm (m := 6000) (n := 6000) hm.1 hm.2 (by omega) (by omega) (by omega) (by omega) (by omega)).2
    have nr : ∀ (s : Int32) (z : Int64), xb_k h F = 6 ∧ w_Format_nearest F s v8 z h (fun (r3 : Int64) (h2 : xb_H) => xb_ext h h2 → Qr r3 h2) := fun s z => ⟨hf.1, sp_nearest hf (by omega) (by omega) (fun r hr _ => hQ r hr)⟩
    exact ⟨fun _ => ⟨fun _ => nr _ _, fun _ => nr _ _⟩, fun _ => ⟨fun _ => nr _ _, fun _ => nr _ _⟩⟩
  have L108 : ∀ a b : Int64, w_Format_sum_L108 Qr F x y v14 a b h := by
    intro a b
    unfold w_Format_sum_L108 w_Format_sum_L124
    exact ⟨hf.1, sp_isNegative hf (fun _ _ _ => ⟨fun _ => ⟨hf.1, sp_isNegative hf (fun _ _ _ => ⟨fun _ => L140 _ _, fun _ => L140 _ _⟩)⟩, fun _ => ⟨hf.1, sp_isNegative hf (fun _ _ _ => ⟨fun _ => L140 _ _, fun _ => L140 _ _⟩)⟩⟩)⟩
  exact ⟨fun _ => sp_lowered (fun r _ => L108 _ _), fun _ => sp_lowered (fun r _ => L108 _ _)⟩
theorem sp_product {x y : Int64} {Qr : Int64 → xb_H → Prop} (hf : fm h F τ) (hQ : ∀ r : Int64, vr τ r → Qr r h) : w_Format_product F x y h Qr := by
  have L36 : ∀ s : Int32, w_Format_product_L36 Qr F x y s h := by
    intro s
    unfold w_Format_product_L36 w_Format_product_L52 w_Format_product_L69
    exact ⟨hf.1, sp_isZero hf (fun _ _ _ => ⟨fun _ => ⟨hf.1, hQ _ hf.n⟩, fun _ => sp_isZero hf (fun _ _ _ => ⟨fun _ => sp_signed hf hf.i (fun r hr _ => hQ r hr), fun _ => ⟨hf.1, hQ _ hf.n⟩⟩)⟩)⟩
  have L18 : ∀ s : Int32, w_Format_product_L18 Qr F x y s h := by
    intro s
    have L86 : w_Format_product_L86 Qr F s h := by
      unfold w_Format_product_L86
      exact ⟨hf.1, sp_signed hf vr_0 (fun r hr _ => hQ r hr)⟩
    unfold w_Format_product_L18
    refine ⟨hf.1, sp_isInfinite hf (fun _ _ _ => ⟨fun _ => L36 s, fun _ => sp_isInfinite hf (fun _ _ _ => ⟨fun _ => sp_isZero hf (fun _ _ _ => ⟨fun _ => L86, fun _ => sp_isZero hf (fun _ _ _ => ⟨fun _ v14 e14 => sp_exponent hf (fun r16 q1 q2 _ => sp_exponent hf (fun r18 q3 q4 _ v19 e19 => sp_mantissa hf (fun r21 _ => sp_mantissa hf (fun r23 _ => sp_highProduct (fun r25 _ => sp_nearest hf ?_ ?_ (fun r hr _ => hQ r hr)))))), fun _ => L86⟩)⟩), fun _ => L36 s⟩)⟩)⟩
    all_goals
      have hb := hf.b.1
      have h14 : v14.toInt = 63 - (xb_i h F 0).toInt := by
        rw [e14, z_sub, show (63 : Int32).toInt = 63 from rfl]
        omega
      have g1 := (z_pm (m := 6000) (n := 6000) q1 q2 q3 q4 (by omega) (by omega) (by omega)).1
      have g2 : (2 * v14).toInt = 2 * v14.toInt := by
        rw [z_mul, show (2 : Int32).toInt = 2 from rfl]
        omega
      have g3 := (z_pm (x := r16 + r18) (y := 2 * v14) (m := 12000) (n := 12000) (by omega) (by omega) (by omega) (by omega) (by omega) (by omega) (by omega)).2
      have g4 := (z_pm (x := r16 + r18 - 2 * v14) (y := 64) (m := 24000) (n := 64) (by omega) (by omega) (by decide) (by decide) (by omega) (by omega) (by omega)).1
      rw [e19, g4, show (64 : Int32).toInt = 64 from rfl]
      omega
  unfold w_Format_product
  exact ⟨hf.1, sp_isNegative hf (fun _ _ _ => sp_isNegative hf (fun _ _ _ => ⟨fun _ => L18 0, fun _ => L18 1⟩))⟩
theorem sp_quotient {x y : Int64} {Qr : Int64 → xb_H → Prop} (hf : fm h F τ) (hQ : ∀ r : Int64, vr τ r → Qr r h) : w_Format_quotient F x y h Qr := by
  have key : ∀ (s : Int32) (m : Nat) (x6 x8 x10 : Int64) (x12 : Int32) (k : Nat), x12.toInt = k → k + m = 60 → w_Format_quotient_L128 Qr (m + 1) F x y s x6 x8 x10 x12 h := by
    intro s m
    induction m with
    | zero =>
      intro x6 x8 x10 x12 k h1 h2
      unfold w_Format_quotient_L128 w_Format_quotient_L207
      refine ⟨fun _ => ⟨hf.1, sp_exponent hf (fun r4 q1 q2 _ => sp_exponent hf (fun r6 q3 q4 _ => ?_))⟩, fun e => ?_⟩
      · have g1 := (z_pm (m := 6000) (n := 6000) q1 q2 q3 q4 (by omega) (by omega) (by omega)).2
        have g2 := (z_pm (x := r4 - r6) (y := 60) (m := 12000) (n := 60) (by omega) (by omega) (by decide) (by decide) (by omega) (by omega) (by omega)).2
        rw [show (60 : Int32).toInt = 60 from rfl] at g2
        have nr : ∀ z : Int64, xb_k h F = 6 ∧ w_Format_nearest F s (r4 - r6 - 60) z h (fun (r3 : Int64) (h2 : xb_H) => xb_ext h h2 → Qr r3 h2) := fun z => ⟨hf.1, sp_nearest hf (by omega) (by omega) (fun r hr _ => hQ r hr)⟩
        exact ⟨fun _ => nr _, fun _ => nr _⟩
      · rw [z_le, h1, show (60 : Int32).toInt = 60 from rfl] at e
        omega
    | succ m ih =>
      intro x6 x8 x10 x12 k h1 h2
      unfold w_Format_quotient_L128 w_Format_quotient_L162
      refine ⟨fun e => ?_, fun e v8 _ => ⟨fun _ v1 _ => ih _ _ _ _ (k + 1) (z_inc h1 (by omega)) (by omega), fun _ v10 _ v11 _ v1 _ => ih _ _ _ _ (k + 1) (z_inc h1 (by omega)) (by omega)⟩⟩
      rw [z_le, h1, show (60 : Int32).toInt = 60 from rfl] at e
      omega
  have L52 : w_Format_quotient_L52 Qr F h := by
    unfold w_Format_quotient_L52
    exact ⟨hf.1, hQ _ hf.n⟩
  have L57 : ∀ s : Int32, w_Format_quotient_L57 Qr F x y s h := by
    intro s
    have L73 : w_Format_quotient_L73 Qr F s h := by
      unfold w_Format_quotient_L73
      exact ⟨hf.1, sp_signed hf hf.i (fun r hr _ => hQ r hr)⟩
    have L100 : w_Format_quotient_L100 Qr F s h := by
      unfold w_Format_quotient_L100
      exact ⟨hf.1, sp_signed hf vr_0 (fun r hr _ => hQ r hr)⟩
    unfold w_Format_quotient_L57
    exact ⟨hf.1, sp_isInfinite hf (fun _ _ _ => ⟨fun _ => L73, fun _ => sp_isZero hf (fun _ _ _ => ⟨fun _ => sp_isZero hf (fun _ _ _ => ⟨fun _ => L100, fun _ => sp_isInfinite hf (fun _ _ _ => ⟨fun _ => sp_mantissa hf (fun r15 _ => sp_mantissa hf (fun r17 _ => ⟨61, key s 60 _ _ _ 0 0 rfl (by omega)⟩)), fun _ => L100⟩)⟩), fun _ => L73⟩)⟩)⟩
  have L36 : ∀ s : Int32, w_Format_quotient_L36 Qr F x y s h := by
    intro s
    unfold w_Format_quotient_L36
    exact ⟨hf.1, sp_isZero hf (fun _ _ _ => ⟨fun _ => L57 s, fun _ => sp_isZero hf (fun _ _ _ => ⟨fun _ => L57 s, fun _ => L52⟩)⟩)⟩
  have L18 : ∀ s : Int32, w_Format_quotient_L18 Qr F x y s h := by
    intro s
    unfold w_Format_quotient_L18
    exact ⟨hf.1, sp_isInfinite hf (fun _ _ _ => ⟨fun _ => L36 s, fun _ => sp_isInfinite hf (fun _ _ _ => ⟨fun _ => L52, fun _ => L36 s⟩)⟩)⟩
  unfold w_Format_quotient
  exact ⟨hf.1, sp_isNegative hf (fun _ _ _ => sp_isNegative hf (fun _ _ _ => ⟨fun _ => L18 0, fun _ => L18 1⟩))⟩
theorem sp_root {x : Int64} {Qr : Int64 → xb_H → Prop} (hf : fm h F τ) (hx : vr τ x) (hQ : ∀ r : Int64, vr τ r → Qr r h) : w_Format_root F x h Qr := by
  have key : ∀ (x5 : Int32), -10000 ≤ x5.toInt → x5.toInt ≤ 10000 → ∀ (m : Nat) (x3 x6 x8 : Int64) (x10 : Int32) (k : Nat), x10.toInt = k → k + m = 60 → w_Format_root_L93 Qr (m + 1) F x3 x5 x6 x8 x10 h := by
    intro x5 q1 q2 m
    induction m with
    | zero =>
      intro x3 x6 x8 x10 k h1 h2
      unfold w_Format_root_L93 w_Format_root_L181
      refine ⟨fun _ => ?_, fun e => ?_⟩
      · have g1 := z_sar1 x5
        have g2 := (z_pm (x := x5 >>> (1 &&& 31)) (y := 29) (m := 12000) (n := 60) (by omega) (by omega) (by decide) (by decide) (by omega) (by omega) (by omega)).2
        rw [show (29 : Int32).toInt = 29 from rfl] at g2
        have nr : ∀ z : Int64, xb_k h F = 6 ∧ w_Format_nearest F 0 (x5 >>> (1 &&& 31) - 29) z h (fun (r3 : Int64) (h2 : xb_H) => xb_ext h h2 → Qr r3 h2) := fun z => ⟨hf.1, sp_nearest hf (by omega) (by omega) (fun r hr _ => hQ r hr)⟩
        exact ⟨fun _ => nr _, fun _ => nr _⟩
      · rw [z_le, h1, show (60 : Int32).toInt = 60 from rfl] at e
        omega
    | succ m ih =>
      intro x3 x6 x8 x10 k h1 h2
      unfold w_Format_root_L93 w_Format_root_L150
      refine ⟨fun e => ?_, fun e v3 _ v4 _ v5 _ v6 _ => ⟨fun _ => ih _ _ _ _ (k + 1) (z_inc h1 (by omega)) (by omega), fun _ v8 _ v9 _ => ih _ _ _ _ (k + 1) (z_inc h1 (by omega)) (by omega)⟩⟩
      rw [z_le, h1, show (60 : Int32).toInt = 60 from rfl] at e
      omega
  have L26 : w_Format_root_L26 Qr F h := by
    unfold w_Format_root_L26
    exact ⟨hf.1, hQ _ hf.n⟩
  unfold w_Format_root w_Format_root_L84
  refine ⟨hf.1, sp_isZero hf (fun _ _ _ => ⟨fun _ => sp_isNan hf (fun _ _ _ => ⟨fun _ => L26, fun _ => sp_isNegative hf (fun _ _ _ => ⟨fun _ => sp_isInfinite hf (fun _ _ _ => ⟨fun _ => sp_mantissa hf (fun r15 _ v16 _ => sp_exponent hf (fun r18 q1 q2 _ v19 e19 => ?_)), fun _ => hQ _ hx⟩), fun _ => L26⟩)⟩), fun _ => hQ _ hx⟩)⟩
  have hb := hf.b.1
  have g1 : (64 - xb_i h F 0).toInt = 64 - (xb_i h F 0).toInt := by
    rw [z_sub, show (64 : Int32).toInt = 64 from rfl]
    omega
  have g2 := (z_pm (x := r18) (y := 64 - xb_i h F 0) (m := 6000) (n := 100) q1 q2 (by omega) (by omega) (by omega) (by omega) (by omega)).2
  rw [← e19, g1] at g2
  have g3 := (z_pm (x := v19) (y := 1) (m := 7000) (n := 1) (by omega) (by omega) (by decide) (by decide) (by omega) (by omega) (by omega)).1
  rw [show (1 : Int32).toInt = 1 from rfl] at g3
  exact ⟨fun _ => ⟨61, key _ (by omega) (by omega) 60 _ _ _ 0 0 rfl (by omega)⟩, fun _ v21 _ => ⟨61, key _ (by omega) (by omega) 60 _ _ _ 0 0 rfl (by omega)⟩⟩
theorem sp_ofOther {x : Int64} {Qr : Int64 → xb_H → Prop} (hf : fm h F τ) (hf2 : fm h F2 τ2) (hQ : ∀ r : Int64, vr τ r → Qr r h) : w_Format_ofOther F F2 x h Qr := by
  unfold w_Format_ofOther
  exact ⟨hf2.1, sp_isNan hf2 (fun _ _ _ => ⟨fun _ => sp_isNegative hf2 (fun _ _ _ => sp_isInfinite hf2 (fun _ _ _ => ⟨fun _ => sp_isZero hf2 (fun _ _ _ => ⟨fun _ => sp_exponent hf2 (fun r14 q1 q2 _ => sp_mantissa hf2 (fun r16 _ => ⟨hf.1, sp_nearest hf (by omega) (by omega) (fun r hr _ => hQ r hr)⟩)), fun _ => ⟨hf.1, sp_signed hf vr_0 (fun r hr _ => hQ r hr)⟩⟩), fun _ => ⟨hf.1, sp_signed hf hf.i (fun r hr _ => hQ r hr)⟩⟩)), fun _ => ⟨hf.1, hQ _ hf.n⟩⟩)⟩
theorem sp_ofWhole {x : Int64} {y : Int32} {Qr : Int64 → xb_H → Prop} (hf : fm h F τ) (hQ : ∀ r : Int64, vr τ r → Qr r h) : w_Format_ofWhole F x y h Qr := by
  have L28 : ∀ (s : Int32) (z : Int64), w_Format_ofWhole_L28 Qr F s z h := by
    intro s z
    unfold w_Format_ofWhole_L28
    exact ⟨fun _ => ⟨fun _ => ⟨hf.1, sp_nearest hf (by decide) (by decide) (fun r hr _ => hQ r hr)⟩, fun _ => ⟨hf.1, sp_nearest hf (by decide) (by decide) (fun r hr _ => hQ r hr)⟩⟩, fun _ => hQ _ vr_0⟩
  unfold w_Format_ofWhole w_Format_ofWhole_L14 w_Format_ofWhole_L15
  exact ⟨fun _ => ⟨fun _ => L28 _ _, fun _ => L28 _ _⟩, fun _ => ⟨fun _ => ⟨fun _ => L28 _ _, fun _ => L28 _ _⟩, fun _ => ⟨fun _ => L28 _ _, fun _ => L28 _ _⟩⟩⟩
theorem sp_trapOfWhole {x : Int64} {y z : Int32} {Qr : Int32 → xb_H → Prop} (hf : fm h F τ) (hQ : ∀ r : Int32, Qr r h) : w_Format_trapOfWhole F x y z h Qr := by
  unfold w_Format_trapOfWhole w_Format_trapOfWhole_L77 w_Format_trapOfWhole_L82 w_Format_trapOfWhole_L114 w_Format_trapOfWhole_L118 w_Format_trapOfWhole_L119 w_Format_trapOfWhole_L121 w_Format_trapOfWhole_L131
  have L : ∀ {p q : Prop}, (p → Qr 4 h) ∧ (q → Qr 0 h) := ⟨fun _ => hQ _, fun _ => hQ _⟩
  exact ⟨hf.1, sp_isNan hf (fun _ _ _ => ⟨fun _ => sp_power hf (fun _ _ _ _ => ⟨fun _ => sp_wholePart hf (fun _ _ => sp_isNegative hf (fun _ _ _ => ⟨fun _ => ⟨fun _ => L, fun _ => ⟨fun _ => L, fun _ => ⟨fun _ => L, fun _ => L⟩⟩⟩, fun _ => ⟨fun _ => ⟨fun _ => L, fun _ => ⟨fun _ => L, fun _ => L⟩⟩, fun _ => ⟨fun _ => L, fun _ => L⟩⟩⟩)), fun _ => hQ _⟩), fun _ => hQ _⟩)⟩
theorem sp_reckonOne {w : Int32} {x : Int64} {Qr : Int64 → xb_H → Prop} (hf : fm h F τ) (hx : vr τ x) (hQ : ∀ r : Int64, vr τ r → Qr r h) : w_Format_reckonOne F w x h Qr := by
  unfold w_Format_reckonOne w_Format_reckonOne_L76
  exact ⟨fun _ => ⟨hf.1, sp_magnitude hf (fun r _ hr _ => hQ r hr)⟩, fun _ => ⟨hf.1, hQ _ (hx.xor hf.s)⟩, fun _ => ⟨hf.1, sp_root hf hx (fun r hr _ => hQ r hr)⟩, fun _ _ _ => ⟨hf.1, sp_isNan hf (fun _ _ _ => ⟨fun _ => sp_rounded hf hx (fun r hr _ => hQ r hr), fun _ => hQ _ hf.n⟩)⟩⟩
theorem sp_reckonTwo {w : Int32} {x y : Int64} {Qr : Int64 → xb_H → Prop} (hf : fm h F τ) (hx : vr τ x) (hy : vr τ y) (hQ : ∀ r : Int64, vr τ r → Qr r h) : w_Format_reckonTwo F w x y h Qr := by
  unfold w_Format_reckonTwo w_Format_reckonTwo_L37
  exact ⟨fun _ => ⟨hf.1, sp_isNan hf (fun _ _ _ => ⟨fun _ => ⟨hf.1, hQ _ hf.n⟩, fun _ => sp_isNan hf (fun _ _ _ => ⟨fun _ => ⟨fun _ => sp_sum hf hx hy (fun r hr _ => hQ r hr), fun _ => sp_sum hf hx (hy.xor hf.s) (fun r hr _ => hQ r hr), fun _ => sp_product hf (fun r hr _ => hQ r hr), fun _ => sp_quotient hf (fun r hr _ => hQ r hr), fun _ => sp_lesser hf hx hy (fun r hr _ => hQ r hr), fun _ _ _ _ _ => sp_greater hf hx hy (fun r hr _ => hQ r hr)⟩, fun _ => ⟨hf.1, hQ _ hf.n⟩⟩)⟩)⟩, fun _ => ⟨hf.1, sp_magnitude hf (fun r _ hr _ => hQ _ (hr.or (vr.and1 hy)))⟩⟩
end FM2

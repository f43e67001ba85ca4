-- equality, floating point: the class's sum, its end
section FL7
variable {h : xb_H} {F p b : Nat} {τ : Int} {x y : Int64} {ax ay : Nat}
theorem ex_sum_L108 {x5 : Int32} {x6 x8 : Int64} {up A6 A8 : Nat} {E : Int} {Qr : Int64 → xb_H → Prop} (hf : fm h F τ) (hb : fpb τ p b) (hx : x.toBitVec.toNat = ax) (hy : y.toBitVec.toNat = ay) (wx : fW p b ax) (wy : fW p b ay) (zx : fmg p b ax ≠ 0) (zy : fmg p b ay ≠ 0) (h5 : x5.toInt = up) (hu : up ≤ 62)
    (h6 : x6.toBitVec.toNat = A6) (h8 : x8.toBitVec.toNat = A8) (p6 : 0 < A6) (q6 : A6 < 4611686018427387904) (p8 : 0 < A8) (q8 : A8 < 4611686018427387904) (hE : E = max (fwt p b ax - flk p b ax) (fwt p b ay - flk p b ay) - up)
    (hQ : ∀ r : Int64, r.toBitVec.toNat = (if fsg p b ax = fsg p b ay then fsg p b ax ||| rnF p b (A6 + A8) E else if A6 = A8 then 0 else if A8 < A6 then fsg p b ax ||| rnF p b (A6 - A8) E else fsg p b ay ||| rnF p b (A8 - A6) E) → Qr r h) : w_Format_sum_L108 Qr F x y x5 x6 x8 h := by
  obtain ⟨b1, b2, b3, b4⟩ := hf.pp hb
  obtain ⟨kk, e, k1, k2, k3, k4⟩ := hb.w
  have hp : (p = 24 ∧ b = 127) ∨ (p = 53 ∧ b = 1023) := by unfold fpb at hb; omega
  have sp : 0 < fS p b := by rw [e]; exact Nat.pow_pos (by omega)
  have ei : ∀ (z : Int64) (A : Nat), z.toBitVec.toNat = A → A < 4611686018427387904 → z.toInt = A := fun z A h1 h2 => Z_nn h1 (by omega)
  have i6 := ei x6 A6 h6 q6
  have i8 := ei x8 A8 h8 q8
  have wr : ∀ a, fmg p b a ≠ 0 → -2000 ≤ fwt p b a - flk p b a ∧ fwt p b a - flk p b a ≤ 2000 := fun a ha => by
    have q3 := (fam_b hb ha).2.2
    have fb : ffl p b a < 2 * b + 2 := by
      unfold ffl
      refine Nat.div_lt_of_lt_mul ?_
      have := fmg_lt (a := a) hb
      unfold fS at this
      rw [Nat.mul_comm]
      exact this
    unfold fwt
    split <;> omega
  have L140 : ∀ (y0 y1 : Int64) (s1 s2 : Int), (s1 = 1 ∨ s1 = -1) → (s2 = 1 ∨ s2 = -1) → (s1 = 1 ↔ ax < fS p b) → (s2 = 1 ↔ ay < fS p b) → y1.toInt = s1 * A6 → y0.toInt = s2 * A8 → w_Format_sum_L140 Qr F x y x5 y0 y1 h := by
    intro y0 y1 s1 s2 hs1 hs2 c1 c2 e1 e2
    have g1 : fsg p b ax = if s1 = 1 then 0 else fS p b := by
      unfold fsg
      by_cases h9 : ax < fS p b
      · rw [if_pos h9, if_pos (c1.mpr h9)]
      · rw [if_neg h9, if_neg (fun h8 => h9 (c1.mp h8))]
    have g2 : fsg p b ay = if s2 = 1 then 0 else fS p b := by
      unfold fsg
      by_cases h9 : ay < fS p b
      · rw [if_pos h9, if_pos (c2.mpr h9)]
      · rw [if_neg h9, if_neg (fun h8 => h9 (c2.mp h8))]
    unfold w_Format_sum_L140
    intro v1 ev
    have f1 : v1.toInt = s1 * A6 + s2 * A8 := by
      rw [ev, Z_add, e1, e2]
      rcases hs1 with rfl | rfl <;> rcases hs2 with rfl | rfl <;> omega
    have near : ∀ (z : Int64) (x1 : Int32) (N : Nat) (v8 : Int32), z.toInt = N → 0 < N → N < 9223372036854775808 → v8.toInt = E → ∀ sg, (sg = if x1 = 0 then 0 else fS p b) → (∀ r : Int64, r.toBitVec.toNat = sg ||| rnF p b N E → Qr r h) → w_Format_sum_L200 Qr z v8 x1 F h := by
      intro z x1 N v8 d1 d2 d3 d4 sg d5 d6
      have wa := wr ax zx
      have wb := wr ay zy
      unfold w_Format_sum_L200
      have dz : z.toBitVec.toNat = N := by
        have := Z_nat z
        omega
      refine ⟨hf.1, ex_nearest hf hb dz d2 d3 d4 (by omega) (by omega) (fun w hw _ => d6 _ ?_)⟩
      rw [Z_or, hw, d5]
      congr 1
      split
      · rfl
      · exact b4
    refine ⟨fun hne => ⟨hf.1, ex_exponent hf hb hx zx (fun r5 e5 _ => ex_exponent hf hb hy zy (fun r7 e7 _ v8 e8 => ?_))⟩, fun hz => hQ _ ?_⟩
    · have wa := wr ax zx
      have wb := wr ay zy
      have f8 : v8.toInt = E := by
        have : (if r5 < r7 then r7 else r5).toInt = max (fwt p b ax - flk p b ax) (fwt p b ay - flk p b ay) := by
          by_cases h9 : r5 < r7
          · rw [if_pos h9, e7]
            rw [z_lt, e5, e7] at h9
            omega
          · rw [if_neg h9, e5]
            rw [z_lt, e5, e7] at h9
            omega
        rw [e8, z_sub, this, h5, hE]
        omega
      rw [Z_eq, f1, show (0 : Int64).toInt = 0 from rfl] at hne
      unfold w_Format_sum_L183
      rw [Z_le, f1, show (0 : Int64).toInt = 0 from rfl]
      have ng : (-v1).toInt = -(s1 * A6 + s2 * A8) := by
        rw [Int64.toInt_neg, Z_bm, f1]
        rcases hs1 with rfl | rfl <;> rcases hs2 with rfl | rfl <;> omega
      rcases hs1 with rfl | rfl <;> rcases hs2 with rfl | rfl
      · rw [if_pos rfl] at g1 g2
        rw [g1, g2, if_pos rfl] at hQ
        refine ⟨fun _ => ⟨fun _ => near v1 0 (A6 + A8) v8 (by rw [f1]; omega) (by omega) (by omega) f8 0 rfl hQ, fun h9 => by omega⟩, fun h9 => by omega⟩
      · rw [if_pos rfl] at g1
        rw [if_neg (by decide)] at g2
        rw [g1, g2, if_neg (by omega), if_neg (by omega)] at hQ
        refine ⟨fun h9 => ⟨fun _ => ?_, fun h8 => by omega⟩, fun h9 => ⟨fun h8 => by omega, fun _ => ?_⟩⟩
        · rw [if_pos (by omega)] at hQ
          exact near v1 0 (A6 - A8) v8 (by rw [f1]; omega) (by omega) (by omega) f8 0 rfl hQ
        · rw [if_neg (by omega)] at hQ
          exact near (-v1) 1 (A8 - A6) v8 (by rw [ng]; omega) (by omega) (by omega) f8 _ rfl hQ
      · rw [if_neg (by decide)] at g1
        rw [if_pos rfl] at g2
        rw [g1, g2, if_neg (by omega), if_neg (by omega)] at hQ
        refine ⟨fun h9 => ⟨fun _ => ?_, fun h8 => by omega⟩, fun h9 => ⟨fun h8 => by omega, fun _ => ?_⟩⟩
        · rw [if_neg (by omega)] at hQ
          exact near v1 0 (A8 - A6) v8 (by rw [f1]; omega) (by omega) (by omega) f8 0 rfl hQ
        · rw [if_pos (by omega)] at hQ
          exact near (-v1) 1 (A6 - A8) v8 (by rw [ng]; omega) (by omega) (by omega) f8 _ rfl hQ
      · rw [if_neg (by decide)] at g1 g2
        rw [g1, g2, if_pos rfl] at hQ
        refine ⟨fun h9 => by omega, fun h9 => ⟨fun h8 => by omega, fun _ => near (-v1) 1 (A6 + A8) v8 (by rw [ng]; omega) (by omega) (by omega) f8 _ rfl hQ⟩⟩
    · rw [Z_eq, f1, show (0 : Int64).toInt = 0 from rfl] at hz
      rcases hs1 with rfl | rfl <;> rcases hs2 with rfl | rfl
      · omega
      · rw [if_pos rfl] at g1
        rw [if_neg (by decide)] at g2
        rw [g1, g2, if_neg (by omega), if_pos (by omega)]
        rfl
      · rw [if_neg (by decide)] at g1
        rw [if_pos rfl] at g2
        rw [g1, g2, if_neg (by omega), if_pos (by omega)]
        rfl
      · omega
  have ne6 : (-x6).toInt = -(A6 : Int) := by rw [Int64.toInt_neg, Z_bm, i6]; omega
  have ne8 : (-x8).toInt = -(A8 : Int) := by rw [Int64.toInt_neg, Z_bm, i8]; omega
  have L124 : ∀ (y1 : Int64) (s1 : Int), (s1 = 1 ∨ s1 = -1) → (s1 = 1 ↔ ax < fS p b) → y1.toInt = s1 * A6 → w_Format_sum_L124 Qr F x y x5 x8 y1 h := by
    intro y1 s1 hs1 c1 e1
    unfold w_Format_sum_L124
    refine ⟨hf.1, ex_isNegative hf hb hy wy (fun r3 c3 _ => ⟨fun e3 => L140 _ _ s1 1 hs1 (.inl rfl) c1 ⟨fun _ => c3.mp e3, fun _ => rfl⟩ e1 (by rw [i8]; omega), fun e3 => L140 _ _ s1 (-1) hs1 (.inr rfl) c1 ⟨fun h9 => absurd h9 (by decide), fun h9 => absurd (c3.mpr h9) e3⟩ e1 (by rw [ne8]; omega)⟩)⟩
  unfold w_Format_sum_L108
  exact ⟨hf.1, ex_isNegative hf hb hx wx (fun r3 c3 _ => ⟨fun e3 => L124 _ 1 (.inl rfl) ⟨fun _ => c3.mp e3, fun _ => rfl⟩ (by rw [i6]; omega), fun e3 => L124 _ (-1) (.inr rfl) ⟨fun h9 => absurd h9 (by decide), fun h9 => absurd (c3.mpr h9) e3⟩ (by rw [ne6]; omega)⟩)⟩
theorem ex_sum {Qr : Int64 → xb_H → Prop} (hf : fm h F τ) (hb : fpb τ p b) (hx : x.toBitVec.toNat = ax) (hy : y.toBitVec.toNat = ay) (wx : fW p b ax) (wy : fW p b ay) (hQ : ∀ r : Int64, r.toBitVec.toNat = fad p b ax ay → Qr r h) : w_Format_sum F x y h Qr := by
  obtain ⟨b1, b2, b3, b4⟩ := hf.pp hb
  have hp : (p = 24 ∧ b = 127) ∨ (p = 53 ∧ b = 1023) := by unfold fpb at hb; omega
  have L32 : fmg p b ax = fI_ p b ∨ fmg p b ay = fI_ p b ∨ fmg p b ax = 0 ∨ fmg p b ay = 0 → w_Format_sum_L32 Qr F x y h := fun hs => by
    unfold w_Format_sum_L32
    exact ⟨hf.1, ex_sumOfBounds hf hb hx hy hs (fun r hr _ => hQ r hr)⟩
  unfold w_Format_sum
  refine ⟨hf.1, ex_isInfinite hf hb hx (fun r3 c3 _ => ⟨fun e3 => L32 (.inl (Classical.byContradiction fun h9 => e3 (c3.mpr h9))), fun e3 => ex_isInfinite hf hb hy (fun r6 c6 _ => ⟨fun e6 => L32 (.inr (.inl (Classical.byContradiction fun h9 => e6 (c6.mpr h9)))), fun e6 => ex_isZero hf hb hx (fun r9 c9 _ => ⟨fun e9 => L32 (.inr (.inr (.inl (Classical.byContradiction fun h9 => e9 (c9.mpr h9))))), fun e9 => ex_isZero hf hb hy (fun r12 c12 _ => ⟨fun e12 v14 e14 => ?_, fun e12 => L32 (.inr (.inr (.inr (Classical.byContradiction fun h9 => e12 (c12.mpr h9)))))⟩)⟩)⟩)⟩)⟩
  have zx := c9.mp e9
  have zy := c12.mp e12
  have fd : fad p b ax ay = faF p b ax ay := by
    unfold fad
    rw [if_neg (c3.mp e3), if_neg (c6.mp e6), if_neg zx, if_neg zy]
  rw [fd] at hQ
  obtain ⟨a1, a2, a3⟩ := fam_b hb zx
  obtain ⟨d1, d2, d3⟩ := fam_b hb zy
  have f14 : v14.toInt = (62 - p : Nat) := by rw [e14, z_sub, b1, show (62 : Int32).toInt = 62 from rfl]; omega
  have e62 : 2 ^ p * 2 ^ (62 - p) = 4611686018427387904 := by rw [← Nat.pow_add, show p + (62 - p) = 62 by omega]
  have e61 : 2 ^ (p - 1) * 2 ^ (62 - p) = 2305843009213693952 := by rw [← Nat.pow_add, show p - 1 + (62 - p) = 61 by omega]
  have hu : 0 < 2 ^ (62 - p) := Nat.pow_pos (by omega)
  refine ex_mantissa hf hb hx zx (fun r16 e16 _ v17 e17 => ex_mantissa hf hb hy zy (fun r19 e19 _ v20 e20 => ex_exponent hf hb hx zx (fun r22 e22 _ => ex_exponent hf hb hy zy (fun r24 e24 _ v25 e25 => ?_))))
  have A1 := Nat.mul_le_mul_right (2 ^ (62 - p)) a1
  have A2 := Nat.mul_lt_mul_of_pos_right a2 hu
  have B1 := Nat.mul_le_mul_right (2 ^ (62 - p)) d1
  have B2 := Nat.mul_lt_mul_of_pos_right d2 hu
  rw [e61] at A1 B1
  rw [e62] at A2 B2
  have f17 : v17.toBitVec.toNat = fam p b ax * 2 ^ flk p b ax * 2 ^ (62 - p) := by rw [e17, Z_shl f14 (by omega), e16, Nat.mod_eq_of_lt (by omega)]
  have f20 : v20.toBitVec.toNat = fam p b ay * 2 ^ flk p b ay * 2 ^ (62 - p) := by rw [e20, Z_shl f14 (by omega), e19, Nat.mod_eq_of_lt (by omega)]
  have wr : ∀ a, fmg p b a ≠ 0 → -2000 ≤ fwt p b a - flk p b a ∧ fwt p b a - flk p b a ≤ 2000 := fun a ha => by
    have q3 := (fam_b hb ha).2.2
    have fb : ffl p b a < 2 * b + 2 := by
      unfold ffl
      refine Nat.div_lt_of_lt_mul ?_
      have := fmg_lt (a := a) hb
      unfold fS at this
      rw [Nat.mul_comm]
      exact this
    unfold fwt
    split <;> omega
  have wa := wr ax zx
  have wb := wr ay zy
  have f25 : v25.toInt = fwt p b ax - flk p b ax - (fwt p b ay - flk p b ay) := by rw [e25, z_sub, e22, e24]; omega
  rw [z_lt, f25, show (0 : Int32).toInt = 0 from rfl]
  refine ⟨fun h9 => ?_, fun h9 => ?_⟩
  · obtain ⟨j, hj⟩ : ∃ j : Nat, (j : Int) = fwt p b ay - flk p b ay - (fwt p b ax - flk p b ax) := ⟨(fwt p b ay - flk p b ay - (fwt p b ax - flk p b ax)).toNat, by omega⟩
    have nj : (-v25).toInt = j := by rw [Int32.toInt_neg, z_bm, f25]; omega
    obtain ⟨t1, t2, t3, t4, t5, t6⟩ := sum_two (up := 62 - p) (fx := fam p b ay) (fy := fam p b ax) (lx := flk p b ay) (ly := flk p b ax) (j := j) (wx := fwt p b ay) (wy := fwt p b ax) hb rfl d1 d2 a1 a2 hj
    refine ex_lowered f17 (by omega) A2 nj (fun r28 e28 _ => ex_sum_L108 (E := fwt p b ay - flk p b ay - (62 - p : Nat)) hf hb hx hy wx wy zx zy f14 (by omega) e28 f20 t5 t6 (by omega) B2 (by omega) (fun r hr => hQ r ?_))
    rw [hr]
    unfold faF
    rw [Int.min_comm (fwt p b ay)] at t1 t2 t3 t4
    generalize fam p b ax * 2 ^ (fwt p b ax - min (fwt p b ax) (fwt p b ay)).toNat = A at *
    generalize fam p b ay * 2 ^ (fwt p b ay - min (fwt p b ax) (fwt p b ay)).toNat = B at *
    generalize stk (fam p b ax * 2 ^ flk p b ax * 2 ^ (62 - p)) j = S at *
    generalize fam p b ay * 2 ^ flk p b ay * 2 ^ (62 - p) = T at *
    by_cases hs : fsg p b ax = fsg p b ay
    · rw [if_pos hs, if_pos hs, Nat.add_comm S, t1, Nat.add_comm B]
    · rw [if_neg hs, if_neg hs]
      rcases Nat.lt_trichotomy A B with c | c | c
      · obtain ⟨u1, u2⟩ := t2 c
        rw [if_neg (by omega), if_neg (by omega), if_neg (by omega), if_neg (by omega), u2]
      · have u1 := t3 c.symm
        rw [if_pos u1.symm, if_pos c]
      · obtain ⟨u1, u2⟩ := t4 c
        rw [if_neg (by omega), if_pos u1, if_neg (by omega), if_pos c, u2]
  · obtain ⟨j, hj⟩ : ∃ j : Nat, (j : Int) = fwt p b ax - flk p b ax - (fwt p b ay - flk p b ay) := ⟨(fwt p b ax - flk p b ax - (fwt p b ay - flk p b ay)).toNat, by omega⟩
    have nj : v25.toInt = j := by rw [f25]; omega
    obtain ⟨t1, t2, t3, t4, t5, t6⟩ := sum_two (up := 62 - p) (fx := fam p b ax) (fy := fam p b ay) (lx := flk p b ax) (ly := flk p b ay) (j := j) (wx := fwt p b ax) (wy := fwt p b ay) hb rfl a1 a2 d1 d2 hj
    refine ex_lowered f20 (by omega) B2 nj (fun r30 e30 _ => ex_sum_L108 (E := fwt p b ax - flk p b ax - (62 - p : Nat)) hf hb hx hy wx wy zx zy f14 (by omega) f17 e30 (by omega) A2 t5 t6 (by omega) (fun r hr => hQ r ?_))
    rw [hr]
    unfold faF
    generalize fam p b ax * 2 ^ (fwt p b ax - min (fwt p b ax) (fwt p b ay)).toNat = A at *
    generalize fam p b ay * 2 ^ (fwt p b ay - min (fwt p b ax) (fwt p b ay)).toNat = B at *
    generalize stk (fam p b ay * 2 ^ flk p b ay * 2 ^ (62 - p)) j = S at *
    generalize fam p b ax * 2 ^ flk p b ax * 2 ^ (62 - p) = T at *
    by_cases hs : fsg p b ax = fsg p b ay
    · rw [if_pos hs, if_pos hs, t1]
    · rw [if_neg hs, if_neg hs]
      rcases Nat.lt_trichotomy A B with c | c | c
      · obtain ⟨u1, u2⟩ := t4 c
        rw [if_neg (by omega), if_neg (by omega), if_neg (by omega), if_neg (by omega), u2]
      · have u1 := t3 c
        rw [if_pos u1, if_pos c]
      · obtain ⟨u1, u2⟩ := t2 c
        rw [if_neg (by omega), if_pos u1, if_neg (by omega), if_pos c, u2]
end FL7

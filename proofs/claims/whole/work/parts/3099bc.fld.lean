-- equality, floating point: the class's root, its end
section FLD
variable {h : xb_H} {F p b : Nat} {τ : Int} {x : Int64} {a : Nat}
theorem isq_ge {r X : Nat} (h : r * r ≤ X) : r ≤ isq X := by
  obtain ⟨-, a2⟩ := isq_s X
  have : r < isq X + 1 := sq_lt (by omega)
  omega
theorem sqS_ge {r X : Nat} (h : r * r ≤ X) : 2 * r ≤ sqS X := by
  have := isq_ge h
  unfold sqS
  omega
/-- the class's bits and exponent, and the spec's -/
theorem rt_nrm {fx l B : Nat} {w e : Int} {δ : Nat} (hb : fpb τ p b) (h0 : 0 < fx) (hl : l ≤ 58) (hd : δ ≤ 1) (he : 2 * e = w - l - (64 - p : Nat) + δ) (hB : B = fx * 2 ^ (l + (64 - p) - δ)) (h62 : 4611686018427387904 ≤ B) :
    rnF p b (sqS (B * 72057594037927936)) (e - 29) = rnF p b (sqS (fx * 2 ^ (w % 2).toNat * (2 ^ 57 * 2 ^ 57))) (w / 2 - 58) := by
  have hp : (p = 24 ∧ b = 127) ∨ (p = 53 ∧ b = 1023) := by unfold fpb at hb; omega
  have p2 : 2 ^ (p + 2) ≤ 2 ^ 55 := Nat.pow_le_pow_right (by omega) (by omega)
  obtain ⟨n, hn⟩ : ∃ n : Nat, 2 * (n : Int) = l + 120 - p - δ - w % 2 := ⟨((l + 120 - p - δ - w % 2 : Int) / 2).toNat, by omega⟩
  have eB : B * 72057594037927936 = fx * 2 ^ (w % 2).toNat * (2 ^ n * 2 ^ n) := by
    rw [hB, show (72057594037927936 : Nat) = 2 ^ 56 from by decide, Nat.mul_assoc, ← Nat.pow_add, ← Nat.pow_add, Nat.mul_assoc, ← Nat.pow_add]
    congr 2
    omega
  have big1 : 2 ^ (p + 2) ≤ sqS (fx * 2 ^ (w % 2).toNat * (2 ^ n * 2 ^ n)) := by
    rw [← eB]
    have q : 2 ^ 59 * 2 ^ 59 ≤ B * 72057594037927936 := by
      refine Nat.le_trans ?_ (Nat.mul_le_mul_right 72057594037927936 h62)
      decide
    exact Nat.le_trans p2 (Nat.le_trans (by decide) (sqS_ge q))
  have big2 : 2 ^ (p + 2) ≤ sqS (fx * 2 ^ (w % 2).toNat * (2 ^ 57 * 2 ^ 57)) := by
    have q1 : 0 < fx * 2 ^ (w % 2).toNat := Nat.mul_pos h0 (Nat.pow_pos (by omega))
    have q : 2 ^ 57 * 2 ^ 57 ≤ fx * 2 ^ (w % 2).toNat * (2 ^ 57 * 2 ^ 57) := by
      have := Nat.mul_le_mul_right (2 ^ 57 * 2 ^ 57) (Nat.succ_le_of_lt q1)
      rw [Nat.succ_eq_add_one, Nat.zero_add, Nat.one_mul] at this
      exact this
    exact Nat.le_trans p2 (Nat.le_trans (by decide) (sqS_ge q))
  have := rnF_sq (n := n) (m := 57) (w := w / 2) hb big1 big2
  rw [eB, show e - 29 = w / 2 - n - 1 by omega, this]
  congr 1
  omega
theorem ex_root {Qr : Int64 → xb_H → Prop} (hf : fm h F τ) (hb : fpb τ p b) (hx : x.toBitVec.toNat = a) (wx : fW p b a) (hQ : ∀ r : Int64, r.toBitVec.toNat = frt p b a → Qr r h) : w_Format_root F x h Qr := by
  obtain ⟨b1, b2, b3, b4⟩ := hf.pp hb
  have hp : (p = 24 ∧ b = 127) ∨ (p = 53 ∧ b = 1023) := by unfold fpb at hb; omega
  have L26 : fmg p b a ≠ 0 → fI_ p b < fmg p b a ∨ fS p b ≤ a → w_Format_root_L26 Qr F h := fun c1 c2 => by
    unfold w_Format_root_L26
    refine ⟨hf.1, hQ _ ?_⟩
    unfold frt
    rw [if_neg c1, if_pos c2, hf.nn hb]
  unfold w_Format_root
  refine ⟨hf.1, ex_isZero hf hb hx (fun r3 c3 _ => ⟨fun e3 => ex_isNan hf hb hx (fun r6 c6 _ => ⟨fun e6 => L26 (c3.mp e3) (.inl (Nat.lt_of_not_le fun h9 => e6 (c6.mpr h9))), fun e6 => ex_isNegative hf hb hx wx (fun r9 c9 _ => ⟨fun e9 => ex_isInfinite hf hb hx (fun r12 c12 _ => ⟨fun e12 => ?_, fun e12 => hQ _ ?_⟩), fun e9 => L26 (c3.mp e3) (.inr (Nat.le_of_not_lt fun h9 => e9 (c9.mpr h9)))⟩)⟩), fun e3 => hQ _ ?_⟩)⟩
  · have zx := c3.mp e3
    have n1 : ¬ (fI_ p b < fmg p b a ∨ fS p b ≤ a) := by
      have := c6.mp e6
      have := c9.mp e9
      omega
    obtain ⟨a1, a2, a3⟩ := fam_b hb zx
    have px := fam_p hb zx
    have wr := fwr hb zx
    have lk : flk p b a ≤ 58 := by
      unfold flk
      split <;> omega
    have e64 : 2 ^ p * 2 ^ (64 - p) = 18446744073709551616 := by rw [← Nat.pow_add, show p + (64 - p) = 64 by omega]
    have e63 : 2 ^ (p - 1) * 2 ^ (64 - p) = 9223372036854775808 := by rw [← Nat.pow_add, show p - 1 + (64 - p) = 63 by omega]
    have A1 := Nat.mul_le_mul_right (2 ^ (64 - p)) a1
    have A2 := Nat.mul_lt_mul_of_pos_right a2 (Nat.pow_pos (n := 64 - p) (show 0 < 2 by omega))
    rw [e63] at A1
    rw [e64] at A2
    have s1 : (64 - xb_i h F 0).toInt = (64 - p : Nat) := by rw [z_sub, b1, show (64 : Int32).toInt = 64 from rfl]; omega
    have eq : frt p b a = rnF p b (sqS (fra p b a * (2 ^ 57 * 2 ^ 57))) (fwt p b a / 2 - 58) := by
      unfold frt
      rw [if_neg zx, if_neg n1, if_neg (c12.mp e12)]
    rw [eq] at hQ
    refine ex_mantissa hf hb hx zx (fun r15 e15 _ v16 e16 => ex_exponent hf hb hx zx (fun r18 e18 _ v19 e19 => ?_))
    have f16 : v16.toBitVec.toNat = fam p b a * 2 ^ flk p b a * 2 ^ (64 - p) := by rw [e16, Z_shl s1 (by omega), e15, Nat.mod_eq_of_lt (by omega)]
    have f19 : v19.toInt = fwt p b a - flk p b a - (64 - p : Nat) := by rw [e19, z_sub, e18, s1]; omega
    have eB : fam p b a * 2 ^ flk p b a * 2 ^ (64 - p) = fam p b a * 2 ^ (flk p b a + (64 - p)) := by rw [Nat.mul_assoc, ← Nat.pow_add]
    have L84 : ∀ (z : Int64) (x5 : Int32) (B δ : Nat) (e : Int), z.toBitVec.toNat = B → x5.toInt = 2 * e → δ ≤ 1 → 2 * e = fwt p b a - flk p b a - (64 - p : Nat) + δ → B = fam p b a * 2 ^ (flk p b a + (64 - p) - δ) → 4611686018427387904 ≤ B → w_Format_root_L84 Qr F z x5 h := by
      intro z x5 B δ e g1 g2 g3 g4 g5 g6
      have nrm := rt_nrm hb px.1 lk g3 g4 g5 g6
      have BL : B < 18446744073709551616 := by rw [← g1]; exact z.toBitVec.isLt
      unfold w_Format_root_L84
      refine ⟨61, ex_root_L93 hf hb BL g6 g2 (by omega) (fun w hw => hQ _ ?_) 60 0 z 0 0 0 0 0 (by omega) (by omega) rfl (by rw [g1, Nat.pow_zero, Nat.mul_one, Nat.mod_eq_of_lt BL]) rfl rfl (by rw [Nat.pow_zero, Nat.mul_one, Nat.div_eq_of_lt BL]) (by omega)⟩
      rw [Z_or, hw, nrm, show (0 : Int64).toBitVec.toNat = 0 from rfl, Nat.zero_or]
      rfl
    have md : (v19 &&& 1).toInt = v19.toInt % 2 := z_mask v19 1 rfl (by omega)
    rw [z_eq, md, f19, show (0 : Int32).toInt = 0 from rfl]
    refine ⟨fun h9 => ?_, fun h9 v21 e21 => ?_⟩
    · obtain ⟨e, he⟩ : ∃ e : Int, fwt p b a - flk p b a - (64 - p : Nat) = 2 * e := ⟨(fwt p b a - flk p b a - (64 - p : Nat)) / 2, by omega⟩
      exact L84 v16 v19 _ 0 e f16 (by rw [f19]; exact he) (by omega) (by omega) (by rw [eB]; rfl) (by omega)
    · obtain ⟨e, he⟩ : ∃ e : Int, fwt p b a - flk p b a - (64 - p : Nat) + 1 = 2 * e := ⟨(fwt p b a - flk p b a - (64 - p : Nat) + 1) / 2, by omega⟩
      have f21 : v21.toBitVec.toNat = fam p b a * 2 ^ flk p b a * 2 ^ (64 - p) / 2 := by rw [e21, Z_ushr (k := 1) rfl (by omega), f16]
      refine L84 v21 (v19 + 1) _ 1 e f21 (by rw [z_add, f19, show (1 : Int32).toInt = 1 from rfl]; omega) (by omega) (by omega) ?_ (by omega)
      rw [eB, show flk p b a + (64 - p) = flk p b a + (64 - p) - 1 + 1 by omega, Nat.pow_succ, ← Nat.mul_assoc, Nat.mul_div_cancel _ (by omega)]
      rfl
  · unfold frt
    have n1 : ¬ (fI_ p b < fmg p b a ∨ fS p b ≤ a) := by
      have := c6.mp e6
      have := c9.mp e9
      omega
    rw [if_neg (c3.mp e3), if_neg n1, if_pos (Classical.byContradiction fun h9 => e12 (c12.mpr h9)), hx]
  · unfold frt
    rw [if_pos (Classical.byContradiction fun h9 => e3 (c3.mpr h9)), hx]
end FLD

-- equality, floating point: the class's quotient, its end
section FLA
variable {h : xb_H} {F p b : Nat} {τ : Int} {x y : Int64} {ax ay : Nat}
theorem fam_p (hb : fpb τ p b) {a : Nat} (ha : fmg p b a ≠ 0) : 0 < fam p b a ∧ fam p b a < 2 ^ p := by
  obtain ⟨q1, q2, q3⟩ := fam_b hb ha
  have pq : 0 < 2 ^ (p - 1) := Nat.pow_pos (by omega)
  have pl : 0 < 2 ^ flk p b a := Nat.pow_pos (by omega)
  have c0 : 0 < fam p b a := Nat.pos_of_ne_zero (fun h9 => by rw [h9, Nat.zero_mul] at q1; omega)
  have c1 : fam p b a * 1 ≤ fam p b a * 2 ^ flk p b a := Nat.mul_le_mul_left _ pl
  exact ⟨c0, by omega⟩
/-- normalized or not, the quotient is one -/
theorem dv_nrm {fx fy lx ly : Nat} {wx wy : Int} (hb : fpb τ p b) (a1 : 2 ^ (p - 1) ≤ fx * 2 ^ lx) (a2 : fx * 2 ^ lx < 2 ^ p) (b1 : 2 ^ (p - 1) ≤ fy * 2 ^ ly) (b2 : fy * 2 ^ ly < 2 ^ p) (hx : 0 < fx) (hy : 0 < fy) (hl : lx ≤ 58 ∧ ly ≤ 58) : rnF p b (dvN (fx * 2 ^ lx) (fy * 2 ^ ly) 59) (wx - lx - (wy - ly) - 60) = rnF p b (dvN fx fy 110) (wx - wy - 111) := by
  have hp : (p = 24 ∧ b = 127) ∨ (p = 53 ∧ b = 1023) := by unfold fpb at hb; omega
  have p53 : 2 ^ p ≤ 2 ^ 53 := Nat.pow_le_pow_right (by omega) (by omega)
  have pp : 2 ^ p = 2 * 2 ^ (p - 1) := by rw [show p = p - 1 + 1 by omega, Nat.pow_succ, Nat.mul_comm]; rfl
  have p2 : 2 ^ (p + 2) ≤ 2 ^ 55 := Nat.pow_le_pow_right (by omega) (by omega)
  have pq : 0 < 2 ^ (p - 1) := Nat.pow_pos (by omega)
  have big1 : 2 ^ (p + 2) ≤ dvN (fx * 2 ^ lx) (fy * 2 ^ ly) 59 := by
    have : 2 ^ 58 ≤ fx * 2 ^ lx * 2 ^ 59 / (fy * 2 ^ ly) := by
      refine (Nat.le_div_iff_mul_le (by omega)).mpr ?_
      have q1 : 2 ^ (p - 1) * 2 ^ 59 ≤ fx * 2 ^ lx * 2 ^ 59 := Nat.mul_le_mul_right _ a1
      have q2 : 2 ^ 58 * (fy * 2 ^ ly) ≤ 2 ^ 58 * 2 ^ p := Nat.mul_le_mul_left _ (by omega)
      have q3 : 2 ^ 58 * 2 ^ p = 2 ^ (p - 1) * 2 ^ 59 := by
        rw [← Nat.pow_add, ← Nat.pow_add, show 58 + p = p - 1 + 59 by omega]
      exact Nat.le_trans q2 (by rw [q3]; exact q1)
    exact Nat.le_trans p2 (Nat.le_trans (show 2 ^ 55 ≤ 2 * 2 ^ 58 by decide) (Nat.le_trans (Nat.mul_le_mul_left 2 this) (Nat.le_add_right _ _)))
  have big2 : 2 ^ (p + 2) ≤ dvN fx fy 110 := by
    have fl : fy < 2 ^ 53 := by
      have : fy * 1 ≤ fy * 2 ^ ly := Nat.mul_le_mul_left _ (Nat.pow_pos (by omega))
      omega
    have : 2 ^ 57 ≤ fx * 2 ^ 110 / fy := by
      refine (Nat.le_div_iff_mul_le hy).mpr ?_
      have q1 : 1 * 2 ^ 110 ≤ fx * 2 ^ 110 := Nat.mul_le_mul_right _ hx
      have q2 : 2 ^ 57 * fy ≤ 2 ^ 57 * 2 ^ 53 := Nat.mul_le_mul_left _ (Nat.le_of_lt fl)
      have q3 : 2 ^ 57 * 2 ^ 53 = 1 * 2 ^ 110 := by rw [Nat.one_mul, ← Nat.pow_add]
      exact Nat.le_trans q2 (by rw [q3]; exact q1)
    exact Nat.le_trans p2 (Nat.le_trans (show 2 ^ 55 ≤ 2 * 2 ^ 57 by decide) (Nat.le_trans (Nat.mul_le_mul_left 2 this) (Nat.le_add_right _ _)))
  obtain ⟨n, hn⟩ : ∃ n : Nat, (n : Int) = 59 + lx - ly := ⟨(59 + (lx : Int) - ly).toNat, by omega⟩
  have eN : dvN (fx * 2 ^ lx) (fy * 2 ^ ly) 59 = dvN fx fy n := by
    rcases Nat.le_total ly lx with h9 | h9
    · obtain ⟨t, rfl⟩ := Nat.exists_eq_add_of_le h9
      rw [Nat.add_comm ly t, Nat.pow_add, ← Nat.mul_assoc, dvN_sc, dvN_sh]
      congr 1
      omega
    · obtain ⟨t, rfl⟩ := Nat.exists_eq_add_of_le h9
      rw [Nat.add_comm lx t, Nat.pow_add, ← Nat.mul_assoc, dvN_sc, show 59 = n + t by omega, ← dvN_sh, dvN_sc]
  rw [eN] at big1 ⊢
  have := rnF_dv (n := n) (m := 110) (w := wx - wy) hb hy big1 big2
  rw [show wx - (lx : Int) - (wy - ly) - 60 = wx - wy - n - 1 by omega, this]
  congr 1
  omega
theorem ex_quotient {Qr : Int64 → xb_H → Prop} (hf : fm h F τ) (hb : fpb τ p b) (hx : x.toBitVec.toNat = ax) (hy : y.toBitVec.toNat = ay) (wx : fW p b ax) (wy : fW p b ay) (hQ : ∀ r : Int64, r.toBitVec.toNat = fdv p b ax ay → Qr r h) : w_Format_quotient F x y h Qr := by
  obtain ⟨b1, b2, b3, b4⟩ := hf.pp hb
  obtain ⟨kk, ek, k1, k2, k3, k4⟩ := hb.w
  have sp : 0 < fS p b := by rw [ek]; exact Nat.pow_pos (by omega)
  have hI : fI_ p b ≠ 0 := by
    rcases hb with ⟨-, rfl, rfl⟩ | ⟨-, rfl, rfl⟩ <;> decide
  have L18 : ∀ y0 : Int32, (fsp p b ax ay = if y0 = 0 then 0 else fS p b) → w_Format_quotient_L18 Qr F x y y0 h := by
    intro y0 hs
    have L52 : (fmg p b ax = fI_ p b ∧ fmg p b ay = fI_ p b) ∨ (fmg p b ax = 0 ∧ fmg p b ay = 0) → w_Format_quotient_L52 Qr F h := fun c1 => by
      unfold w_Format_quotient_L52
      refine ⟨hf.1, hQ _ ?_⟩
      unfold fdv
      rw [if_pos c1, hf.nn hb]
    have L57 : ¬ ((fmg p b ax = fI_ p b ∧ fmg p b ay = fI_ p b) ∨ (fmg p b ax = 0 ∧ fmg p b ay = 0)) → w_Format_quotient_L57 Qr F x y y0 h := fun c1 => by
      have L73 : fmg p b ax = fI_ p b ∨ fmg p b ay = 0 → w_Format_quotient_L73 Qr F y0 h := fun c2 => by
        unfold w_Format_quotient_L73
        refine ⟨hf.1, ex_signed hf hb b3 hs (fun r e _ => hQ _ ?_)⟩
        unfold fdv
        rw [if_neg c1, if_pos c2, e]
      have L100 : ¬ (fmg p b ax = fI_ p b ∨ fmg p b ay = 0) → fmg p b ax = 0 ∨ fmg p b ay = fI_ p b → w_Format_quotient_L100 Qr F y0 h := fun c2 c3 => by
        unfold w_Format_quotient_L100
        refine ⟨hf.1, ex_signed (v := 0) hf hb rfl hs (fun r e _ => hQ _ ?_)⟩
        unfold fdv
        rw [if_neg c1, if_neg c2, if_pos c3, e, Nat.or_zero]
      unfold w_Format_quotient_L57
      refine ⟨hf.1, ex_isInfinite hf hb hx (fun r3 c3 _ => ⟨fun e3 => L73 (.inl (Classical.byContradiction fun h9 => e3 (c3.mpr h9))), fun e3 => ex_isZero hf hb hy (fun r6 c6 _ => ⟨fun e6 => ?_, fun e6 => L73 (.inr (Classical.byContradiction fun h9 => e6 (c6.mpr h9)))⟩)⟩)⟩
      have n2 : ¬ (fmg p b ax = fI_ p b ∨ fmg p b ay = 0) := fun h9 => h9.elim (c3.mp e3) (c6.mp e6)
      refine ex_isZero hf hb hx (fun r9 c9 _ => ⟨fun e9 => L100 n2 (.inl (Classical.byContradiction fun h9 => e9 (c9.mpr h9))), fun e9 => ex_isInfinite hf hb hy (fun r12 c12 _ => ⟨fun e12 => ?_, fun e12 => L100 n2 (.inr (Classical.byContradiction fun h9 => e12 (c12.mpr h9)))⟩)⟩)
      have zx := c9.mp e9
      have zy := c6.mp e6
      have n3 : ¬ (fmg p b ax = 0 ∨ fmg p b ay = fI_ p b) := fun h9 => h9.elim zx (c12.mp e12)
      obtain ⟨a1, a2, a3⟩ := fam_b hb zx
      obtain ⟨d1, d2, d3⟩ := fam_b hb zy
      have px := fam_p hb zx
      have py := fam_p hb zy
      have hp : (p = 24 ∧ b = 127) ∨ (p = 53 ∧ b = 1023) := by unfold fpb at hb; omega
      have lk : ∀ a, fmg p b a ≠ 0 → flk p b a ≤ 58 := fun a ha => by
        unfold flk
        split <;> omega
      have pp : 2 ^ p = 2 * 2 ^ (p - 1) := by rw [show p = p - 1 + 1 by omega, Nat.pow_succ, Nat.mul_comm]; rfl
      have eq : fdv p b ax ay = fsp p b ax ay ||| rnF p b (dvN (fam p b ax) (fam p b ay) 110) (fwt p b ax - fwt p b ay - 111) := by
        unfold fdv
        rw [if_neg c1, if_neg n2, if_neg n3]
      rw [eq] at hQ
      have nrm := dv_nrm (wx := fwt p b ax) (wy := fwt p b ay) hb a1 a2 d1 d2 px.1 py.1 ⟨lk ax zx, lk ay zy⟩
      refine ex_mantissa hf hb hx zx (fun r15 e15 _ => ex_mantissa hf hb hy zy (fun r17 e17 _ => ⟨61, ex_quo_L128 hf hb hx hy zx zy a1 a2 d1 d2 e17 (fun r hr => ?_) 60 0 r15 0 0 _ 0 (by omega) (by omega) rfl e15 rfl (by rw [Nat.pow_zero, Nat.mul_one, Nat.zero_mul, Nat.mul_zero, Nat.zero_add]) (by omega) (fun h9 => absurd rfl h9)⟩))
      obtain ⟨w, w1, w2⟩ := hr
      refine hQ _ ?_
      rw [w2, Z_or, w1, nrm, hs]
      congr 1
      split
      · rfl
      · exact b4
    have L36 : ¬ (fmg p b ax = fI_ p b ∧ fmg p b ay = fI_ p b) → w_Format_quotient_L36 Qr F x y y0 h := fun c1 => by
      unfold w_Format_quotient_L36
      refine ⟨hf.1, ex_isZero hf hb hx (fun r3 c3 _ => ⟨fun e3 => L57 (fun h9 => h9.elim c1 (fun h8 => c3.mp e3 h8.1)), fun e3 => ex_isZero hf hb hy (fun r6 c6 _ => ⟨fun e6 => L57 (fun h9 => h9.elim c1 (fun h8 => c6.mp e6 h8.2)), fun e6 => L52 (.inr ⟨Classical.byContradiction fun h9 => e3 (c3.mpr h9), Classical.byContradiction fun h9 => e6 (c6.mpr h9)⟩)⟩)⟩)⟩
    unfold w_Format_quotient_L18
    refine ⟨hf.1, ex_isInfinite hf hb hx (fun r3 c3 _ => ⟨fun e3 => L36 (fun h9 => c3.mp e3 h9.1), fun e3 => ex_isInfinite hf hb hy (fun r6 c6 _ => ⟨fun e6 => L52 (.inl ⟨Classical.byContradiction fun h9 => e3 (c3.mpr h9), Classical.byContradiction fun h9 => e6 (c6.mpr h9)⟩), fun e6 => L36 (fun h9 => c6.mp e6 h9.2)⟩)⟩)⟩
  unfold w_Format_quotient
  refine ⟨hf.1, ex_isNeg hf hb hx wx (fun r3 z3 c3 _ => ex_isNeg hf hb hy wy (fun r5 z5 c5 _ => ⟨fun e => L18 0 ?_, fun e => L18 1 ?_⟩))⟩
  · rw [if_pos rfl]
    unfold fsp fsg
    rw [if_pos]
    by_cases h9 : ax < fS p b
    · rw [if_pos h9, if_pos (c5.mp (by rw [← e]; exact c3.mpr h9))]
    · rw [if_neg h9, if_neg (fun h8 => h9 (c3.mp (by rw [e]; exact c5.mpr h8)))]
  · rw [if_neg (by decide)]
    unfold fsp fsg
    rw [if_neg]
    by_cases h9 : ax < fS p b
    · have := c3.mpr h9
      rw [if_pos h9, if_neg (fun h8 => e (by rw [this, c5.mpr h8]))]
      omega
    · have q3 : r3 = 1 := z3.resolve_left (fun h8 => h9 (c3.mp h8))
      rw [if_neg h9, if_pos (c5.mp (z5.resolve_right (fun h8 => e (by rw [q3, h8]))))]
      omega
end FLA

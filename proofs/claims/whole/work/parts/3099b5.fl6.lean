-- equality, floating point: the class's sum
def fsg (p b a : Nat) : Nat := if a < fS p b then 0 else fS p b
def fnn (p b : Nat) : Nat := fI_ p b + 2 ^ (p - 2)
/-- the sum of two finite numbers that are not 0 -/
def faF (p b x y : Nat) : Nat :=
  if fsg p b x = fsg p b y then fsg p b x ||| rnF p b (fam p b x * 2 ^ (fwt p b x - min (fwt p b x) (fwt p b y)).toNat + fam p b y * 2 ^ (fwt p b y - min (fwt p b x) (fwt p b y)).toNat) (min (fwt p b x) (fwt p b y))
  else if fam p b x * 2 ^ (fwt p b x - min (fwt p b x) (fwt p b y)).toNat = fam p b y * 2 ^ (fwt p b y - min (fwt p b x) (fwt p b y)).toNat then 0
  else if fam p b y * 2 ^ (fwt p b y - min (fwt p b x) (fwt p b y)).toNat < fam p b x * 2 ^ (fwt p b x - min (fwt p b x) (fwt p b y)).toNat then fsg p b x ||| rnF p b (fam p b x * 2 ^ (fwt p b x - min (fwt p b x) (fwt p b y)).toNat - fam p b y * 2 ^ (fwt p b y - min (fwt p b x) (fwt p b y)).toNat) (min (fwt p b x) (fwt p b y))
  else fsg p b y ||| rnF p b (fam p b y * 2 ^ (fwt p b y - min (fwt p b x) (fwt p b y)).toNat - fam p b x * 2 ^ (fwt p b x - min (fwt p b x) (fwt p b y)).toNat) (min (fwt p b x) (fwt p b y))
def fad (p b x y : Nat) : Nat :=
  if fmg p b x = fI_ p b then (if fmg p b y = fI_ p b ∧ x ≠ y then fnn p b else x) else if fmg p b y = fI_ p b then y
  else if fmg p b x = 0 then (if fmg p b y = 0 then x &&& y else y) else if fmg p b y = 0 then x else faF p b x y
section FL6
variable {h : xb_H} {F p b : Nat} {τ : Int} {x y : Int64} {ax ay : Nat}
/-- numbers of p bits and their places, over the less of both weights -/
theorem sum_two {up fx fy lx ly j : Nat} {wx wy : Int} (hb : fpb τ p b) (hup : up = 62 - p) (a1 : 2 ^ (p - 1) ≤ fx * 2 ^ lx) (a2 : fx * 2 ^ lx < 2 ^ p) (b1 : 2 ^ (p - 1) ≤ fy * 2 ^ ly) (b2 : fy * 2 ^ ly < 2 ^ p) (hj : (j : Int) = wx - lx - (wy - ly)) :
    rnF p b (fx * 2 ^ lx * 2 ^ up + stk (fy * 2 ^ ly * 2 ^ up) j) (wx - lx - up) = rnF p b (fx * 2 ^ (wx - min wx wy).toNat + fy * 2 ^ (wy - min wx wy).toNat) (min wx wy) ∧
    (fy * 2 ^ (wy - min wx wy).toNat < fx * 2 ^ (wx - min wx wy).toNat → stk (fy * 2 ^ ly * 2 ^ up) j < fx * 2 ^ lx * 2 ^ up ∧ rnF p b (fx * 2 ^ lx * 2 ^ up - stk (fy * 2 ^ ly * 2 ^ up) j) (wx - lx - up) = rnF p b (fx * 2 ^ (wx - min wx wy).toNat - fy * 2 ^ (wy - min wx wy).toNat) (min wx wy)) ∧
    (fx * 2 ^ (wx - min wx wy).toNat = fy * 2 ^ (wy - min wx wy).toNat → fx * 2 ^ lx * 2 ^ up = stk (fy * 2 ^ ly * 2 ^ up) j) ∧
    (fx * 2 ^ (wx - min wx wy).toNat < fy * 2 ^ (wy - min wx wy).toNat → fx * 2 ^ lx * 2 ^ up < stk (fy * 2 ^ ly * 2 ^ up) j ∧ rnF p b (stk (fy * 2 ^ ly * 2 ^ up) j - fx * 2 ^ lx * 2 ^ up) (wx - lx - up) = rnF p b (fy * 2 ^ (wy - min wx wy).toNat - fx * 2 ^ (wx - min wx wy).toNat) (min wx wy)) ∧ 0 < stk (fy * 2 ^ ly * 2 ^ up) j ∧ stk (fy * 2 ^ ly * 2 ^ up) j < 4611686018427387904 := by
  obtain ⟨c1, c2, c3, c4, c5⟩ := sum_core (j := j) (e := wy - ly - up) hb hup a1 a2 b1 b2
  obtain ⟨i, hi⟩ : ∃ i : Nat, (i : Int) = min wx wy - (wy - ly - up) := ⟨(min wx wy - (wy - ly - up)).toNat, by omega⟩
  have ea : wy - (ly : Int) - up + j = wx - lx - up := by omega
  have ek : min wx wy - (i : Int) = wy - ly - up := by omega
  have hp : 0 < 2 ^ i := Nat.pow_pos (by omega)
  have fx0 : 0 < fx := by
    rcases Nat.eq_zero_or_pos fx with h9 | h9
    · rw [h9, Nat.zero_mul] at a1
      have : 0 < 2 ^ (p - 1) := Nat.pow_pos (by omega)
      omega
    · exact h9
  have eA : fx * 2 ^ lx * 2 ^ up * 2 ^ j = fx * 2 ^ (wx - min wx wy).toNat * 2 ^ i := by
    rw [Nat.mul_assoc, Nat.mul_assoc, Nat.mul_assoc, ← Nat.pow_add, ← Nat.pow_add, ← Nat.pow_add]
    congr 2
    omega
  have eB : fy * 2 ^ ly * 2 ^ up = fy * 2 ^ (wy - min wx wy).toNat * 2 ^ i := by
    rw [Nat.mul_assoc, Nat.mul_assoc, ← Nat.pow_add, ← Nat.pow_add]
    congr 2
    omega
  have pA : 0 < fx * 2 ^ (wx - min wx wy).toNat := Nat.mul_pos fx0 (Nat.pow_pos (by omega))
  rw [ea] at c1 c2
  have z0 : j = 0 → fx * 2 ^ lx * 2 ^ up = fx * 2 ^ (wx - min wx wy).toNat * 2 ^ i := fun e => by
    rw [e, Nat.pow_zero, Nat.mul_one] at eA
    exact eA
  generalize fx * 2 ^ (wx - min wx wy).toNat = A at *
  generalize fy * 2 ^ (wy - min wx wy).toNat = B at *
  rw [eA] at c1 c2 c3
  refine ⟨?_, fun hlt => ?_, fun he => ?_, fun hlt => ?_, c4, c5⟩
  · rw [c1, eB, ← Nat.add_mul, ← ek, rnF_sc (by omega)]
  · obtain ⟨d1, d2⟩ := c2 (by rw [eB]; exact Nat.mul_lt_mul_of_pos_right hlt hp)
    refine ⟨d1, ?_⟩
    rw [d2, eB, ← Nat.sub_mul, ← ek, rnF_sc (by omega)]
  · have j0 := c3 (by rw [eB, he]; exact Nat.le_refl _)
    rw [z0 j0, j0, stk_0, eB, he]
  · have j0 := c3 (by rw [eB]; exact Nat.mul_le_mul_right _ (Nat.le_of_lt hlt))
    rw [z0 j0, j0, stk_0, eB]
    refine ⟨Nat.mul_lt_mul_of_pos_right hlt hp, ?_⟩
    rw [← Nat.sub_mul, show wx - (lx : Int) - up = min wx wy - i by omega, rnF_sc (by omega)]
theorem fm.nn (hf : fm h F τ) (hb : fpb τ p b) : (xb_l h F 4).toBitVec.toNat = fnn p b := by
  rcases hf.2 with ⟨e, e0, e1, e2, e3, e4⟩ | ⟨e, e0, e1, e2, e3, e4⟩
  · obtain ⟨rfl, rfl⟩ : p = 24 ∧ b = 127 := by unfold fpb at hb; omega
    rw [e4]
    decide
  · obtain ⟨rfl, rfl⟩ : p = 53 ∧ b = 1023 := by unfold fpb at hb; omega
    rw [e4]
    decide
theorem ex_lowered {x2 : Int32} {N j : Nat} {Qr : Int64 → xb_H → Prop} (hx : x.toBitVec.toNat = N) (h0 : 0 < N) (hN : N < 4611686018427387904) (hj : x2.toInt = j) (hQ : ∀ r : Int64, r.toBitVec.toNat = stk N j → Qr r h) : w_Format_lowered x x2 h Qr := by
  unfold w_Format_lowered w_Format_lowered_L30
  rw [z_le, hj, show (62 : Int32).toInt = 62 from rfl]
  refine ⟨fun h9 v2 e2 => ?_, fun h9 => hQ 1 ?_⟩
  · have gp : 0 < 2 ^ j := Nat.pow_pos (by omega)
    have gb : 2 ^ j ≤ 2 ^ 62 := Nat.pow_le_pow_right (by omega) (by omega)
    have gs : (xb_lshl 1 x2).toBitVec.toNat = 2 ^ j := by
      rw [Z_shl hj (by omega), show (1 : Int64).toBitVec.toNat = 1 from rfl, Nat.one_mul, Nat.mod_eq_of_lt (by omega)]
    have gm : (xb_lshl 1 x2 - 1).toBitVec.toNat = 2 ^ j - 1 := by rw [Z_subN _ _ (by rw [gs]; exact gp), gs]; rfl
    have g2 : v2.toBitVec.toNat = N % 2 ^ j := by rw [e2, Z_and_mod _ j gm, hx]
    have g3 : (xb_lushr x x2).toBitVec.toNat = N / 2 ^ j := by rw [Z_ushr hj (by omega), hx]
    rw [Z_eqN, g2, show (0 : Int64).toBitVec.toNat = 0 from rfl]
    refine ⟨fun e => hQ _ ?_, fun e => hQ _ ?_⟩
    · rw [Z_or, g3, show (Int32.toInt64 0).toBitVec.toNat = 0 from rfl, Nat.or_zero, stk_dm.2.1 e]
    · rw [Z_or, g3, show (Int32.toInt64 1).toBitVec.toNat = 1 from rfl]
      unfold stk
      rw [if_neg e]
      have e1 := Nat.div_add_mod (N / 2 ^ j) 2
      have e3 := Nat.mod_lt (N / 2 ^ j) (show 0 < 2 by omega)
      generalize N / 2 ^ j = q at *
      have g := Nat.two_pow_add_eq_or_of_lt (b := 1) (i := 1) (by omega) (q / 2)
      rw [Nat.pow_one] at g
      have h5 : q / 2 * 2 + 1 = 2 * (q / 2) ||| 1 := by rw [← g]; omega
      rw [h5]
      rcases (show q % 2 = 0 ∨ q % 2 = 1 by omega) with h6 | h6
      · rw [show q = 2 * (q / 2) by omega]
        congr 1
        omega
      · have : q = 2 * (q / 2) ||| 1 := by rw [← g]; omega
        rw [this, Nat.or_assoc, Nat.or_self, ← this]
        exact this
  · have : 2 ^ 63 ≤ 2 ^ j := Nat.pow_le_pow_right (by omega) (by omega)
    have h5 : N / 2 ^ j = 0 := Nat.div_eq_of_lt (by omega)
    unfold stk
    rw [h5, Nat.mod_eq_of_lt (by omega), if_neg (by omega)]
    rfl
theorem ex_sumOfBounds {Qr : Int64 → xb_H → Prop} (hf : fm h F τ) (hb : fpb τ p b) (hx : x.toBitVec.toNat = ax) (hy : y.toBitVec.toNat = ay) (hs : fmg p b ax = fI_ p b ∨ fmg p b ay = fI_ p b ∨ fmg p b ax = 0 ∨ fmg p b ay = 0) (hQ : ∀ r : Int64, r.toBitVec.toNat = fad p b ax ay → Qr r h) : w_Format_sumOfBounds F x y h Qr := by
  have hI : 0 < fI_ p b := by
    rcases hb with ⟨-, rfl, rfl⟩ | ⟨-, rfl, rfl⟩ <;> decide
  unfold w_Format_sumOfBounds w_Format_sumOfBounds_L64 w_Format_sumOfBounds_L29 w_Format_sumOfBounds_L30
  refine ⟨hf.1, ex_isInfinite hf hb hx (fun r3 c3 _ => ⟨fun e3 => ex_isInfinite hf hb hy (fun r6 c6 _ => ⟨fun e6 => ex_isZero hf hb hx (fun r9 c9 _ => ⟨fun e9 => hQ _ ?_, fun e9 => ex_isZero hf hb hy (fun r12 c12 _ => ⟨fun e12 => hQ _ ?_, fun e12 => hQ _ ?_⟩)⟩), fun e6 => hQ _ ?_⟩), fun e3 => ex_isInfinite hf hb hy (fun r15 c15 _ => ⟨fun e15 => hQ _ ?_, fun e15 => ⟨fun e => hQ _ ?_, fun e => hQ _ ?_⟩⟩)⟩)⟩
  · have a3 := c3.mp e3
    have a6 := c6.mp e6
    have a9 := c9.mp e9
    unfold fad
    rw [if_neg a3, if_neg a6, if_neg a9, if_pos (by omega), hx]
  · have a3 := c3.mp e3
    have a6 := c6.mp e6
    have a9 : fmg p b ax = 0 := Classical.byContradiction fun h9 => e9 (c9.mpr h9)
    have a12 := c12.mp e12
    unfold fad
    rw [if_neg a3, if_neg a6, if_pos a9, if_neg a12, hy]
  · have a3 := c3.mp e3
    have a6 := c6.mp e6
    have a9 : fmg p b ax = 0 := Classical.byContradiction fun h9 => e9 (c9.mpr h9)
    have a12 : fmg p b ay = 0 := Classical.byContradiction fun h9 => e12 (c12.mpr h9)
    unfold fad
    rw [if_neg a3, if_neg a6, if_pos a9, if_pos a12, Z_and, hx, hy]
  · have a3 := c3.mp e3
    have a6 : fmg p b ay = fI_ p b := Classical.byContradiction fun h9 => e6 (c6.mpr h9)
    unfold fad
    rw [if_neg a3, if_pos a6, hy]
  · have a3 : fmg p b ax = fI_ p b := Classical.byContradiction fun h9 => e3 (c3.mpr h9)
    have a6 := c15.mp e15
    unfold fad
    rw [if_pos a3, if_neg (fun h9 => a6 h9.1), hx]
  · have a3 : fmg p b ax = fI_ p b := Classical.byContradiction fun h9 => e3 (c3.mpr h9)
    unfold fad
    rw [if_pos a3, if_neg (fun h9 => h9.2 (by rw [← hx, ← hy, e])), hx]
  · have a3 : fmg p b ax = fI_ p b := Classical.byContradiction fun h9 => e3 (c3.mpr h9)
    have a6 : fmg p b ay = fI_ p b := Classical.byContradiction fun h9 => e15 (c15.mpr h9)
    unfold fad
    rw [if_pos a3, if_pos ⟨a6, fun h9 => e (by rw [Z_eqN, hx, hy, h9])⟩, hf.nn hb]
end FL6

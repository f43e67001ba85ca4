-- equality, long whole numbers: the class reckons
theorem qn_a {a b q r : Nat} (hb : 0 < b) (h1 : a = b * (2 * q) + r) (h2 : r < 2 * b) : a / b = if r < b then 2 * q else 2 * q + 1 := by
  rw [h1, Nat.mul_add_div hb]
  split
  · rename_i h9
    rw [Nat.div_eq_of_lt h9, Nat.add_zero]
  · rename_i h9
    have : r / b = 1 := by rw [show r = b * 1 + (r - b) by omega, Nat.mul_add_div hb, Nat.div_eq_of_lt (by omega)]
    rw [this]
theorem qn_b {a b : Nat} (hb : 0 < b) : ∃ r, a = b * (2 * (a / 2 / b)) + r ∧ r < 2 * b := by
  have e1 := Nat.div_add_mod (a / 2) b
  have e2 := Nat.mod_lt (a / 2) hb
  have e3 := Nat.div_add_mod a 2
  have e4 := Nat.mod_lt a (show 0 < 2 by decide)
  refine ⟨2 * (a / 2 % b) + a % 2, ?_, by omega⟩
  rw [Nat.mul_left_comm]
  generalize b * (a / 2 / b) = z at *
  omega
section INT4
variable {h : xb_H}
theorem ex_wquotient {x y : Int64} {a b : Nat} {Qr : Int64 → xb_H → Prop} (hx : x.toBitVec.toNat = a) (hy : y.toBitVec.toNat = b) (hb : b ≠ 0) (hQ : ∀ r : Int64, r.toBitVec.toNat = a / b → Qr r h) : w_Whole_quotient x y h Qr := by
  have la : a < 18446744073709551616 := by rw [← hx]; exact x.toBitVec.isLt
  have lb : b < 18446744073709551616 := by rw [← hy]; exact y.toBitVec.isLt
  have y0 : ¬ y = 0 := fun h9 => hb (by rw [← hy, h9]; rfl)
  have c1 := Z_nat x
  have c2 := Z_rg x
  have c3 := Z_nat y
  have c4 := Z_rg y
  rw [hx] at c1
  rw [hy] at c3
  have p1 : 0 < y ↔ b < 9223372036854775808 := by
    rw [Z_lt, show (0 : Int64).toInt = 0 from rfl]
    omega
  have p2 : x < 0 ↔ ¬ a < 9223372036854775808 := by
    rw [Z_lt, show (0 : Int64).toInt = 0 from rfl]
    omega
  have p3 : 0 ≤ x ↔ a < 9223372036854775808 := by
    rw [Z_le, show (0 : Int64).toInt = 0 from rfl]
    omega
  unfold w_Whole_quotient w_Whole_quotient_L22 w_Whole_quotient_L23 w_Whole_quotient_L65 w_Whole_quotient_L74
  rw [p1, p2, p3]
  refine ⟨fun e => ⟨fun e1 => ⟨y0, fun v4 e4 v5 e5 => ?_⟩, fun e1 => ⟨y0, hQ _ (dvN64 hx hy (by omega) e)⟩⟩, fun e => ⟨fun e1 => hQ _ ?_, fun e1 => ⟨fun e2 => hQ _ ?_, fun e2 => hQ _ ?_⟩⟩⟩
  · have bp : 0 < b := Nat.pos_of_ne_zero hb
    obtain ⟨r, r1, r2⟩ := qn_b (a := a) bp
    have dl := Nat.div_le_self (a / 2) b
    have n0 : ((xb_lushr x 1) / y).toBitVec.toNat = a / 2 / b := dvN64 (by rw [Z_even, hx]) hy (by omega) e
    have n4 : v4.toBitVec.toNat = 2 * (a / 2 / b) := by
      rw [e4, Z_shl (k := 1) rfl (by decide), n0]
      generalize a / 2 / b = q at *
      omega
    have n6 : (v4 * y).toBitVec.toNat = b * (2 * (a / 2 / b)) := by
      rw [Z_mulN, n4, hy, Nat.mul_comm (2 * (a / 2 / b)) b]
      exact Nat.mod_eq_of_lt (by omega)
    have n5 : v5.toBitVec.toNat = r := by
      rw [e5, Z_subN _ _ (by rw [n6, hx]; omega), n6, hx]
      omega
    have q := qn_a bp r1 r2
    have d1 := Z_nat v5
    have d2 := Z_rg v5
    rw [n5] at d1
    have n7 : (v4 + 1).toBitVec.toNat = 2 * (a / 2 / b) + 1 := by
      rw [Z_addN, n4, show (1 : Int64).toBitVec.toNat = 1 from rfl]
      generalize a / 2 / b = q at *
      omega
    have p5 : v5 < 0 ↔ 9223372036854775808 ≤ r := by
      rw [Z_lt, show (0 : Int64).toInt = 0 from rfl]
      omega
    rw [p5]
    refine ⟨fun g => hQ _ ?_, fun g => ?_⟩
    · rw [n7, q, if_neg (by omega)]
    · have p6 : v5 < y ↔ r < b := by
        rw [Z_lt]
        omega
      rw [p6]
      refine ⟨fun g1 => hQ _ ?_, fun g1 => hQ _ ?_⟩
      · rw [n4, q, if_pos g1]
      · rw [n7, q, if_neg g1]
  · rw [Nat.div_eq_of_lt (by omega)]
    rfl
  · rw [Z_lt] at e2
    rw [Nat.div_eq_of_lt (by omega)]
    rfl
  · rw [Z_lt] at e2
    rw [show a = b * 1 + (a - b) by omega, Nat.mul_add_div (by omega), Nat.div_eq_of_lt (by omega)]
    rfl
theorem ex_divideLong {x0 : Int32} {x y : Int64} {k a b : Nat} {Qr : Int64 → xb_H → Prop} (h0 : x0.toInt = k) (k3 : 3 ≤ k) (k6 : k ≤ 6) (hx : x.toBitVec.toNat = a) (hy : y.toBitVec.toNat = b) (hb : b ≠ 0) (hQ : ∀ r : Int64, r.toBitVec.toNat = iop 64 k a b → Qr r h) : w_Whole_divideLong x0 x y h Qr := by
  have c : ∀ (z : Int32) (j : Nat), z.toInt = j → (x0 = z ↔ k = j) := fun z j e => by rw [z_eq, h0, e]; omega
  have y0 : ¬ y = 0 := fun h9 => hb (by rw [← hy, h9]; rfl)
  have la : a < 18446744073709551616 := by rw [← hx]; exact x.toBitVec.isLt
  unfold w_Whole_divideLong
  rw [c 3 3 rfl, c 4 4 rfl, c 5 5 rfl]
  refine ⟨fun e => ⟨y0, hQ _ ?_⟩, fun e => ex_wquotient hx hy hb (fun r hr _ => hQ _ ?_), fun e => ⟨y0, hQ _ ?_⟩, fun e3 e4 e5 => ex_wquotient hx hy hb (fun r hr _ => hQ _ ?_)⟩
  · subst e
    rw [N64 (dv64 x y), sg64, sg64, hx, hy]
    rfl
  · subst e
    exact hr
  · subst e
    rw [rm64, sg64, sg64, hx, hy]
    rfl
  · have e : k = 6 := by omega
    subst e
    have e1 := Nat.div_add_mod a b
    have n6 : (r * y).toBitVec.toNat = b * (a / b) := by
      rw [Z_mulN, hr, hy, Nat.mul_comm (a / b) b]
      exact Nat.mod_eq_of_lt (by omega)
    rw [Z_subN _ _ (by rw [n6, hx]; omega), n6, hx]
    show _ = a % b
    omega
theorem ex_reckonLong {x0 : Int32} {x y : Int64} {k a b : Nat} {Qr : Int64 → xb_H → Prop} (h0 : x0.toInt = k) (hk : k ≤ 14) (hx : x.toBitVec.toNat = a) (hy : y.toBitVec.toNat = b) (hQ : ∀ r : Int64, (¬ (3 ≤ k ∧ k ≤ 6 ∧ b = 0) → r.toBitVec.toNat = iop 64 k a b) → Qr r h) : w_Whole_reckonLong x0 x y h Qr := by
  have la : a < 18446744073709551616 := by rw [← hx]; exact x.toBitVec.isLt
  have lb : b < 18446744073709551616 := by rw [← hy]; exact y.toBitVec.isLt
  have L : 3 ≤ k → k ≤ 6 → w_Whole_reckonLong_L84 Qr x0 x y h := by
    intro k3 k6
    unfold w_Whole_reckonLong_L84 w_Whole_reckonLong_L100
    refine ⟨fun e => ex_divideLong h0 k3 k6 hx hy (fun h9 => e ?_) (fun r hr _ => hQ _ (fun _ => hr)), fun e => hQ _ (fun h9 => absurd ⟨k3, k6, ?_⟩ h9)⟩
    · rw [Z_eq, sg64, hy, h9]
      rfl
    · rw [← hy, e]
      rfl
  have m0 : (Int64.toInt32 y).toInt % 64 = (b % 64 : Nat) := by
    rw [z_of64]
    have c1 := Z_nat y
    omega
  have m1 : (Int64.toInt32 (-y)).toInt % 64 = ((64 - b % 64) % 64 : Nat) := by
    have e1 : (-y).toBitVec.toNat = (18446744073709551616 - b) % 18446744073709551616 := by
      rw [show -y = 0 - y from (Int64.zero_sub y).symm, Z_subG, hy, show (0 : Int64).toBitVec.toNat = 0 from rfl, Nat.add_zero]
    rw [z_of64]
    have c1 := Z_nat (-y)
    rw [e1] at c1
    omega
  have c : ∀ (z : Int32) (j : Nat), z.toInt = j → (x0 = z ↔ k = j) := fun z j e => by rw [z_eq, h0, e]; omega
  unfold w_Whole_reckonLong
  rw [c 0 0 rfl, c 1 1 rfl, c 2 2 rfl, c 3 3 rfl, c 4 4 rfl, c 5 5 rfl, c 6 6 rfl, c 7 7 rfl, c 8 8 rfl, c 9 9 rfl, c 10 10 rfl, c 11 11 rfl, c 12 12 rfl, c 13 13 rfl]
  refine ⟨fun e => hQ _ (fun _ => ?_), fun e => hQ _ (fun _ => ?_), fun e => hQ _ (fun _ => ?_), fun e => L (by omega) (by omega), fun e => L (by omega) (by omega), fun e => L (by omega) (by omega), fun e => L (by omega) (by omega), fun e => hQ _ (fun _ => ?_), fun e => hQ _ (fun _ => ?_), fun e => hQ _ (fun _ => ?_), fun e => hQ _ (fun _ => ?_), fun e => hQ _ (fun _ => ?_), fun e => hQ _ (fun _ => ?_), fun e => hQ _ (fun _ => ?_), fun g0 g1 g2 g3 g4 g5 g6 g7 g8 g9 ga gb gc gd => hQ _ (fun _ => ?_)⟩
  · subst e
    rw [Z_addN, hx, hy]
    rfl
  · subst e
    rw [Z_subG, hx, hy]
    rfl
  · subst e
    rw [Z_mulN, hx, hy]
    rfl
  · subst e
    rw [Z_and, hx, hy]
    rfl
  · subst e
    rw [Z_or, hx, hy]
    rfl
  · subst e
    rw [Z_xor, hx, hy]
    rfl
  · subst e
    rw [Z_shlG m0, hx]
    rfl
  · subst e
    have e1 := Z_sarG (x := x) m0
    have c1 := Z_nat (xb_lshr x (Int64.toInt32 y))
    rw [e1, sg64, hx] at c1
    show _ = (sgn 64 a / (2 ^ (b % 64) : Nat) % (18446744073709551616 : Nat)).toNat
    omega
  · subst e
    rw [Z_ushrG m0, hx]
    rfl
  · subst e
    rw [Z_or, Z_shlG m0, Z_ushrG m1, hx]
    rfl
  · have e : k = 14 := by omega
    subst e
    rw [Z_or, Z_ushrG m0, Z_shlG m1, hx]
    rfl
theorem z_b01 {r : Int32} {P : Prop} (h1 : r = 0 ∨ r = 1) (h2 : r = 1 ↔ P) : r = 0 ↔ ¬ P := by
  rw [← h2]
  rcases h1 with h9 | h9
  · rw [h9]
    exact ⟨fun _ => by decide, fun _ => rfl⟩
  · rw [h9]
    exact ⟨fun e => absurd e (by decide), fun e => absurd rfl e⟩
theorem Z_flip {x : Int64} {a : Nat} (hx : x.toBitVec.toNat = a) : (x ^^^ (-9223372036854775808)).toInt = (a : Int) - 9223372036854775808 := by
  have la : a < 18446744073709551616 := by rw [← hx]; exact x.toBitVec.isLt
  have e1 : (x ^^^ (-9223372036854775808)).toBitVec.toNat = a ^^^ 2 ^ 63 := by rw [Z_xor, hx]; rfl
  have e2 : (a ^^^ 2 ^ 63) / 2 ^ 63 = (a / 2 ^ 63) ^^^ 1 := by rw [Nat.xor_div_two_pow]
  have e3 : (a ^^^ 2 ^ 63) % 2 ^ 63 = a % 2 ^ 63 := by rw [Nat.xor_mod_two_pow, Nat.mod_self, Nat.xor_zero]
  have c1 := Z_nat (x ^^^ (-9223372036854775808))
  have c2 := Z_rg (x ^^^ (-9223372036854775808))
  rw [e1] at c1
  generalize a ^^^ 2 ^ 63 = m at *
  have p : (2 : Nat) ^ 63 = 9223372036854775808 := by decide
  rw [p] at e2 e3
  rcases (show a / 9223372036854775808 = 0 ∨ a / 9223372036854775808 = 1 by omega) with h9 | h9
  · rw [h9] at e2
    have : (0 ^^^ 1 : Nat) = 1 := by decide
    omega
  · rw [h9] at e2
    have : (1 ^^^ 1 : Nat) = 0 := by decide
    omega
theorem ex_isBelow {x y : Int64} {a b : Nat} {Qr : Int32 → xb_H → Prop} (hx : x.toBitVec.toNat = a) (hy : y.toBitVec.toNat = b) (hQ : ∀ r : Int32, r = 0 ∨ r = 1 → (r = 1 ↔ a < b) → Qr r h) : w_Whole_isBelow x y h Qr := by
  unfold w_Whole_isBelow w_Whole_isBelow_L19
  rw [Z_le, Z_flip hx, Z_flip hy]
  refine ⟨fun e => ⟨.inl rfl, hQ _ (.inl rfl) ⟨fun h9 => absurd h9 (by decide), fun _ => by omega⟩⟩, fun e => ⟨.inr rfl, hQ _ (.inr rfl) ⟨fun _ => by omega, fun _ => rfl⟩⟩⟩
theorem ex_wholeHolds {x0 : Int32} {x y : Int64} {k a b : Nat} {Qr : Int32 → xb_H → Prop} (h0 : x0.toInt = k) (hk : k ≤ 9) (hx : x.toBitVec.toNat = a) (hy : y.toBitVec.toNat = b) (hQ : ∀ r : Int32, r = 0 ∨ r = 1 → (r = 1 ↔ icm 64 k a b) → Qr r h) : w_Whole_holds x0 x y h Qr := by
  have c : ∀ (z : Int32) (j : Nat), z.toInt = j → (x0 = z ↔ k = j) := fun z j e => by rw [z_eq, h0, e]; omega
  have n0 : ∀ P : Prop, ¬ P → ((0 : Int32) = 1 ↔ P) := fun P hP => ⟨fun h9 => absurd h9 (by decide), fun h9 => absurd h9 hP⟩
  have n1 : ∀ P : Prop, P → ((1 : Int32) = 1 ↔ P) := fun P hP => ⟨fun _ => hP, fun _ => rfl⟩
  have q0 : ¬ icm 64 k a b → ((0 : Int32) = 0 ∨ (0 : Int32) = 1) ∧ Qr 0 h := fun hP => ⟨.inl rfl, hQ 0 (.inl rfl) (n0 _ hP)⟩
  have q1 : icm 64 k a b → ((1 : Int32) = 0 ∨ (1 : Int32) = 1) ∧ Qr 1 h := fun hP => ⟨.inr rfl, hQ 1 (.inr rfl) (n1 _ hP)⟩
  have t : x = y ↔ a = b := by rw [Z_eqN, hx, hy]
  unfold w_Whole_holds w_Whole_holds_L63 w_Whole_holds_L75 w_Whole_holds_L87 w_Whole_holds_L105 w_Whole_holds_L123 w_Whole_holds_L137 w_Whole_holds_L149 w_Whole_holds_L163
  rw [c 0 0 rfl, c 1 1 rfl, c 2 2 rfl, c 3 3 rfl, c 4 4 rfl, c 5 5 rfl, c 6 6 rfl, c 7 7 rfl, c 8 8 rfl, t, Z_le, Z_le, Z_lt, Z_lt, sg64, sg64, hx, hy]
  refine ⟨fun e => ⟨fun g => q0 ?_, fun g => q1 ?_⟩, fun e => ⟨fun g => q0 ?_, fun g => q1 ?_⟩, fun e => ⟨fun g => q0 ?_, fun g => q1 ?_⟩, fun e => ex_isBelow hx hy (fun r g1 g2 _ => ⟨g1, hQ r g1 (g2.trans ?_)⟩), fun e => ⟨fun g => q0 ?_, fun g => q1 ?_⟩, fun e => ex_isBelow hy hx (fun r g1 g2 _ => ⟨g1, hQ r g1 (g2.trans ?_)⟩), fun e => ⟨fun g => q0 ?_, fun g => q1 ?_⟩, fun e => ex_isBelow hy hx (fun r g1 g2 _ => ⟨fun g => q0 ?_, fun g => q1 ?_⟩), fun e => ⟨fun g => q0 ?_, fun g => q1 ?_⟩, fun j0 j1 j2 j3 j4 j5 j6 j7 j8 => ex_isBelow hx hy (fun r g1 g2 _ => ⟨fun g => q0 ?_, fun g => q1 ?_⟩)⟩
  · unfold icm; omega
  · unfold icm; omega
  · unfold icm; omega
  · unfold icm; omega
  · unfold icm; omega
  · unfold icm; omega
  · unfold icm; omega
  · unfold icm; omega
  · unfold icm; omega
  · unfold icm; omega
  · unfold icm; omega
  · unfold icm; omega
  · rw [z_b01 g1 g2] at g
    unfold icm; omega
  · rw [z_b01 g1 g2] at g
    unfold icm; omega
  · unfold icm; omega
  · unfold icm; omega
  · rw [z_b01 g1 g2] at g
    unfold icm; omega
  · rw [z_b01 g1 g2] at g
    unfold icm; omega
end INT4

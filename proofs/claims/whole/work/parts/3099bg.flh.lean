-- floating point: the class's conversions
/-- the whole part, without the sign -/
def fwp (p b a : Nat) : Nat := if 0 ≤ fwt p b a then fam p b a * 2 ^ (fwt p b a).toNat else fam p b a / 2 ^ (-(fwt p b a)).toNat
/-- whether the whole part is a number of w bits -/
def fok (p b a w : Nat) (s : Prop) : Prop := (s ∧ a < fS p b ∧ fwp p b a < 2 ^ (w - 1)) ∨ (s ∧ ¬ a < fS p b ∧ fwp p b a ≤ 2 ^ (w - 1)) ∨ (¬ s ∧ a < fS p b ∧ fwp p b a < 2 ^ w) ∨ (¬ s ∧ ¬ a < fS p b ∧ fwp p b a = 0)
def fow (p b : Nat) (ng : Prop) [Decidable ng] (n : Nat) : Nat := if n = 0 then 0 else (if ng then fS p b else 0) ||| rnF p b n 0
def fcv (p b p2 b2 a : Nat) : Nat :=
  if fI_ p b < fmg p b a then fnn p2 b2 else (if a < fS p b then 0 else fS p2 b2) ||| (if fmg p b a = fI_ p b then fI_ p2 b2 else if fmg p b a = 0 then 0 else rnF p2 b2 (fam p b a) (fwt p b a))
section FLH
variable {h : xb_H} {F p b : Nat} {τ : Int} {x y : Int64} {ax ay a : Nat}
theorem fwp_lo (hb : fpb τ p b) (h1 : ffl p b a < b) : fwp p b a = 0 := by
  have hp : (p = 24 ∧ b = 127) ∨ (p = 53 ∧ b = 1023) := by unfold fpb at hb; omega
  have fl : fam p b a < 2 ^ p := by
    obtain ⟨d1, d2, d3⟩ := ffl_d (a := a) hb
    have pp : 2 ^ p = 2 * 2 ^ (p - 1) := by rw [show p = p - 1 + 1 by omega, Nat.pow_succ, Nat.mul_comm]; rfl
    unfold fam
    split
    · rename_i h9
      rw [h9, Nat.zero_mul] at d1
      omega
    · omega
  have hw : ∃ d : Nat, fwt p b a = -(d : Int) ∧ p ≤ d := by
    refine ⟨(-(fwt p b a)).toNat, ?_⟩
    unfold fwt
    split <;> omega
  obtain ⟨d, e1, e2⟩ := hw
  have pd : 2 ^ p ≤ 2 ^ d := Nat.pow_le_pow_right (by omega) e2
  unfold fwp
  rw [e1, Int.neg_neg, Int.toNat_natCast, if_neg (by omega)]
  exact Nat.div_eq_of_lt (Nat.lt_of_lt_of_le fl pd)
theorem fam_n (hb : fpb τ p b) (h1 : b ≤ ffl p b a) : 2 ^ (p - 1) ≤ fam p b a ∧ fam p b a < 2 ^ p ∧ fam p b a = fmg p b a % 2 ^ (p - 1) + 2 ^ (p - 1) ∧ fwt p b a = ffl p b a - b - (p - 1 : Nat) := by
  have hp : (p = 24 ∧ b = 127) ∨ (p = 53 ∧ b = 1023) := by unfold fpb at hb; omega
  obtain ⟨d1, d2, d3⟩ := ffl_d (a := a) hb
  have pp : 2 ^ p = 2 * 2 ^ (p - 1) := by rw [show p = p - 1 + 1 by omega, Nat.pow_succ, Nat.mul_comm]; rfl
  have f0 : ffl p b a ≠ 0 := by omega
  unfold fam fwt
  rw [if_neg f0, if_neg f0, pp]
  exact ⟨Nat.le_add_left _ _, by omega, rfl, rfl⟩
theorem fwp_hi (hb : fpb τ p b) (h1 : b + 64 ≤ ffl p b a) : 18446744073709551616 ≤ fwp p b a := by
  have hp : (p = 24 ∧ b = 127) ∨ (p = 53 ∧ b = 1023) := by unfold fpb at hb; omega
  obtain ⟨f1, f2, f3, f4⟩ := fam_n hb (show b ≤ ffl p b a by omega)
  obtain ⟨e, he⟩ : ∃ e : Nat, fwt p b a = e ∧ 64 ≤ p - 1 + e := ⟨(fwt p b a).toNat, by omega, by omega⟩
  unfold fwp
  rw [he.1, if_pos (by omega), Int.toNat_natCast]
  have g1 := Nat.mul_le_mul_right (2 ^ e) f1
  rw [← Nat.pow_add] at g1
  have g2 : 2 ^ 64 ≤ 2 ^ (p - 1 + e) := Nat.pow_le_pow_right (by omega) he.2
  exact Nat.le_trans g2 g1
theorem fwp_lt (hb : fpb τ p b) (h1 : ffl p b a < b + 64) : fwp p b a < 18446744073709551616 := by
  have hp : (p = 24 ∧ b = 127) ∨ (p = 53 ∧ b = 1023) := by unfold fpb at hb; omega
  rcases Nat.lt_or_ge (ffl p b a) b with h2 | h2
  · rw [fwp_lo hb h2]
    decide
  · obtain ⟨f1, f2, f3, f4⟩ := fam_n hb h2
    unfold fwp
    split
    · obtain ⟨e, he⟩ : ∃ e : Nat, fwt p b a = e ∧ p + e ≤ 64 := ⟨(fwt p b a).toNat, by omega, by omega⟩
      rw [he.1, Int.toNat_natCast]
      have g1 := Nat.mul_lt_mul_of_pos_right f2 (Nat.pow_pos (n := e) (show 0 < 2 by decide))
      rw [← Nat.pow_add] at g1
      have g2 : 2 ^ (p + e) ≤ 2 ^ 64 := Nat.pow_le_pow_right (by omega) he.2
      exact Nat.lt_of_lt_of_le g1 g2
    · have g1 : 2 ^ p ≤ 2 ^ 53 := Nat.pow_le_pow_right (by omega) (by omega)
      exact Nat.lt_of_le_of_lt (Nat.div_le_self _ _) (Nat.lt_trans f2 (Nat.lt_of_le_of_lt g1 (by decide)))
theorem ex_wholePart {Qr : Int64 → xb_H → Prop} (hf : fm h F τ) (hb : fpb τ p b) (hx : x.toBitVec.toNat = a) (hl : ffl p b a < b + 64) (hQ : ∀ r : Int64, r.toBitVec.toNat = fwp p b a → Qr r h) : w_Format_wholePart F x h Qr := by
  obtain ⟨b1, b2, b3, b4⟩ := hf.pp hb
  have hp : (p = 24 ∧ b = 127) ∨ (p = 53 ∧ b = 1023) := by unfold fpb at hb; omega
  have s1 : (xb_i h F 0 - 1).toInt = (p - 1 : Nat) := by rw [z_sub, b1, show (1 : Int32).toInt = 1 from rfl]; omega
  have p64 : p - 1 < 64 := by omega
  have s0 : 0 < 2 ^ (p - 1) := Nat.pow_pos (by omega)
  have s2 : 2 ^ (p - 1) < 18446744073709551616 := Nat.pow_lt_pow_right (m := p - 1) (n := 64) (by decide) p64
  have lt := fwp_lt hb hl
  unfold w_Format_wholePart w_Format_wholePart_L62
  refine ⟨hf.1, ex_power hf hb hx (fun r3 e3 _ => ⟨fun c3 v5 e5 v6 e6 v7 e7 => ?_, fun c3 => hQ _ ?_⟩)⟩
  · rw [z_le, e3, show (0 : Int32).toInt = 0 from rfl] at c3
    have hge : b ≤ ffl p b a := by omega
    obtain ⟨f1, f2, f3, f4⟩ := fam_n hb hge
    have n5 : v5.toBitVec.toNat = 2 ^ (p - 1) := by
      rw [e5, Z_shl s1 p64, show (1 : Int64).toBitVec.toNat = 1 from rfl, Nat.one_mul, Nat.mod_eq_of_lt s2]
    have n5' : (v5 - 1).toBitVec.toNat = 2 ^ (p - 1) - 1 := by
      rw [Z_subN _ _ (by rw [n5]; exact s0), n5]
      rfl
    have n6 : v6.toBitVec.toNat = fam p b a := by
      rw [e6, Z_or, Z_and_mod _ (p - 1) n5', hx, n5, Nat.or_comm]
      have g := Nat.two_pow_add_eq_or_of_lt (Nat.mod_lt a s0) 1
      rw [Nat.mul_one] at g
      rw [← g, f3, Nat.add_comm]
      congr 1
      unfold fmg fS
      rw [Nat.mod_mul_left_mod]
    have q7 : v7.toInt = fwt p b a := by
      rw [e7, z_sub, e3, s1]
      omega
    rw [z_lt, q7, show (0 : Int32).toInt = 0 from rfl]
    unfold fwp at lt hQ
    refine ⟨fun c => hQ _ ?_, fun c => hQ _ ?_⟩
    · have q8 : (-v7).toInt = ((-(fwt p b a)).toNat : Nat) := by
        rw [show -v7 = 0 - v7 from (Int32.zero_sub v7).symm, z_sub, q7, show (0 : Int32).toInt = 0 from rfl]
        omega
      rw [if_neg (Int.not_le.mpr c), Z_ushr q8 (by omega), n6]
    · rw [if_pos (Int.not_lt.mp c)] at lt ⊢
      have q8 : v7.toInt = ((fwt p b a).toNat : Nat) := by
        rw [q7]
        omega
      rw [Z_shl q8 (by omega), n6, Nat.mod_eq_of_lt lt]
  · rw [z_le, e3, show (0 : Int32).toInt = 0 from rfl] at c3
    rw [fwp_lo hb (by omega)]
    rfl
theorem ex_trapOfWhole {x3 x4 : Int32} {w : Nat} {Qr : Int32 → xb_H → Prop} (hf : fm h F τ) (hb : fpb τ p b) (hx : x.toBitVec.toNat = a) (wx : fW p b a) (hw : x3.toInt = w) (w6 : w = 32 ∨ w = 64)
    (hN : fI_ p b < fmg p b a → Qr 5 h) (h4 : fmg p b a ≤ fI_ p b → ¬ fok p b a w (x4 ≠ 0) → Qr 4 h) (h0 : fmg p b a ≤ fI_ p b → fok p b a w (x4 ≠ 0) → ffl p b a < b + 64 → Qr 0 h) : w_Format_trapOfWhole F x x3 x4 h Qr := by
  have nok : b + 64 ≤ ffl p b a → ¬ fok p b a w (x4 ≠ 0) := fun hc h9 => by
    have g := fwp_hi hb hc
    have g2 : 2 ^ (w - 1) ≤ 2 ^ 63 := Nat.pow_le_pow_right (by decide) (by omega)
    have g3 : 2 ^ w ≤ 2 ^ 64 := Nat.pow_le_pow_right (by decide) (by omega)
    have g4 : (2 : Nat) ^ 63 < 18446744073709551616 := by decide
    have g5 : (2 : Nat) ^ 64 = 18446744073709551616 := by decide
    rcases h9 with ⟨-, -, h9⟩ | ⟨-, -, h9⟩ | ⟨-, -, h9⟩ | ⟨-, -, h9⟩
    · exact absurd (Nat.lt_of_lt_of_le h9 g2) (by omega)
    · exact absurd (Nat.le_trans h9 g2) (by omega)
    · exact absurd (Nat.lt_of_lt_of_le h9 g3) (by omega)
    · omega
  have e1 : (x3 - 1).toInt = (w - 1 : Nat) := by rw [z_sub, hw, show (1 : Int32).toInt = 1 from rfl]; omega
  have e64 : x3 = 64 ↔ w = 64 := by rw [z_eq, hw, show (64 : Int32).toInt = 64 from rfl]; omega
  have pw : 0 < 2 ^ (w - 1) := Nat.pow_pos (by decide)
  unfold w_Format_trapOfWhole w_Format_trapOfWhole_L77 w_Format_trapOfWhole_L82 w_Format_trapOfWhole_L114 w_Format_trapOfWhole_L118 w_Format_trapOfWhole_L119 w_Format_trapOfWhole_L121 w_Format_trapOfWhole_L131
  refine ⟨hf.1, ex_isNan hf hb hx (fun r3 c3 _ => ⟨fun e3 => ex_power hf hb hx (fun r6 e6 _ => ⟨fun c6 => ?_, fun c6 => h4 (c3.mp e3) (nok ?_)⟩), fun e3 => hN (Nat.not_le.mp fun h9 => e3 (c3.mpr h9))⟩)⟩
  · rw [z_lt, e6, show (64 : Int32).toInt = 64 from rfl] at c6
    have hl : ffl p b a < b + 64 := by omega
    have lt := fwp_lt hb hl
    have nn := c3.mp e3
    refine ex_wholePart hf hb hx hl (fun r9 e9 _ => ex_isNegative hf hb hx wx (fun r11 c11 _ => ?_))
    have z0 : r9 = 0 ↔ fwp p b a = 0 := by rw [Z_eqN, e9]; rfl
    have u1 : xb_lushr r9 (x3 - 1) = 0 ↔ fwp p b a < 2 ^ (w - 1) := by
      rw [Z_eqN, Z_ushr e1 (by omega), e9, show (0 : Int64).toBitVec.toNat = 0 from rfl, Nat.div_eq_zero_iff_lt pw]
    have u2 : r9 = xb_lshl 1 (x3 - 1) ↔ fwp p b a = 2 ^ (w - 1) := by
      rw [Z_eqN, Z_shl e1 (by omega), e9, show (1 : Int64).toBitVec.toNat = 1 from rfl, Nat.one_mul, Nat.mod_eq_of_lt]
      exact Nat.pow_lt_pow_right (n := 64) (by decide) (by omega)
    have u3 : xb_lushr r9 32 = 0 ↔ fwp p b a < 4294967296 := by
      rw [Z_eqN, Z_ushr (k := 32) rfl (by decide), e9, show (0 : Int64).toBitVec.toNat = 0 from rfl, Nat.div_eq_zero_iff_lt (by decide)]
    rw [z0, u1, u2, u3, c11, e64]
    have y0 : fok p b a w (x4 ≠ 0) → ((1 : Int32) = 0 → Qr 4 h) ∧ (¬ (1 : Int32) = 0 → Qr 0 h) := fun hc => ⟨fun h9 => absurd h9 (by decide), fun _ => h0 nn hc hl⟩
    have n0 : ¬ fok p b a w (x4 ≠ 0) → ((0 : Int32) = 0 → Qr 4 h) ∧ (¬ (0 : Int32) = 0 → Qr 0 h) := fun hc => ⟨fun _ => h4 nn hc, fun h9 => absurd rfl h9⟩
    unfold fok at y0 n0
    clear nok z0 u1 u2 u3 c11 e64 h4 h0 hN e9 e1
    refine ⟨fun c4 => ⟨fun c => y0 ?_, fun c => ⟨fun c' => n0 ?_, fun c' => ⟨fun c2 => n0 ?_, fun c2 => y0 ?_⟩⟩⟩, fun c4 => ⟨fun c => ⟨fun c2 => y0 ?_, fun c2 => ⟨fun c5 => n0 ?_, fun c5 => y0 ?_⟩⟩, fun c => ⟨fun c2 => n0 ?_, fun c2 => y0 ?_⟩⟩⟩
    · by_cases h9 : a < fS p b
      · exact .inl ⟨c4, h9, c⟩
      · exact .inr (.inl ⟨c4, h9, Nat.le_of_lt c⟩)
    · rintro (⟨-, -, h9⟩ | ⟨-, h9, -⟩ | ⟨h9, -⟩ | ⟨h9, -⟩)
      · exact c h9
      · exact h9 c'
      · exact h9 c4
      · exact h9 c4
    · rintro (⟨-, h9, -⟩ | ⟨-, -, h9⟩ | ⟨h9, -⟩ | ⟨h9, -⟩)
      · exact c' h9
      · exact c2 (by omega)
      · exact h9 c4
      · exact h9 c4
    · exact .inr (.inl ⟨c4, c', Nat.le_of_eq c2⟩)
    · refine .inr (.inr (.inl ⟨fun h9 => h9 c4, c, ?_⟩))
      rw [c2]
      exact lt
    · rintro (⟨h9, -⟩ | ⟨h9, -⟩ | ⟨-, -, h9⟩ | ⟨-, h9, -⟩)
      · exact h9 c4
      · exact h9 c4
      · rw [w6.resolve_right c2] at h9
        exact c5 h9
      · exact h9 c
    · refine .inr (.inr (.inl ⟨fun h9 => h9 c4, c, ?_⟩))
      rw [w6.resolve_right c2]
      exact c5
    · rintro (⟨h9, -⟩ | ⟨h9, -⟩ | ⟨-, h9, -⟩ | ⟨-, -, h9⟩)
      · exact h9 c4
      · exact h9 c4
      · exact c h9
      · exact c2 h9
    · exact .inr (.inr (.inr ⟨fun h9 => h9 c4, c, c2⟩))
  · rw [z_lt, e6, show (64 : Int32).toInt = 64 from rfl] at c6
    omega
theorem or_1 (q : Nat) : q ||| 1 = q / 2 * 2 + 1 := by
  have g := Nat.two_pow_add_eq_or_of_lt (b := 1) (i := 1) (by omega) (q / 2)
  rw [Nat.pow_one] at g
  have h5 : q / 2 * 2 + 1 = 2 * (q / 2) ||| 1 := by rw [← g]; omega
  rw [h5]
  rcases (show q % 2 = 0 ∨ q % 2 = 1 by omega) with h6 | h6
  · rw [show q = 2 * (q / 2) by omega]
    congr 1
    omega
  · have : q = 2 * (q / 2) ||| 1 := by rw [← g]; omega
    rw [this, Nat.or_assoc, Nat.or_self, ← this]
    exact this
theorem ow_core {x4 : Int32} {y0 : Int64} {n : Nat} {Qr : Int64 → xb_H → Prop} (hf : fm h F τ) (hb : fpb τ p b) (hy : y0.toBitVec.toNat = n) (hQ : ∀ r : Int64, r.toBitVec.toNat = fow p b (x4 ≠ 0) n → Qr r h) : w_Format_ofWhole_L28 Qr F x4 y0 h := by
  have hp : (p = 24 ∧ b = 127) ∨ (p = 53 ∧ b = 1023) := by unfold fpb at hb; omega
  have b4 := (hf.pp hb).2.2.2
  have hn : n < 18446744073709551616 := by rw [← hy]; exact y0.toBitVec.isLt
  have z0 : y0 = 0 ↔ n = 0 := by rw [Z_eqN, hy]; rfl
  have g0 : (0 : Int64) ≤ y0 ↔ n < 9223372036854775808 := by
    rw [Z_le, show (0 : Int64).toInt = 0 from rfl]
    have c1 := Z_nat y0
    have c2 := Z_rg y0
    rw [hy] at c1
    omega
  have fin : ∀ (w : Int64) (N : Nat) (e : Int), w.toBitVec.toNat = rnF p b N e → n ≠ 0 → rnF p b N e = rnF p b n 0 → ((if x4 = 0 then 0 else xb_l h F 2) ||| w).toBitVec.toNat = fow p b (x4 ≠ 0) n := by
    intro w N e hw h9 eq
    unfold fow
    rw [if_neg h9, Z_or, hw, eq]
    congr 1
    by_cases h8 : x4 = 0
    · rw [if_pos h8, if_neg (fun h7 => h7 h8)]
      rfl
    · rw [if_neg h8, if_pos h8, b4]
  unfold w_Format_ofWhole_L28
  rw [z0, g0]
  refine ⟨fun c0 => ⟨fun c1 => ⟨hf.1, ex_nearest hf hb hy (Nat.pos_of_ne_zero c0) c1 (show (0 : Int32).toInt = 0 from rfl) (by decide) (by decide) (fun w hw _ => hQ _ (fin w n 0 hw c0 rfl))⟩, fun c1 => ⟨hf.1, ?_⟩⟩, fun c0 => hQ _ ?_⟩
  · have ns : ((xb_lushr y0 1) ||| (y0 &&& 1)).toBitVec.toNat = stk n 1 := by
      rw [Z_or, Z_even, Z_and, hy, show (1 : Int64).toBitVec.toNat = 1 from rfl, Nat.and_one_is_mod]
      unfold stk
      rw [Nat.pow_one]
      rcases Nat.mod_two_eq_zero_or_one n with h9 | h9
      · rw [if_pos h9, h9, Nat.or_zero]
      · rw [if_neg (by omega), h9, or_1]
    have sl := stk_le (N := n) (j := 1)
    have sd := (stk_dm (N := n) (j := 1)).1
    rw [Nat.pow_one] at sl sd
    have p1 : 0 < stk n 1 := by omega
    have p2 : stk n 1 < 9223372036854775808 := by
      have := (stk_dm (N := n) (j := 1)).1
      rw [Nat.pow_one] at this
      omega
    refine ex_nearest hf hb ns p1 p2 (show (1 : Int32).toInt = 1 from rfl) (by decide) (by decide) (fun w hw _ => hQ _ (fin w (stk n 1) 1 hw c0 ?_))
    have k := rnF_st (N := n) (j := 1) (e := 0) hb (by
      have g1 : 2 ^ (p + 1) ≤ 2 ^ 54 := Nat.pow_le_pow_right (by decide) (by omega)
      refine Nat.le_trans g1 ?_
      rw [Nat.pow_one]
      have : (2 : Nat) ^ 54 = 18014398509481984 := by decide
      omega)
    exact k
  · unfold fow
    rw [if_pos c0]
    rfl
theorem ex_ofWhole {x3 : Int32} {Qr : Int64 → xb_H → Prop} (hf : fm h F τ) (hb : fpb τ p b) (hQ : ∀ r : Int64, r.toBitVec.toNat = (if x3 = 0 then fow p b False x.toBitVec.toNat else fow p b (x.toInt < 0) x.toInt.natAbs) → Qr r h) : w_Format_ofWhole F x x3 h Qr := by
  have g0 : (0 : Int64) ≤ x ↔ 0 ≤ x.toInt := by rw [Z_le, show (0 : Int64).toInt = 0 from rfl]
  have fe : ∀ (P Q : Prop) [Decidable P] [Decidable Q] (n : Nat), (P ↔ Q) → fow p b P n = fow p b Q n := fun P Q _ _ n hc => by
    unfold fow
    by_cases h9 : P
    · rw [if_pos h9, if_pos (hc.mp h9)]
    · rw [if_neg h9, if_neg (fun h8 => h9 (hc.mpr h8))]
  have c1 := Z_nat x
  have c2 := Z_rg x
  unfold w_Format_ofWhole w_Format_ofWhole_L14 w_Format_ofWhole_L15
  rw [g0]
  refine ⟨fun e => ⟨fun _ => ow_core hf hb rfl (fun r hr => hQ _ ?_), fun h9 => absurd rfl h9⟩, fun e => ⟨fun c => ⟨fun _ => ow_core hf hb rfl (fun r hr => hQ _ ?_), fun h9 => absurd rfl h9⟩, fun c => ⟨fun h9 => absurd h9 (by decide), fun _ => ow_core (n := x.toInt.natAbs) hf hb ?_ (fun r hr => hQ _ ?_)⟩⟩⟩
  · rw [if_pos e, hr]
    exact fe _ _ _ ⟨fun h9 => absurd rfl h9, fun h9 => h9.elim⟩
  · rw [if_neg e, hr, show x.toInt.natAbs = x.toBitVec.toNat by omega]
    exact fe _ _ _ ⟨fun h9 => absurd rfl h9, fun h9 => absurd h9 (by omega)⟩
  · have d1 := Z_nat (-x)
    have d2 := Z_rg (-x)
    have d3 : (-x).toInt = (0 - x.toInt + 9223372036854775808) % 18446744073709551616 - 9223372036854775808 := by
      rw [show -x = 0 - x from (Int64.zero_sub x).symm, Z_sub, show (0 : Int64).toInt = 0 from rfl]
    rcases Int.lt_or_le x.toInt (-9223372036854775807) with h9 | h9
    · have e9 : x.toInt = -9223372036854775808 := by omega
      rw [e9] at d3 ⊢
      have : (-x).toInt = -9223372036854775808 := by rw [d3]; decide
      rw [this] at d1
      have e8 : ((-x).toBitVec.toNat : Int) = 9223372036854775808 := by rw [d1]; decide
      have e7 : (-9223372036854775808 : Int).natAbs = 9223372036854775808 := by decide
      omega
    · have : (-x).toInt = -x.toInt := by rw [d3]; omega
      rw [this] at d1
      omega
  · rw [if_neg e, hr]
    exact fe _ _ _ ⟨fun _ => by omega, fun _ => by decide⟩
theorem ex_ofOther {F2 p2 b2 : Nat} {τ2 : Int} {Qr : Int64 → xb_H → Prop} (hf : fm h F τ) (hb : fpb τ p b) (hf2 : fm h F2 τ2) (hb2 : fpb τ2 p2 b2) (hx : x.toBitVec.toNat = a) (wx : fW p b a) (hQ : ∀ r : Int64, r.toBitVec.toNat = fcv p b p2 b2 a → Qr r h) : w_Format_ofOther F2 F x h Qr := by
  have hp : (p = 24 ∧ b = 127) ∨ (p = 53 ∧ b = 1023) := by unfold fpb at hb; omega
  have sg : ∀ r6 : Int32, (r6 = 0 ↔ a < fS p b) → (if a < fS p b then 0 else fS p2 b2) = if r6 = 0 then 0 else fS p2 b2 := fun r6 c => by
    by_cases h9 : a < fS p b
    · rw [if_pos h9, if_pos (c.mpr h9)]
    · rw [if_neg h9, if_neg (fun h8 => h9 (c.mp h8))]
  unfold w_Format_ofOther
  refine ⟨hf.1, ex_isNan hf hb hx (fun r3 c3 _ => ⟨fun e3 => ex_isNegative hf hb hx wx (fun r6 c6 _ => ex_isInfinite hf hb hx (fun r8 c8 _ => ⟨fun e8 => ex_isZero hf hb hx (fun r11 c11 _ => ⟨fun e11 => ?_, fun e11 => ⟨hf2.1, ex_signed (v := 0) hf2 hb2 rfl (sg r6 c6) (fun r hr _ => hQ _ ?_)⟩⟩), fun e8 => ⟨hf2.1, ex_signed hf2 hb2 (hf2.pp hb2).2.2.1 (sg r6 c6) (fun r hr _ => hQ _ ?_)⟩⟩)), fun e3 => ⟨hf2.1, hQ _ ?_⟩⟩)⟩
  · have z := c11.mp e11
    obtain ⟨q1, q2, q3⟩ := fam_b hb z
    have wr := fwr hb z
    obtain ⟨m1, m2⟩ := fam_p hb z
    have g1 : 2 ^ p ≤ 2 ^ 53 := Nat.pow_le_pow_right (by decide) (by omega)
    refine ex_exponent hf hb hx z (fun r14 e14 _ => ex_mantissa hf hb hx z (fun r16 e16 _ => ⟨hf2.1, ex_nearest hf2 hb2 e16 (Nat.mul_pos m1 (Nat.pow_pos (by decide))) (Nat.lt_of_lt_of_le q2 (Nat.le_trans g1 (by decide))) e14 (by omega) (by omega) (fun w hw _ => hQ _ ?_)⟩))
    unfold fcv
    rw [if_neg (Nat.not_lt.mpr (c3.mp e3)), if_neg (c8.mp e8), if_neg z, Z_or, hw, sg r6 c6, rnF_sc m1]
    congr 1
    split
    · rfl
    · exact (hf2.pp hb2).2.2.2
  · unfold fcv
    rw [if_neg (Nat.not_lt.mpr (c3.mp e3)), if_neg (c8.mp e8), if_pos (Classical.byContradiction fun h9 => e11 (c11.mpr h9)), hr]
  · unfold fcv
    rw [if_neg (Nat.not_lt.mpr (c3.mp e3)), if_pos (Classical.byContradiction fun h9 => e8 (c8.mpr h9)), hr]
  · unfold fcv
    rw [if_pos (Nat.not_le.mp fun h9 => e3 (c3.mpr h9)), hf2.nn hb2]
end FLH

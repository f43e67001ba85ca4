-- floating point: rounded of the class
section FLF
variable {h : xb_H} {F p b : Nat} {τ : Int} {x : Int64} {a : Nat}
theorem ffl_d (hb : fpb τ p b) : fmg p b a = ffl p b a * 2 ^ (p - 1) + fmg p b a % 2 ^ (p - 1) ∧ fmg p b a % 2 ^ (p - 1) < 2 ^ (p - 1) ∧ ffl p b a < 2 * b + 2 := by
  have s0 : 0 < 2 ^ (p - 1) := Nat.pow_pos (by omega)
  have fb : ffl p b a < 2 * b + 2 := by
    unfold ffl
    refine Nat.div_lt_of_lt_mul ?_
    have := fmg_lt (a := a) hb
    unfold fS at this
    rw [Nat.mul_comm]
    exact this
  refine ⟨?_, Nat.mod_lt _ s0, fb⟩
  unfold ffl
  have := Nat.div_add_mod (fmg p b a) (2 ^ (p - 1))
  rw [Nat.mul_comm] at this
  omega
theorem fI_fl (hb : fpb τ p b) (h1 : fmg p b a = fI_ p b) : ffl p b a = 2 * b + 1 := by
  unfold ffl
  rw [h1]
  unfold fI_
  exact Nat.mul_div_cancel _ (Nat.pow_pos (by omega))
/-- below 1 -/
theorem frd_lo {w : Nat} (hb : fpb τ p b) (h0 : fmg p b a ≠ 0) (h1 : ffl p b a < b) : frd p b w a = fsg p b a ||| (if (w = 2 ∧ a < fS p b) ∨ (w = 3 ∧ ¬ a < fS p b) ∨ (w = 5 ∧ ffl p b a + 1 = b ∧ (b - 1) * 2 ^ (p - 1) < fmg p b a) then b * 2 ^ (p - 1) else 0) := by
  have hp : (p = 24 ∧ b = 127) ∨ (p = 53 ∧ b = 1023) := by unfold fpb at hb; omega
  obtain ⟨d1, d2, d3⟩ := ffl_d (a := a) hb
  obtain ⟨m1, m2⟩ := fam_p hb h0
  have hw : ∃ d : Nat, fwt p b a = -(d : Int) ∧ p ≤ d ∧ (d = p ↔ ffl p b a + 1 = b) := by
    refine ⟨(-(fwt p b a)).toNat, ?_⟩
    unfold fwt
    split <;> omega
  obtain ⟨d, e1, e2, e3⟩ := hw
  have pd : 2 ^ p ≤ 2 ^ d := Nat.pow_le_pow_right (by omega) e2
  have q1 : fam p b a / 2 ^ d = 0 := Nat.div_eq_of_lt (by omega)
  have q2 : fam p b a % 2 ^ d = fam p b a := Nat.mod_eq_of_lt (by omega)
  have pp : 2 ^ p = 2 * 2 ^ (p - 1) := by rw [show p = p - 1 + 1 by omega, Nat.pow_succ, Nat.mul_comm]; rfl
  have key : 2 ^ d < 2 * fam p b a ↔ (ffl p b a + 1 = b ∧ (b - 1) * 2 ^ (p - 1) < fmg p b a) := by
    constructor
    · intro h2
      have e4 : d = p := Classical.byContradiction fun h9 => by
        have : 2 ^ (p + 1) ≤ 2 ^ d := Nat.pow_le_pow_right (by omega) (by omega)
        rw [Nat.pow_succ] at this
        omega
      have e5 := e3.mp e4
      refine ⟨e5, ?_⟩
      have f0 : ffl p b a ≠ 0 := by omega
      rw [e4] at h2
      unfold fam at h2
      rw [if_neg f0] at h2
      rw [show b - 1 = ffl p b a by omega]
      omega
    · rintro ⟨e5, h2⟩
      have f0 : ffl p b a ≠ 0 := by omega
      rw [e3.mpr e5]
      unfold fam
      rw [if_neg f0]
      rw [show b - 1 = ffl p b a by omega] at h2
      omega
  have ni : ¬ (fmg p b a = fI_ p b ∨ fmg p b a = 0 ∨ 0 ≤ fwt p b a) := by
    rintro (h9 | h9 | h9)
    · have := fI_fl hb h9
      omega
    · exact h0 h9
    · omega
  have one : rnF p b 1 0 = b * 2 ^ (p - 1) := by
    rw [rnF_i (t := 0) hb (by decide) (by decide) (by omega), Nat.zero_add, Nat.sub_zero, Nat.one_mul]
    rw [show b * 2 ^ (p - 1) = (b - 1 + 1) * 2 ^ (p - 1) by rw [Nat.sub_add_cancel (by omega)], Nat.succ_mul]
    omega
  unfold frd
  rw [if_neg ni, e1, Int.neg_neg, Int.toNat_natCast, q1, Nat.zero_add]
  congr 1
  unfold fru
  rw [q2, q1]
  have eq : ((w = 2 ∧ a < fS p b ∧ fam p b a ≠ 0) ∨ (w = 3 ∧ ¬ a < fS p b ∧ fam p b a ≠ 0) ∨ (w = 5 ∧ (2 ^ d < 2 * fam p b a ∨ (2 * fam p b a = 2 ^ d ∧ 0 % 2 = 1)))) ↔ ((w = 2 ∧ a < fS p b) ∨ (w = 3 ∧ ¬ a < fS p b) ∨ (w = 5 ∧ ffl p b a + 1 = b ∧ (b - 1) * 2 ^ (p - 1) < fmg p b a)) := by
    rw [key]
    constructor
    · rintro (⟨c1, c2, -⟩ | ⟨c1, c2, -⟩ | ⟨c1, c2 | ⟨-, c2⟩⟩)
      · exact .inl ⟨c1, c2⟩
      · exact .inr (.inl ⟨c1, c2⟩)
      · exact .inr (.inr ⟨c1, c2⟩)
      · cases c2
    · rintro (⟨c1, c2⟩ | ⟨c1, c2⟩ | ⟨c1, c2⟩)
      · exact .inl ⟨c1, c2, by omega⟩
      · exact .inr (.inl ⟨c1, c2, by omega⟩)
      · exact .inr (.inr ⟨c1, .inl c2⟩)
  by_cases c : ((w = 2 ∧ a < fS p b) ∨ (w = 3 ∧ ¬ a < fS p b) ∨ (w = 5 ∧ ffl p b a + 1 = b ∧ (b - 1) * 2 ^ (p - 1) < fmg p b a))
  · rw [if_pos (eq.mpr c), if_pos c, if_neg (by decide), one]
  · rw [if_neg (fun h9 => c (eq.mp h9)), if_neg c, if_pos rfl]
theorem nl_a {T Q u : Nat} (h1 : Q < T) (h2 : u ≤ 1) : T + Q + u ≤ 2 * T := by omega
theorem nl_b {A r G C M U : Nat} (h1 : A + r = G) (h2 : M = C + G) (h3 : r ≤ M) : A + U + C = M - r + U := by omega
theorem nl_c {M r D : Nat} (h1 : M < 9223372036854775808) (h2 : D ≤ 4503599627370496) : M - r + D < 18446744073709551616 := by omega
/-- from 1 on -/
theorem frd_mi {w d : Nat} (hb : fpb τ p b) (h1 : b ≤ ffl p b a) (hd : (d : Int) = (p - 1 : Nat) - (ffl p b a - b : Int)) (d0 : 1 ≤ d) : frd p b w a = fsg p b a ||| (fmg p b a - fmg p b a % 2 ^ d + (if (w = 2 ∧ a < fS p b ∧ fmg p b a % 2 ^ d ≠ 0) ∨ (w = 3 ∧ ¬ a < fS p b ∧ fmg p b a % 2 ^ d ≠ 0) ∨ (w = 5 ∧ (2 ^ d < 2 * (fmg p b a % 2 ^ d) ∨ (2 * (fmg p b a % 2 ^ d) = 2 ^ d ∧ fmg p b a / 2 ^ d % 2 = 1))) then 2 ^ d else 0)) := by
  have hp : (p = 24 ∧ b = 127) ∨ (p = 53 ∧ b = 1023) := by unfold fpb at hb; omega
  obtain ⟨d1, d2, d3⟩ := ffl_d (a := a) hb
  have f0 : ffl p b a ≠ 0 := by omega
  obtain ⟨t, ht⟩ : ∃ t : Nat, ffl p b a = b + t := ⟨ffl p b a - b, by omega⟩
  have hd' : d = p - 1 - t ∧ t + 1 ≤ p - 1 := by omega
  have pT : 2 ^ (p - 1) = 2 ^ t * 2 ^ d := by rw [← Nat.pow_add]; congr 1; omega
  have pd : 0 < 2 ^ d := Nat.pow_pos (by omega)
  have pt : 0 < 2 ^ t := Nat.pow_pos (by omega)
  have e1 : fwt p b a = -(d : Int) := by
    unfold fwt
    rw [if_neg f0]
    omega
  have fa : fam p b a = fmg p b a % 2 ^ (p - 1) + 2 ^ (p - 1) := by
    unfold fam
    rw [if_neg f0]
  obtain ⟨fr, hfr⟩ : ∃ fr : Nat, fr = fmg p b a % 2 ^ (p - 1) := ⟨_, rfl⟩
  rw [← hfr] at d1 d2 fa
  have m1 : fam p b a % 2 ^ d = fmg p b a % 2 ^ d := by
    rw [fa, d1, pT, Nat.add_mul_mod_self_right, Nat.add_comm, ← Nat.mul_assoc, Nat.add_mul_mod_self_right]
  have m2 : fam p b a / 2 ^ d = 2 ^ t + fr / 2 ^ d := by
    rw [fa, pT, Nat.add_mul_div_right _ _ pd, Nat.add_comm]
  have m3 : fmg p b a / 2 ^ d = ffl p b a * 2 ^ t + fr / 2 ^ d := by
    rw [d1, pT, Nat.add_comm, ← Nat.mul_assoc, Nat.add_mul_div_right _ _ pd, Nat.add_comm]
  have m4 : fmg p b a / 2 ^ d % 2 = fam p b a / 2 ^ d % 2 := by
    rw [m2, m3]
    cases t with
    | zero =>
      rw [Nat.pow_zero, Nat.mul_one]
      omega
    | succ t =>
      rw [Nat.pow_succ, ← Nat.mul_assoc]
      omega
  have fq : fr / 2 ^ d < 2 ^ t := Nat.div_lt_of_lt_mul (by rw [Nat.mul_comm, ← pT]; exact d2)
  have ni : ¬ (fmg p b a = fI_ p b ∨ fmg p b a = 0 ∨ 0 ≤ fwt p b a) := by
    rintro (h9 | h9 | h9)
    · have := fI_fl hb h9
      omega
    · have : ffl p b a = 0 := by unfold ffl; rw [h9]; exact Nat.zero_div _
      omega
    · omega
  have pe : 2 ^ (t + 1) = 2 * 2 ^ t := by rw [Nat.pow_succ, Nat.mul_comm]
  have u1 : ∀ u : Nat, u ≤ 1 → rnF p b (fam p b a / 2 ^ d + u) 0 = fmg p b a - fmg p b a % 2 ^ d + u * 2 ^ d := by
    intro u hu
    rw [rnF_i (t := t) hb (by rw [m2]; exact Nat.le_trans (Nat.le_add_right _ _) (Nat.le_add_right _ _)) (by rw [m2, pe]; exact nl_a fq hu) hd'.2, ← hd'.1, Nat.add_mul]
    have g1 := Nat.div_add_mod (fam p b a) (2 ^ d)
    rw [Nat.mul_comm, m1] at g1
    have g2 : fmg p b a = (t + b - 1) * 2 ^ (p - 1) + fam p b a := by
      rw [d1, fa, ht, show b + t = t + b - 1 + 1 by omega, Nat.succ_mul]
      omega
    have g3 := Nat.mod_le (fmg p b a) (2 ^ d)
    exact nl_b g1 g2 g3
  have n0 : fam p b a / 2 ^ d ≠ 0 := by
    rw [m2]
    exact fun h9 => absurd (Nat.eq_zero_of_add_eq_zero_right h9) (by omega)
  unfold frd
  rw [if_neg ni, e1, Int.neg_neg, Int.toNat_natCast]
  unfold fru
  rw [m1, ← m4]
  congr 1
  by_cases c : ((w = 2 ∧ a < fS p b ∧ fmg p b a % 2 ^ d ≠ 0) ∨ (w = 3 ∧ ¬ a < fS p b ∧ fmg p b a % 2 ^ d ≠ 0) ∨ (w = 5 ∧ (2 ^ d < 2 * (fmg p b a % 2 ^ d) ∨ (2 * (fmg p b a % 2 ^ d) = 2 ^ d ∧ fmg p b a / 2 ^ d % 2 = 1))))
  · rw [if_pos c, if_pos c, if_neg (Nat.succ_ne_zero _), u1 1 (Nat.le_refl _), Nat.one_mul]
  · rw [if_neg c, if_neg c, if_neg (show ¬ (fam p b a / 2 ^ d + 0 = 0) from n0), u1 0 (Nat.zero_le _), Nat.zero_mul]
theorem ex_rd_L212 {x1 r9 y0 v13 : Int32} {v15 : Int64} {w d : Nat} {Qr : Int64 → xb_H → Prop} (hf : fm h F τ) (hb : fpb τ p b) (hw : x1.toInt = w) (w2 : 2 ≤ w) (w5 : w ≤ 5) (z9 : r9 = 0 ∨ r9 = 1) (c9 : r9 = 0 ↔ a < fS p b) (h1 : b ≤ ffl p b a) (hd : (d : Int) = (p - 1 : Nat) - (ffl p b a - b : Int)) (d0 : 1 ≤ d) (f13 : v13.toInt = d)
    (n15 : v15.toBitVec.toNat = fmg p b a - fmg p b a % 2 ^ d) (k1 : (xb_lshl 1 v13).toBitVec.toNat = 2 ^ d) (r0 : fmg p b a % 2 ^ d ≠ 0) (pl : 2 ^ d ≤ 4503599627370496) (ml : fmg p b a < 9223372036854775808) (hy : y0 = 0 ∨ y0 = 1) (hc : y0 ≠ 0 ↔ (2 ^ d < 2 * (fmg p b a % 2 ^ d) ∨ (2 * (fmg p b a % 2 ^ d) = 2 ^ d ∧ fmg p b a / 2 ^ d % 2 = 1)))
    (hQ : ∀ r : Int64, r.toBitVec.toNat = frd p b w a → Qr r h) : w_Format_rounded_L212 Qr F r9 v13 v15 y0 r9 x1 h := by
  have hs : fsg p b a = if r9 = 0 then 0 else fS p b := by
    unfold fsg
    by_cases h9 : a < fS p b
    · rw [if_pos h9, if_pos (c9.mpr h9)]
    · rw [if_neg h9, if_neg (fun h8 => h9 (c9.mp h8))]
  have mi := frd_mi (w := w) hb h1 hd d0
  unfold w_Format_rounded_L212 w_Format_rounded_L237
  have eq : (((w = 2 ∧ r9 = 0) ∨ (w = 3 ∧ r9 ≠ 0) ∨ (w ≠ 2 ∧ w ≠ 3 ∧ w ≠ 4 ∧ y0 ≠ 0))) ↔ ((w = 2 ∧ a < fS p b ∧ fmg p b a % 2 ^ d ≠ 0) ∨ (w = 3 ∧ ¬ a < fS p b ∧ fmg p b a % 2 ^ d ≠ 0) ∨ (w = 5 ∧ (2 ^ d < 2 * (fmg p b a % 2 ^ d) ∨ (2 * (fmg p b a % 2 ^ d) = 2 ^ d ∧ fmg p b a / 2 ^ d % 2 = 1)))) := by
    rw [hc, Ne, c9]
    clear mi hs hQ hc hd n15 k1
    constructor
    · rintro (⟨t1, t2⟩ | ⟨t1, t2⟩ | ⟨t1, t2, t3, t4⟩)
      · exact .inl ⟨t1, t2, r0⟩
      · exact .inr (.inl ⟨t1, t2, r0⟩)
      · exact .inr (.inr ⟨by clear t4; omega, t4⟩)
    · rintro (⟨t1, t2, -⟩ | ⟨t1, t2, -⟩ | ⟨t1, t4⟩)
      · exact .inl ⟨t1, t2⟩
      · exact .inr (.inl ⟨t1, t2⟩)
      · exact .inr (.inr ⟨by rw [t1]; decide, by rw [t1]; decide, by rw [t1]; decide, t4⟩)
  refine ex_isAway hw z9 hy (fun r2 c2 _ => ⟨fun e2 => ⟨hf.1, ex_signed hf hb n15 hs (fun r e _ => hQ _ ?_)⟩, fun e2 => ⟨hf.1, ex_signed (v := fmg p b a - fmg p b a % 2 ^ d + 2 ^ d) hf hb ?_ hs (fun r e _ => hQ _ ?_)⟩⟩)
  · rw [mi, if_neg (fun h9 => (c2.mp e2) (eq.mpr h9)), Nat.add_zero, e]
  · rw [Z_addN, n15, k1, Nat.mod_eq_of_lt (nl_c ml pl)]
  · rw [mi, if_pos (eq.mp (Classical.byContradiction fun h9 => e2 (c2.mpr h9))), e]
theorem nl_d {A B r : Nat} (h : A = 2 * B) : (B < r ↔ A < 2 * r) ∧ (r = B ↔ 2 * r = A) := by omega
theorem Z_of32N {x : Int32} {n : Nat} (h : x.toInt = n) : (Int32.toInt64 x).toBitVec.toNat = n := by
  have c1 := Z_nat (Int32.toInt64 x)
  have c2 := z_rg x
  rw [Z_of32, h] at c1
  omega
theorem ex_rd_L78 {x1 r9 y0 : Int32} {w : Nat} {Qr : Int64 → xb_H → Prop} (hf : fm h F τ) (hb : fpb τ p b) (hw : x1.toInt = w) (w2 : 2 ≤ w) (w5 : w ≤ 5) (z9 : r9 = 0 ∨ r9 = 1) (c9 : r9 = 0 ↔ a < fS p b) (h0 : fmg p b a ≠ 0) (h1 : ffl p b a < b)
    (hy : y0 = 0 ∨ y0 = 1) (hc : y0 ≠ 0 ↔ (ffl p b a + 1 = b ∧ (b - 1) * 2 ^ (p - 1) < fmg p b a)) (s1 : (xb_i h F 0 - 1).toInt = (p - 1 : Nat)) (p64 : p - 1 < 64) (bl : b * 2 ^ (p - 1) < 18446744073709551616)
    (hQ : ∀ r : Int64, r.toBitVec.toNat = frd p b w a → Qr r h) : w_Format_rounded_L78 Qr F x1 r9 y0 h := by
  have hs : fsg p b a = if r9 = 0 then 0 else fS p b := by
    unfold fsg
    by_cases h9 : a < fS p b
    · rw [if_pos h9, if_pos (c9.mpr h9)]
    · rw [if_neg h9, if_neg (fun h8 => h9 (c9.mp h8))]
  have lo := frd_lo (w := w) hb h0 h1
  have nb := Z_of32N (hf.pp hb).2.1
  unfold w_Format_rounded_L78 w_Format_rounded_L114
  have eq : (((w = 2 ∧ r9 = 0) ∨ (w = 3 ∧ r9 ≠ 0) ∨ (w ≠ 2 ∧ w ≠ 3 ∧ w ≠ 4 ∧ y0 ≠ 0))) ↔ ((w = 2 ∧ a < fS p b) ∨ (w = 3 ∧ ¬ a < fS p b) ∨ (w = 5 ∧ ffl p b a + 1 = b ∧ (b - 1) * 2 ^ (p - 1) < fmg p b a)) := by
    rw [hc, Ne, c9]
    clear lo hs hQ hc nb s1 bl
    constructor
    · rintro (t | t | ⟨t1, t2, t3, t4⟩)
      · exact .inl t
      · exact .inr (.inl t)
      · exact .inr (.inr ⟨by clear t4; omega, t4⟩)
    · rintro (t | t | ⟨t1, t4⟩)
      · exact .inl t
      · exact .inr (.inl t)
      · exact .inr (.inr ⟨by rw [t1]; decide, by rw [t1]; decide, by rw [t1]; decide, t4⟩)
  refine ex_isAway hw z9 hy (fun r2 c2 _ => ⟨fun e2 => ⟨hf.1, ex_signed (v := 0) hf hb rfl hs (fun r e _ => hQ _ ?_)⟩, fun e2 => ⟨hf.1, hf.1, ex_signed (v := b * 2 ^ (p - 1)) hf hb ?_ hs (fun r e _ => hQ _ ?_)⟩⟩)
  · rw [lo, if_neg (fun h9 => (c2.mp e2) (eq.mpr h9)), e]
  · rw [Z_shl s1 p64, nb, Nat.mod_eq_of_lt bl]
  · rw [lo, if_pos (eq.mp (Classical.byContradiction fun h9 => e2 (c2.mpr h9))), e]
theorem ex_rounded {x1 : Int32} {w : Nat} {Qr : Int64 → xb_H → Prop} (hf : fm h F τ) (hb : fpb τ p b) (hx : x.toBitVec.toNat = a) (wx : fW p b a) (hw : x1.toInt = w) (w2 : 2 ≤ w) (w5 : w ≤ 5) (hQ : ∀ r : Int64, r.toBitVec.toNat = frd p b w a → Qr r h) : w_Format_rounded F x1 x h Qr := by
  have m := hf.mg hb hx
  obtain ⟨b1, b2, b3, b4⟩ := hf.pp hb
  have hp : (p = 24 ∧ b = 127) ∨ (p = 53 ∧ b = 1023) := by unfold fpb at hb; omega
  obtain ⟨d1, d2, d3⟩ := ffl_d (a := a) hb
  have l1 := fmg_lt (a := a) hb
  have l2 := fS_le hb
  have s1 : (xb_i h F 0 - 1).toInt = (p - 1 : Nat) := by rw [z_sub, b1, show (1 : Int32).toInt = 1 from rfl]; omega
  have pT : 2 ^ (p - 1) ≤ 2 ^ 52 := Nat.pow_le_pow_right (by omega) (by omega)
  have stay : (fmg p b a = 0 ∨ b + (p - 1) ≤ ffl p b a) → Qr x h := fun hc => hQ _ (by
    unfold frd
    rw [if_pos, hx]
    rcases hc with c | c
    · exact .inr (.inl c)
    · refine .inr (.inr ?_)
      unfold fwt
      split <;> omega)
  unfold w_Format_rounded w_Format_rounded_L26
  refine ⟨hf.1, ex_power hf hb hx (fun r3 e3 _ => ⟨fun c3 => stay ?_, fun c3 => ex_isZero hf hb hx (fun r6 c6 _ => ⟨fun e6 => ex_isNeg hf hb hx wx (fun r9 z9 c9 _ => ⟨hf.1, fun _ => ⟨fun c0 v13 e13 v14 e14 v15 e15 => ?_, fun c0 => ?_⟩⟩), fun e6 => stay (.inl (Classical.byContradiction fun h9 => e6 (c6.mpr h9)))⟩)⟩)⟩
  · rw [z_le, s1, e3] at c3
    omega
  · rw [z_le, s1, e3] at c3
    rw [z_le, e3, show (0 : Int32).toInt = 0 from rfl] at c0
    have hs : fsg p b a = if r9 = 0 then 0 else fS p b := by
      unfold fsg
      by_cases h9 : a < fS p b
      · rw [if_pos h9, if_pos (c9.mpr h9)]
      · rw [if_neg h9, if_neg (fun h8 => h9 (c9.mp h8))]
    obtain ⟨d, hd⟩ : ∃ d : Nat, (d : Int) = (p - 1 : Nat) - (ffl p b a - b : Int) := ⟨p - 1 - (ffl p b a - b), by omega⟩
    have f13 : v13.toInt = d := by rw [e13, z_sub, s1, e3]; omega
    have f13' : (v13 - 1).toInt = (d - 1 : Nat) := by rw [z_sub, f13, show (1 : Int32).toInt = 1 from rfl]; omega
    have pd : 0 < 2 ^ d := Nat.pow_pos (by omega)
    have pd' : 0 < 2 ^ (d - 1) := Nat.pow_pos (by omega)
    have pe : 2 ^ d = 2 * 2 ^ (d - 1) := by rw [show 2 ^ d = 2 ^ (d - 1 + 1) by rw [Nat.sub_add_cancel (by omega)], Nat.pow_succ, Nat.mul_comm]
    have pm : 2 ^ d ≤ 2 ^ (p - 1) := Nat.pow_le_pow_right (by omega) (by omega)
    have k1 : (xb_lshl 1 v13).toBitVec.toNat = 2 ^ d := by
      rw [Z_shl f13 (by omega), show (1 : Int64).toBitVec.toNat = 1 from rfl, Nat.one_mul, Nat.mod_eq_of_lt (by omega)]
    have k2 : (xb_lshl 1 (v13 - 1)).toBitVec.toNat = 2 ^ (d - 1) := by
      rw [Z_shl f13' (by omega), show (1 : Int64).toBitVec.toNat = 1 from rfl, Nat.one_mul, Nat.mod_eq_of_lt (by omega)]
    have k3 : (xb_lshl 1 v13 - 1).toBitVec.toNat = 2 ^ d - 1 := by
      rw [Z_subN _ _ (by rw [k1]; exact pd), k1]
      rfl
    have n14 : v14.toBitVec.toNat = fmg p b a % 2 ^ d := by rw [e14, Z_and_mod _ d k3, m]
    have g3 := Nat.mod_le (fmg p b a) (2 ^ d)
    have n15 : v15.toBitVec.toNat = fmg p b a - fmg p b a % 2 ^ d := by rw [e15, Z_subN _ _ (by rw [m, n14]; exact g3), m, n14]
    have ml := Nat.mod_lt (fmg p b a) pd
    have bq : b ≤ ffl p b a := by omega
    have d0 : 1 ≤ d := by omega
    have pd9 : 2 ^ (d - 1) < 9223372036854775808 := Nat.lt_of_le_of_lt (Nat.le_trans (Nat.pow_le_pow_right (by decide) (Nat.sub_le d 1)) (Nat.le_trans pm pT)) (by decide)
    have mi := frd_mi (w := w) hb bq hd d0
    refine ⟨fun c14 v17 e17 => ?_, fun c14 => hQ _ ?_⟩
    · have r0 : fmg p b a % 2 ^ d ≠ 0 := fun h9 => c14 (Z_eqN.mpr (by rw [n14, h9]; rfl))
      have odd : (xb_lushr v15 v13 &&& 1) = (1 : Int64) ↔ fmg p b a / 2 ^ d % 2 = 1 := by
        have : (xb_lushr v15 v13 &&& 1).toBitVec.toNat = fmg p b a / 2 ^ d % 2 := by
          rw [Z_and, Z_ushr f13 (by omega), n15, show (1 : Int64).toBitVec.toNat = 1 from rfl, Nat.and_one_is_mod]
          congr 1
          have g1 := Nat.div_add_mod (fmg p b a) (2 ^ d)
          rw [show fmg p b a - fmg p b a % 2 ^ d = 2 ^ d * (fmg p b a / 2 ^ d) by omega, Nat.mul_div_cancel_left _ pd]
        rw [Z_eqN, this]
        rfl
      have L212 : ∀ y0 : Int32, (y0 = 0 ∨ y0 = 1) → (y0 ≠ 0 ↔ (2 ^ d < 2 * (fmg p b a % 2 ^ d) ∨ (2 * (fmg p b a % 2 ^ d) = 2 ^ d ∧ fmg p b a / 2 ^ d % 2 = 1))) → w_Format_rounded_L212 Qr F r9 v13 v15 y0 r9 x1 h := fun y0 hy hc => ex_rd_L212 hf hb hw w2 w5 z9 c9 bq hd d0 f13 n15 k1 r0 (Nat.le_trans pm pT) (Nat.lt_of_lt_of_le l1 l2) hy hc hQ
      have k14 : v14.toBitVec.toNat < 9223372036854775808 := by rw [n14]; exact Nat.lt_of_le_of_lt g3 (Nat.lt_of_lt_of_le l1 l2)
      have k17 : (xb_lshl 1 (v13 - 1)).toBitVec.toNat < 9223372036854775808 := by rw [k2]; exact pd9
      obtain ⟨D1, D2⟩ := nl_d (r := fmg p b a % 2 ^ d) pe
      have n17 : v17.toBitVec.toNat = 2 ^ (d - 1) := by rw [e17, k2]
      have L181 : ∀ y0 : Int32, (y0 = 0 ↔ ¬ fmg p b a / 2 ^ d % 2 = 1) → w_Format_rounded_L181 Qr F x1 r9 v13 v14 v15 v17 y0 h := by
        intro y0 hy
        unfold w_Format_rounded_L181 w_Format_rounded_L207 w_Format_rounded_L211
        rw [Z_ltN (by rw [e17]; exact k17) k14, Z_eqN, n14, n17, D1, D2]
        exact ⟨fun c => L212 1 (.inr rfl) ⟨fun _ => .inl c, fun _ => by decide⟩, fun c => ⟨fun c' => L212 0 (.inl rfl) ⟨fun h9 => absurd rfl h9, fun h9 => h9.elim (fun g => absurd g c) (fun g => absurd g.1 c')⟩, fun c' => ⟨fun c2 => L212 0 (.inl rfl) ⟨fun h9 => absurd rfl h9, fun h9 => h9.elim (fun g => absurd g c) (fun g => absurd g.2 (hy.mp c2))⟩, fun c2 => L212 1 (.inr rfl) ⟨fun _ => .inr ⟨c', Classical.byContradiction fun h9 => c2 (hy.mpr h9)⟩, fun _ => by decide⟩⟩⟩⟩
      exact ⟨fun c => L181 0 ⟨fun _ h9 => c (odd.mpr h9), fun _ => rfl⟩, fun c => L181 1 ⟨fun h9 => absurd h9 (by decide), fun h9 => absurd (odd.mp c) h9⟩⟩
    · have r0 : fmg p b a % 2 ^ d = 0 := by
        have := Z_eqN.mp c14
        rw [n14] at this
        exact this
      have n1 : ¬ ((w = 2 ∧ a < fS p b ∧ fmg p b a % 2 ^ d ≠ 0) ∨ (w = 3 ∧ ¬ a < fS p b ∧ fmg p b a % 2 ^ d ≠ 0) ∨ (w = 5 ∧ (2 ^ d < 2 * (fmg p b a % 2 ^ d) ∨ (2 * (fmg p b a % 2 ^ d) = 2 ^ d ∧ fmg p b a / 2 ^ d % 2 = 1)))) := by
        rw [r0]
        rintro (⟨-, -, h9⟩ | ⟨-, -, h9⟩ | ⟨-, h9 | ⟨h9, -⟩⟩) <;> omega
      rw [mi, if_neg n1, r0, Nat.sub_zero, Nat.add_zero, wx.or hb, hx]
  · rw [z_le, s1, e3] at c3
    rw [z_le, e3, show (0 : Int32).toInt = 0 from rfl] at c0
    have bl : b * 2 ^ (p - 1) ≤ 1023 * 2 ^ 52 := Nat.mul_le_mul (by omega) pT
    have bl2 : b * 2 ^ (p - 1) < 18446744073709551616 := Nat.lt_of_le_of_lt bl (by decide)
    have bl3 : (b - 1) * 2 ^ (p - 1) < 9223372036854775808 := Nat.lt_of_le_of_lt (Nat.le_trans (Nat.mul_le_mul_right _ (Nat.sub_le _ _)) bl) (by decide)
    have q1 : ffl p b a < b := by omega
    have q2 : p - 1 < 64 := by omega
    have L78 : ∀ y0 : Int32, (y0 = 0 ∨ y0 = 1) → (y0 ≠ 0 ↔ (ffl p b a + 1 = b ∧ (b - 1) * 2 ^ (p - 1) < fmg p b a)) → w_Format_rounded_L78 Qr F x1 r9 y0 h := fun y0 hy hc => ex_rd_L78 hf hb hw w2 w5 z9 c9 (c6.mp e6) q1 hy hc s1 q2 bl2 hQ
    have b1' : (xb_i h F 1 - 1).toInt = (b - 1 : Nat) := by rw [z_sub, b2, show (1 : Int32).toInt = 1 from rfl]; omega
    have nb : (xb_lshl (Int32.toInt64 (xb_i h F 1 - 1)) (xb_i h F 0 - 1)).toBitVec.toNat = (b - 1) * 2 ^ (p - 1) := by
      rw [Z_shl s1 q2, Z_of32N b1', Nat.mod_eq_of_lt (Nat.lt_trans bl3 (by decide))]
    have q3 : r3 = -1 ↔ ffl p b a + 1 = b := by
      rw [z_eq, e3, show (-1 : Int32).toInt = -1 from rfl]
      omega
    unfold w_Format_rounded_L77
    rw [q3, Z_leN (by rw [m]; exact Nat.lt_of_lt_of_le l1 l2) (by rw [nb]; exact bl3), m, nb, Nat.not_le]
    exact ⟨fun c => L78 0 (.inl rfl) ⟨fun h9 => absurd rfl h9, fun h9 => absurd h9.1 c⟩, fun c => ⟨fun c' => L78 0 (.inl rfl) ⟨fun h9 => absurd rfl h9, fun h9 => absurd h9.2 (Nat.not_lt.mpr c')⟩, fun c' => L78 1 (.inr rfl) ⟨fun _ => ⟨c, c'⟩, fun _ => by decide⟩⟩⟩
end FLF

-- floating point: to whole numbers, the class
/-- whether f / 2^d goes up; 2 not below, 3 not above, 4 toward 0, 5 the nearest -/
def fru (w d f : Nat) (pos : Prop) [Decidable pos] : Nat :=
  if (w = 2 ∧ pos ∧ f % 2 ^ d ≠ 0) ∨ (w = 3 ∧ ¬ pos ∧ f % 2 ^ d ≠ 0) ∨ (w = 5 ∧ (2 ^ d < 2 * (f % 2 ^ d) ∨ (2 * (f % 2 ^ d) = 2 ^ d ∧ f / 2 ^ d % 2 = 1))) then 1 else 0
def frd (p b w a : Nat) : Nat :=
  if fmg p b a = fI_ p b ∨ fmg p b a = 0 ∨ 0 ≤ fwt p b a then a
  else fsg p b a ||| (if fam p b a / 2 ^ (-(fwt p b a)).toNat + fru w (-(fwt p b a)).toNat (fam p b a) (a < fS p b) = 0 then 0 else rnF p b (fam p b a / 2 ^ (-(fwt p b a)).toNat + fru w (-(fwt p b a)).toNat (fam p b a) (a < fS p b)) 0)
section FLE
variable {h : xb_H} {F p b : Nat} {τ : Int} {x : Int64} {a : Nat}
theorem fW.or (hb : fpb τ p b) (ha : fW p b a) : fsg p b a ||| fmg p b a = a := by
  obtain ⟨k, e, -⟩ := hb.w
  have h1 := fW.d ha
  have h2 := fmg_lt (a := a) hb
  unfold fsg
  rw [e] at h1 h2 ⊢
  split
  · rename_i h3
    rw [if_pos h3] at h1
    rw [Nat.zero_or]
    omega
  · rename_i h3
    rw [if_neg h3] at h1
    have g := Nat.two_pow_add_eq_or_of_lt h2 1
    rw [Nat.mul_one] at g
    omega
theorem rnF_i {N t : Nat} (hb : fpb τ p b) (h1 : 2 ^ t ≤ N) (h2 : N ≤ 2 ^ (t + 1)) (ht : t + 1 ≤ p - 1) : rnF p b N 0 = N * 2 ^ (p - 1 - t) + (t + b - 1) * 2 ^ (p - 1) := by
  have hp : (p = 24 ∧ b = 127) ∨ (p = 53 ∧ b = 1023) := by unfold fpb at hb; omega
  rcases Nat.lt_or_ge N (2 ^ (t + 1)) with h3 | h3
  · have lg := log2_of h1 h3
    unfold rnF
    rw [lg, if_neg (by omega), if_pos (by omega), if_neg (by omega)]
    congr 2
    omega
  · have e : N = 2 ^ (t + 1) := by omega
    have lg : N.log2 = t + 1 := by rw [e]; exact Nat.log2_two_pow
    have e2 : N * 2 ^ (p - 1 - t) = 2 * 2 ^ (p - 1) := by
      rw [e, ← Nat.pow_add, show t + 1 + (p - 1 - t) = p - 1 + 1 by omega, Nat.pow_succ, Nat.mul_comm]
    have e3 : (if p - 1 ≤ N.log2 then rnk N (N.log2 - (p - 1)) else N * 2 ^ (p - 1 - N.log2)) = 2 ^ (p - 1) := by
      rw [lg]
      split
      · rename_i h4
        have e5 : t + 1 = p - 1 := by omega
        rw [show t + 1 - (p - 1) = 0 by omega, e]
        unfold rnk
        rw [Nat.pow_zero, Nat.div_one, Nat.mod_one, if_neg (by omega), e5]
        omega
      · rw [e, ← Nat.pow_add, show t + 1 + (p - 1 - (t + 1)) = p - 1 by omega]
    unfold rnF
    rw [e3, lg, if_neg (by omega), if_pos (by omega), e2, show ((0 : Int) + ((t + 1 : Nat) : Int) + b - 1).toNat = t + b - 1 + 1 by omega, Nat.succ_mul]
    omega
theorem ex_power {Qr : Int32 → xb_H → Prop} (hf : fm h F τ) (hb : fpb τ p b) (hx : x.toBitVec.toNat = a) (hQ : ∀ r : Int32, r.toInt = ffl p b a - b → Qr r h) : w_Format_power F x h Qr := by
  have m := hf.mg hb hx
  obtain ⟨b1, b2, b3, b4⟩ := hf.pp hb
  have hp : (p = 24 ∧ b = 127) ∨ (p = 53 ∧ b = 1023) := by unfold fpb at hb; omega
  have s1 : (xb_i h F 0 - 1).toInt = (p - 1 : Nat) := by rw [z_sub, b1, show (1 : Int32).toInt = 1 from rfl]; omega
  have fb : ffl p b a < 2 * b + 2 := by
    unfold ffl
    refine Nat.div_lt_of_lt_mul ?_
    have := fmg_lt (a := a) hb
    unfold fS at this
    rw [Nat.mul_comm]
    exact this
  unfold w_Format_power
  refine ⟨hf.1, hQ _ ?_⟩
  have c1 := Z_ushr (x := x &&& (xb_l h F 2 - 1)) s1 (by omega)
  rw [m] at c1
  have c2 := Z_nat (xb_lushr (x &&& (xb_l h F 2 - 1)) (xb_i h F 0 - 1))
  have c3 := Z_rg (xb_lushr (x &&& (xb_l h F 2 - 1)) (xb_i h F 0 - 1))
  have c4 : (xb_lushr (x &&& (xb_l h F 2 - 1)) (xb_i h F 0 - 1)).toBitVec.toNat = ffl p b a := c1
  have f3 : (Int64.toInt32 (xb_lushr (x &&& (xb_l h F 2 - 1)) (xb_i h F 0 - 1))).toInt = ffl p b a := by
    rw [z_of64]
    omega
  rw [z_sub, f3, b2]
  omega
theorem ex_isAway {w : Nat} {x1 ng nr : Int32} {Qr : Int32 → xb_H → Prop} (hw : x1.toInt = w) (hn : ng = 0 ∨ ng = 1) (hr : nr = 0 ∨ nr = 1) (hQ : ∀ r : Int32, (r = 0 ↔ ¬ ((w = 2 ∧ ng = 0) ∨ (w = 3 ∧ ng ≠ 0) ∨ (w ≠ 2 ∧ w ≠ 3 ∧ w ≠ 4 ∧ nr ≠ 0))) → Qr r h) : w_Format_isAway x1 ng nr h Qr := by
  have e2 : x1 = 2 ↔ w = 2 := by rw [z_eq, hw, show (2 : Int32).toInt = 2 from rfl]; omega
  have e3 : x1 = 3 ↔ w = 3 := by rw [z_eq, hw, show (3 : Int32).toInt = 3 from rfl]; omega
  have e4 : x1 = 4 ↔ w = 4 := by rw [z_eq, hw, show (4 : Int32).toInt = 4 from rfl]; omega
  unfold w_Format_isAway w_Format_isAway_L37
  rw [e2, e3, e4]
  refine ⟨fun h1 => ⟨fun h2 => ⟨.inl rfl, hQ _ ?_⟩, fun h2 => ⟨.inr rfl, hQ _ ?_⟩⟩, fun h1 => ⟨hn, hQ _ ?_⟩, fun h1 => hQ _ ?_, fun h1 h2 h3 => ⟨hr, hQ _ ?_⟩⟩
  · simp [h1, h2]
  · simp [h1, h2]
  · simp [h1]
  · simp [h1]
  · simp [h1, h2, h3]
end FLE

-- equality of class and reference, floating point: rounding
/-- N / 2^d to the nearest, of two the even one -/
def rnk (N d : Nat) : Nat := N / 2 ^ d + (if 2 ^ d < 2 * (N % 2 ^ d) ∨ (2 * (N % 2 ^ d) = 2 ^ d ∧ N / 2 ^ d % 2 = 1) then 1 else 0)
/-- of N * 2^e the nearest number's bits, without the sign; p bits, bias b -/
def rnF (p b N : Nat) (e : Int) : Nat :=
  if 2 * (b : Int) < e + N.log2 + b then (2 * b + 1) * 2 ^ (p - 1)
  else if 0 < e + (N.log2 : Int) + b then (if p - 1 ≤ N.log2 then rnk N (N.log2 - (p - 1)) else N * 2 ^ (p - 1 - N.log2)) + (e + N.log2 + b - 1).toNat * 2 ^ (p - 1)
  else if (0 : Int) ≤ 2 - e - b - p then rnk N (2 - e - b - p).toNat else N * 2 ^ (e + b + p - 2).toNat
section FL1
variable {h : xb_H} {F : Nat} {τ : Int}
theorem rnk_sc (N d u : Nat) : rnk (N * 2 ^ u) (d + u) = rnk N d := by
  have h1 : 0 < 2 ^ u := Nat.pow_pos (by omega)
  have e1 : 2 ^ (d + u) = 2 ^ d * 2 ^ u := Nat.pow_add 2 d u
  have e2 : N * 2 ^ u / (2 ^ d * 2 ^ u) = N / 2 ^ d := Nat.mul_div_mul_right _ _ h1
  have e3 : N * 2 ^ u % (2 ^ d * 2 ^ u) = N % 2 ^ d * 2 ^ u := Nat.mul_mod_mul_right _ _ _
  have c1 : 2 ^ d * 2 ^ u < 2 * (N % 2 ^ d * 2 ^ u) ↔ 2 ^ d < 2 * (N % 2 ^ d) := by
    rw [← Nat.mul_assoc]
    exact Nat.mul_lt_mul_right h1
  have c2 : 2 * (N % 2 ^ d * 2 ^ u) = 2 ^ d * 2 ^ u ↔ 2 * (N % 2 ^ d) = 2 ^ d := by
    rw [← Nat.mul_assoc]
    exact Nat.mul_left_inj (by omega)
  unfold rnk
  rw [e1, e2, e3]
  simp only [c1, c2]
theorem rnk_z {N d : Nat} (hN : 2 * N < 2 ^ d) : rnk N d = 0 := by
  unfold rnk
  rw [Nat.div_eq_of_lt (by omega), Nat.mod_eq_of_lt (by omega), if_neg (by omega)]
theorem rnk_mul (N d : Nat) : rnk (N * 2 ^ d) d = N := by
  have h1 : 0 < 2 ^ d := Nat.pow_pos (by omega)
  unfold rnk
  rw [Nat.mul_div_cancel _ h1, Nat.mul_mod_left, if_neg (by omega)]
  rfl
theorem Z_subN (a b : Int64) (h : b.toBitVec.toNat ≤ a.toBitVec.toNat) : (a - b).toBitVec.toNat = a.toBitVec.toNat - b.toBitVec.toNat := by
  have h1 := a.toBitVec.isLt
  rw [Int64.toBitVec_sub, BitVec.toNat_sub]
  omega
theorem Z_ltN {a b : Int64} (ha : a.toBitVec.toNat < 9223372036854775808) (hb : b.toBitVec.toNat < 9223372036854775808) : a < b ↔ a.toBitVec.toNat < b.toBitVec.toNat := by
  have h1 := Z_nat a
  have h2 := Z_nat b
  have h3 := Z_rg a
  have h4 := Z_rg b
  rw [Z_lt]
  omega
theorem Z_eqN {a b : Int64} : a = b ↔ a.toBitVec.toNat = b.toBitVec.toNat := by
  have h1 := Z_nat a
  have h2 := Z_nat b
  have h3 := Z_rg a
  have h4 := Z_rg b
  rw [Z_eq]
  omega
/-- one step of counting zeros -/
theorem zx_step {m n c : Nat} {x5 x5' : Int32} {x0 : Int64} {Qr : Int32 → xb_H → Prop} (h1 : ¬ x5 ≤ 0) (h2 : x5 >>> (1 &&& 31) = x5') (h3 : x5.toInt = c) (hc : 0 < c ∧ c ≤ 32)
    (hn : ∀ (x2 : Int64) (x4 : Int32) (k : Nat), x2.toBitVec.toNat = n * 2 ^ k → x4.toInt = k → k + c ≤ 64 → 2 ^ (64 - c) ≤ n * 2 ^ k → w_Whole_zerosAbove_L9 Qr m x0 x2 x4 x5' h)
    (x2 : Int64) (x4 : Int32) (k : Nat) (e2 : x2.toBitVec.toNat = n * 2 ^ k) (e4 : x4.toInt = k) (hk : k + 2 * c ≤ 64) (hh : 2 ^ (64 - 2 * c) ≤ n * 2 ^ k) : w_Whole_zerosAbove_L9 Qr (m + 1) x0 x2 x4 x5 h := by
  have s1 : (64 - x5).toInt = (64 - c : Nat) := by rw [z_sub, h3, show (64 : Int32).toInt = 64 from rfl]; omega
  have s2 := Z_ushr (x := x2) s1 (by omega)
  unfold w_Whole_zerosAbove_L9 w_Whole_zerosAbove_L38
  refine ⟨fun e => absurd e h1, fun _ => ⟨fun e v1 e1 => ?_, fun e v4 e4' v5 e5 v1 e1 => ?_⟩⟩
  · rw [e1, h2]
    refine hn x2 x4 k e2 e4 (by omega) ?_
    rw [Z_eqN, s2, show (0 : Int64).toBitVec.toNat = 0 from rfl, e2] at e
    exact Nat.le_of_not_lt (fun h9 => e (Nat.div_eq_of_lt h9))
  · rw [Z_eqN, s2, show (0 : Int64).toBitVec.toNat = 0 from rfl, e2] at e
    have hp : 0 < 2 ^ (64 - c) := Nat.pow_pos (by omega)
    have h9 : n * 2 ^ k < 2 ^ (64 - c) := (Nat.div_eq_zero_iff.mp e).resolve_left (by omega)
    have e64 : 2 ^ (64 - c) * 2 ^ c = 18446744073709551616 := by
      rw [← Nat.pow_add, Nat.sub_add_cancel (by omega)]
    have e6 : n * 2 ^ (k + c) = n * 2 ^ k * 2 ^ c := by rw [Nat.pow_add, Nat.mul_assoc]
    have hp2 : 0 < 2 ^ c := Nat.pow_pos (by omega)
    have h8 : n * 2 ^ k * 2 ^ c < 18446744073709551616 := by
      rw [← e64]
      exact Nat.mul_lt_mul_of_pos_right h9 hp2
    rw [e1, h2]
    refine hn v4 v5 (k + c) ?_ ?_ (by omega) ?_
    · rw [e4', Z_shl h3 (by omega), e2, Nat.mod_eq_of_lt h8, e6]
    · rw [e5, z_add, e4, h3]
      omega
    · rw [e6]
      have : 2 ^ (64 - c) = 2 ^ (64 - 2 * c) * 2 ^ c := by
        rw [← Nat.pow_add]
        congr 1
        omega
      rw [this]
      exact Nat.mul_le_mul_right _ hh
theorem ex_zerosAbove {x : Int64} {n : Nat} {Qr : Int32 → xb_H → Prop} (hx : x.toBitVec.toNat = n) (h0 : 0 < n) (hQ : ∀ (r : Int32) (k : Nat), r.toInt = k → k ≤ 63 → 9223372036854775808 ≤ n * 2 ^ k → n * 2 ^ k < 18446744073709551616 → Qr r h) : w_Whole_zerosAbove x h Qr := by
  have fin : ∀ (x2 : Int64) (x4 : Int32) (k : Nat), x2.toBitVec.toNat = n * 2 ^ k → x4.toInt = k → k + 1 ≤ 64 → 2 ^ (64 - 1) ≤ n * 2 ^ k → w_Whole_zerosAbove_L9 Qr 1 x x2 x4 0 h := by
    intro x2 x4 k e2 e4 hk hh
    unfold w_Whole_zerosAbove_L9 w_Whole_zerosAbove_L60
    refine ⟨fun _ => ⟨fun _ => hQ _ k e4 (by omega) hh (by rw [← e2]; exact x2.toBitVec.isLt), fun e => ?_⟩, fun e => absurd (show (0 : Int32) ≤ 0 by decide) e⟩
    rw [Z_eqN, hx, show (0 : Int64).toBitVec.toNat = 0 from rfl] at e
    omega
  unfold w_Whole_zerosAbove
  refine ⟨7, ?_⟩
  exact zx_step (n := n) (c := 32) (x5' := 16) (by decide) (by decide) rfl (by omega) (zx_step (n := n) (c := 16) (x5' := 8) (by decide) (by decide) rfl (by omega) (zx_step (n := n) (c := 8) (x5' := 4) (by decide) (by decide) rfl (by omega) (zx_step (n := n) (c := 4) (x5' := 2) (by decide) (by decide) rfl (by omega) (zx_step (n := n) (c := 2) (x5' := 1) (by decide) (by decide) rfl (by omega) (zx_step (n := n) (c := 1) (x5' := 0) (by decide) (by decide) rfl (by omega) fin))))) x 0 0 (by rw [hx, Nat.pow_zero, Nat.mul_one]) rfl (by omega) (by rw [Nat.pow_zero, Nat.mul_one]; exact h0)
end FL1

-- equality, floating point: what a rounding does not see
section FL3
variable {p b : Nat} {τ : Int}
theorem log2_b {N : Nat} (h : 0 < N) : 2 ^ N.log2 ≤ N ∧ N < 2 ^ (N.log2 + 1) := by
  have h0 : N ≠ 0 := by omega
  exact ⟨(Nat.le_log2 h0).mp (Nat.le_refl _), (Nat.log2_lt h0).mp (Nat.lt_succ_self _)⟩
theorem log2_sc {N j : Nat} (h : 0 < N) : (N * 2 ^ j).log2 = N.log2 + j := by
  obtain ⟨h1, h2⟩ := log2_b h
  have hp : 0 < 2 ^ j := Nat.pow_pos (by omega)
  refine log2_of ?_ ?_
  · rw [Nat.pow_add]
    exact Nat.mul_le_mul_right _ h1
  · rw [show N.log2 + j + 1 = N.log2 + 1 + j by omega, Nat.pow_add]
    exact Nat.mul_lt_mul_of_pos_right h2 hp
theorem rnF_sc {N j : Nat} {e : Int} (h : 0 < N) : rnF p b (N * 2 ^ j) (e - j) = rnF p b N e := by
  have hl := log2_sc (j := j) h
  have e1 : e - (j : Int) + ((N.log2 + j : Nat) : Int) + b = e + N.log2 + b := by omega
  unfold rnF
  rw [hl, e1]
  split
  · rfl
  · split
    · congr 1
      by_cases h1 : p - 1 ≤ N.log2
      · rw [if_pos h1, if_pos (by omega), show N.log2 + j - (p - 1) = N.log2 - (p - 1) + j by omega, rnk_sc]
      · rw [if_neg h1]
        by_cases h2 : p - 1 ≤ N.log2 + j
        · rw [if_pos h2]
          have h3 : N * 2 ^ j = N * 2 ^ (p - 1 - N.log2) * 2 ^ (N.log2 + j - (p - 1)) := by
            rw [Nat.mul_assoc, ← Nat.pow_add]
            congr 2
            omega
          rw [h3, rnk_mul]
        · rw [if_neg h2, Nat.mul_assoc, ← Nat.pow_add]
          congr 2
          omega
    · by_cases h1 : (0 : Int) ≤ 2 - e - b - p
      · rw [if_pos h1, if_pos (by omega), show (2 - (e - (j : Int)) - b - p).toNat = (2 - e - b - p).toNat + j by omega, rnk_sc]
      · rw [if_neg h1]
        by_cases h2 : (0 : Int) ≤ 2 - (e - (j : Int)) - b - p
        · rw [if_pos h2]
          have h3 : N * 2 ^ j = N * 2 ^ (e + b + p - 2).toNat * 2 ^ (2 - (e - (j : Int)) - b - p).toNat := by
            rw [Nat.mul_assoc, ← Nat.pow_add]
            congr 2
            omega
          rw [h3, rnk_mul]
        · rw [if_neg h2, Nat.mul_assoc, ← Nat.pow_add]
          congr 2
          omega
/-- N without its last j bits; its last bit is 1 if one of these was -/
def stk (N j : Nat) : Nat := if N % 2 ^ j = 0 then N / 2 ^ j else N / 2 ^ j / 2 * 2 + 1
theorem stk_dm {N j : Nat} : stk N j / 2 = N / 2 ^ j / 2 ∧ (N % 2 ^ j = 0 → stk N j = N / 2 ^ j) ∧ (N % 2 ^ j ≠ 0 → stk N j % 2 = 1) := by
  unfold stk
  split <;> omega
theorem rnk_st {N j d : Nat} (hd : 2 ≤ d) : rnk (stk N j) d = rnk N (d + j) := by
  obtain ⟨s1, s2, s3⟩ := stk_dm (N := N) (j := j)
  obtain ⟨d', rfl⟩ : ∃ d', d = d' + 2 := ⟨d - 2, by omega⟩
  generalize stk N j = S at *
  have ej : 2 ^ (d' + 2 + j) = 2 ^ j * 2 ^ (d' + 2) := by rw [← Nat.pow_add, Nat.add_comm j]
  have hj : 0 < 2 ^ j := Nat.pow_pos (by omega)
  have e1 : N / 2 ^ (d' + 2 + j) = N / 2 ^ j / 2 ^ (d' + 2) := by rw [ej, Nat.div_div_eq_div_mul]
  have e2 : N % 2 ^ (d' + 2 + j) = N % 2 ^ j + 2 ^ j * (N / 2 ^ j % 2 ^ (d' + 2)) := by rw [ej, Nat.mod_mul]
  have ed : 2 ^ (d' + 2) = 2 * (2 * 2 ^ d') := by rw [Nat.pow_add, Nat.mul_comm (2 ^ d')]; show 2 * 2 * _ = _; rw [Nat.mul_assoc]
  have q1 : S / 2 ^ (d' + 2) = N / 2 ^ j / 2 ^ (d' + 2) := by
    rw [ed, ← Nat.div_div_eq_div_mul S 2, ← Nat.div_div_eq_div_mul (N / 2 ^ j) 2, s1]
  have rl : N % 2 ^ j < 2 ^ j := Nat.mod_lt _ hj
  generalize N % 2 ^ j = r at *
  generalize N / 2 ^ j = q at *
  have m1 : S % 2 ^ (d' + 2) / 2 = q % 2 ^ (d' + 2) / 2 := by
    have a1 := Nat.div_add_mod S (2 ^ (d' + 2))
    have a2 := Nat.div_add_mod q (2 ^ (d' + 2))
    rw [q1] at a1
    rw [ed] at a1 a2 ⊢
    generalize q / (2 * (2 * 2 ^ d')) = Y at *
    generalize S % (2 * (2 * 2 ^ d')) = A at *
    generalize q % (2 * (2 * 2 ^ d')) = B at *
    have a3 : 2 * (2 * 2 ^ d') * Y = 2 * (2 * 2 ^ d' * Y) := by rw [Nat.mul_assoc]
    rw [a3] at a1 a2
    omega
  have m2 : S % 2 ^ (d' + 2) % 2 = S % 2 := by
    rw [ed]
    exact Nat.mod_mul_right_mod _ _ _
  have m3 : q % 2 ^ (d' + 2) % 2 = q % 2 := by
    rw [ed]
    exact Nat.mod_mul_right_mod _ _ _
  unfold rnk
  rw [e1, e2, q1]
  congr 1
  have key : (2 ^ (d' + 2) < 2 * (S % 2 ^ (d' + 2)) ↔ 2 ^ (d' + 2 + j) < 2 * (r + 2 ^ j * (q % 2 ^ (d' + 2)))) ∧ (2 * (S % 2 ^ (d' + 2)) = 2 ^ (d' + 2) ↔ 2 * (r + 2 ^ j * (q % 2 ^ (d' + 2))) = 2 ^ (d' + 2 + j)) := by
    have ej2 : 2 ^ (d' + 2 + j) = 2 * (2 ^ j * (2 * 2 ^ d')) := by
      rw [ej, ed, Nat.mul_left_comm]
    rw [ej2, ed]
    rw [ed] at m1 m2 m3
    generalize S % (2 * (2 * 2 ^ d')) = A at *
    generalize q % (2 * (2 * 2 ^ d')) = B at *
    generalize 2 ^ d' = Hh at *
    rcases Nat.lt_trichotomy B (2 * Hh) with c | c | c
    · have : 2 ^ j * (B + 1) ≤ 2 ^ j * (2 * Hh) := Nat.mul_le_mul_left _ c
      rw [Nat.mul_add, Nat.mul_one] at this
      generalize 2 ^ j * (2 * Hh) = Z at *
      generalize 2 ^ j * B = X at *
      have : A < 2 * Hh := by omega
      omega
    · rw [c]
      generalize 2 ^ j * (2 * Hh) = Z at *
      by_cases hr : r = 0
      · have := s2 hr
        omega
      · have := s3 hr
        omega
    · have : 2 ^ j * (2 * Hh + 1) ≤ 2 ^ j * B := Nat.mul_le_mul_left _ c
      rw [Nat.mul_add, Nat.mul_one] at this
      generalize 2 ^ j * (2 * Hh) = Z at *
      generalize 2 ^ j * B = X at *
      have : 2 * Hh < A := by
        by_cases hr : r = 0
        · have := s2 hr
          omega
        · have := s3 hr
          omega
      omega
  simp only [key.1, key.2]
theorem stk_log {N j : Nat} (h : 2 ≤ N / 2 ^ j) : (stk N j).log2 = (N / 2 ^ j).log2 ∧ 0 < stk N j := by
  obtain ⟨s1, s2, s3⟩ := stk_dm (N := N) (j := j)
  obtain ⟨h1, h2⟩ := log2_b (N := N / 2 ^ j) (by omega)
  have hl : 1 ≤ (N / 2 ^ j).log2 := (Nat.le_log2 (by omega)).mpr h
  obtain ⟨t, ht⟩ : ∃ t, (N / 2 ^ j).log2 = t + 1 := ⟨_, (Nat.sub_add_cancel hl).symm⟩
  rw [ht] at h1 h2 ⊢
  refine ⟨log2_of ?_ ?_, by omega⟩
  · rw [Nat.pow_succ] at h1 ⊢
    omega
  · rw [Nat.pow_succ] at h2 ⊢
    omega
/-- a number that is long enough is rounded as it is without its last bits -/
theorem rnF_st {N j : Nat} {e : Int} (hb : fpb τ p b) (h : 2 ^ (p + 1) ≤ N / 2 ^ j) : rnF p b (stk N j) (e + j) = rnF p b N e := by
  have hp : (p = 24 ∧ b = 127) ∨ (p = 53 ∧ b = 1023) := by unfold fpb at hb; omega
  have h2 : 2 ≤ N / 2 ^ j := by
    have : 2 ^ 1 ≤ 2 ^ (p + 1) := Nat.pow_le_pow_right (by omega) (by omega)
    omega
  have hj : 0 < 2 ^ j := Nat.pow_pos (by omega)
  obtain ⟨l1, l2⟩ := stk_log h2
  have lq : p + 1 ≤ (N / 2 ^ j).log2 := (Nat.le_log2 (by omega)).mpr h
  have lN : N.log2 = (N / 2 ^ j).log2 + j := by
    obtain ⟨a1, a2⟩ := log2_b (N := N / 2 ^ j) (by omega)
    have c1 := Nat.div_add_mod N (2 ^ j)
    have c2 := Nat.mod_lt N hj
    refine log2_of ?_ ?_
    · rw [Nat.pow_add, Nat.mul_comm]
      have := Nat.mul_le_mul_left (2 ^ j) a1
      omega
    · rw [show (N / 2 ^ j).log2 + j + 1 = j + ((N / 2 ^ j).log2 + 1) by omega, Nat.pow_add]
      have := Nat.mul_le_mul_left (2 ^ j) (Nat.succ_le_of_lt a2)
      rw [Nat.succ_eq_add_one, Nat.mul_add, Nat.mul_one] at this
      omega
  generalize (N / 2 ^ j).log2 = t at *
  have e1 : e + (j : Int) + t + b = e + ((t + j : Nat) : Int) + b := by omega
  unfold rnF
  rw [l1, lN, e1]
  split
  · rfl
  · split
    · rw [if_pos (by omega), if_pos (by omega), rnk_st (by omega), show t - (p - 1) + j = t + j - (p - 1) by omega]
    · rw [if_pos (by omega), if_pos (by omega), rnk_st (by omega)]
      congr 1
      omega
end FL3

-- equality, floating point: sums, of natural numbers
section FL5
variable {p b : Nat} {τ : Int}
theorem rnF_stk {N j : Nat} {e : Int} (hb : fpb τ p b) (h0 : 0 < N) (h : N % 2 ^ j = 0 ∨ 2 ^ (p + 1) ≤ N / 2 ^ j) : rnF p b (stk N j) (e + j) = rnF p b N e := by
  rcases h with h | h
  · have e1 : N / 2 ^ j * 2 ^ j = N := Nat.div_mul_cancel (Nat.dvd_of_mod_eq_zero h)
    have e2 : stk N j = N / 2 ^ j := stk_dm.2.1 h
    have h1 : 0 < N / 2 ^ j := by
      rcases Nat.eq_zero_or_pos (N / 2 ^ j) with h9 | h9
      · rw [h9, Nat.zero_mul] at e1
        omega
      · exact h9
    have := rnF_sc (p := p) (b := b) (j := j) (e := e + j) h1
    rw [e1, show e + (j : Int) - j = e by omega] at this
    rw [e2, ← this]
  · exact rnF_st hb h
theorem stk_0 {N : Nat} : stk N 0 = N := by
  unfold stk
  rw [Nat.pow_zero, Nat.mod_one, if_pos rfl, Nat.div_one]
theorem stk_le {N j : Nat} : stk N j ≤ N / 2 ^ j + 1 := by
  obtain ⟨h1, h2, h3⟩ := stk_dm (N := N) (j := j)
  unfold stk
  split <;> omega
/-- two numbers of p bits, in their places -/
theorem sum_core {up ma mb j : Nat} {e : Int} (hb : fpb τ p b) (hup : up = 62 - p) (a1 : 2 ^ (p - 1) ≤ ma) (a2 : ma < 2 ^ p) (b1 : 2 ^ (p - 1) ≤ mb) (b2 : mb < 2 ^ p) :
    (rnF p b (ma * 2 ^ up + stk (mb * 2 ^ up) j) (e + j) = rnF p b (ma * 2 ^ up * 2 ^ j + mb * 2 ^ up) e) ∧
    (mb * 2 ^ up < ma * 2 ^ up * 2 ^ j → stk (mb * 2 ^ up) j < ma * 2 ^ up ∧ rnF p b (ma * 2 ^ up - stk (mb * 2 ^ up) j) (e + j) = rnF p b (ma * 2 ^ up * 2 ^ j - mb * 2 ^ up) e) ∧
    (ma * 2 ^ up * 2 ^ j ≤ mb * 2 ^ up → j = 0) ∧ 0 < stk (mb * 2 ^ up) j ∧ stk (mb * 2 ^ up) j < 4611686018427387904 := by
  have hp : (p = 24 ∧ b = 127) ∨ (p = 53 ∧ b = 1023) := by unfold fpb at hb; omega
  have e61 : 2 ^ (p - 1) * 2 ^ up = 2305843009213693952 := by rw [← Nat.pow_add, show p - 1 + up = 61 by omega]
  have e62 : 2 ^ p * 2 ^ up = 4611686018427387904 := by rw [← Nat.pow_add, show p + up = 62 by omega]
  have hu : 0 < 2 ^ up := Nat.pow_pos (by omega)
  have hj : 0 < 2 ^ j := Nat.pow_pos (by omega)
  have A1 := Nat.mul_le_mul_right (2 ^ up) a1
  have A2 := Nat.mul_lt_mul_of_pos_right a2 hu
  have B1 := Nat.mul_le_mul_right (2 ^ up) b1
  have B2 := Nat.mul_lt_mul_of_pos_right b2 hu
  rw [e61] at A1 B1
  rw [e62] at A2 B2
  have ev : ma * 2 ^ up % 2 = 0 := by
    rw [show up = up - 1 + 1 by omega, Nat.pow_succ, ← Nat.mul_assoc]
    exact Nat.mul_mod_left _ _
  have pw : 2 ^ (p + 1) ≤ 18014398509481984 := by
    have : 2 ^ (p + 1) ≤ 2 ^ 54 := Nat.pow_le_pow_right (by omega) (by omega)
    omega
  -- what is lost
  have lost : mb * 2 ^ up % 2 ^ j ≠ 0 → mb * 2 ^ up / 2 ^ j < 4503599627370496 := by
    intro h9
    have : up < j := Classical.byContradiction fun h8 => by
      apply h9
      have : 2 ^ up = 2 ^ (up - j) * 2 ^ j := by rw [← Nat.pow_add, Nat.sub_add_cancel (by omega)]
      rw [this, ← Nat.mul_assoc]
      exact Nat.mul_mod_left _ _
    have h7 : 2 ^ 10 ≤ 2 ^ j := Nat.pow_le_pow_right (by omega) (by omega)
    refine Nat.div_lt_of_lt_mul ?_
    have : 2 ^ 10 * 4503599627370496 ≤ 2 ^ j * 4503599627370496 := Nat.mul_le_mul_right _ h7
    omega
  generalize ma * 2 ^ up = a at *
  generalize mb * 2 ^ up = c at *
  have jz : a * 2 ^ j ≤ c → j = 0 := fun h9 => Classical.byContradiction fun h8 => by
    have : 2 ^ 1 ≤ 2 ^ j := Nat.pow_le_pow_right (by omega) (by omega)
    have : a * 2 ^ 1 ≤ a * 2 ^ j := Nat.mul_le_mul_left _ this
    omega
  have dm := Nat.div_add_mod c (2 ^ j)
  have ml := Nat.mod_lt c hj
  have sc : ∀ q r, r < 2 ^ j → (q * 2 ^ j + r) / 2 ^ j = q ∧ (q * 2 ^ j + r) % 2 ^ j = r := fun q r hr => by
    refine ⟨?_, ?_⟩
    · rw [Nat.mul_comm, Nat.mul_add_div hj, Nat.div_eq_of_lt hr, Nat.add_zero]
    · rw [Nat.mul_comm, Nat.mul_add_mod, Nat.mod_eq_of_lt hr]
  have ql : c / 2 ^ j ≤ c := Nat.div_le_self _ _
  have j1 : j ≠ 0 → c / 2 ^ j < 2305843009213693952 := fun h8 => by
    have : 2 ^ 1 ≤ 2 ^ j := Nat.pow_le_pow_right (by omega) (by omega)
    refine Nat.div_lt_of_lt_mul ?_
    have : 2 ^ 1 * 2305843009213693952 ≤ 2 ^ j * 2305843009213693952 := Nat.mul_le_mul_right _ this
    omega
  obtain ⟨t1, t2, t3⟩ := stk_dm (N := c) (j := j)
  refine ⟨?_, fun hlt => ?_, jz, ?_, ?_⟩
  · have N1 : a * 2 ^ j + c = (a + c / 2 ^ j) * 2 ^ j + c % 2 ^ j := by
      rw [Nat.add_mul, Nat.mul_comm (c / 2 ^ j)]
      omega
    obtain ⟨s1, s2⟩ := sc (a + c / 2 ^ j) (c % 2 ^ j) ml
    rw [← N1] at s1 s2
    have : stk (a * 2 ^ j + c) j = a + stk c j := by
      obtain ⟨r1, r2, r3⟩ := stk_dm (N := a * 2 ^ j + c) (j := j)
      rw [s1] at r1 r2
      rw [s2] at r2 r3
      by_cases h9 : c % 2 ^ j = 0
      · rw [r2 h9, t2 h9]
      · have := r3 h9
        have := t3 h9
        omega
    rw [← this]
    exact rnF_stk hb (by omega) (.inr (by rw [s1]; omega))
  · by_cases h9 : c % 2 ^ j = 0
    · have qa : c / 2 ^ j < a := by
        rw [h9, Nat.add_zero, Nat.mul_comm] at dm
        rw [← dm] at hlt
        exact Nat.lt_of_mul_lt_mul_right hlt
      have N1 : a * 2 ^ j - c = (a - c / 2 ^ j) * 2 ^ j + 0 := by
        rw [Nat.sub_mul, Nat.add_zero]
        rw [h9, Nat.add_zero, Nat.mul_comm] at dm
        rw [dm]
      obtain ⟨s1, s2⟩ := sc (a - c / 2 ^ j) 0 hj
      rw [← N1] at s1 s2
      have : stk (a * 2 ^ j - c) j = a - stk c j := by
        rw [stk_dm.2.1 s2, s1, t2 h9]
      refine ⟨by rw [t2 h9]; exact qa, ?_⟩
      rw [← this]
      exact rnF_stk hb (by omega) (.inl s2)
    · have l1 := lost h9
      have N1 : a * 2 ^ j - c = (a - c / 2 ^ j - 1) * 2 ^ j + (2 ^ j - c % 2 ^ j) := by
        have x1 : a = a - c / 2 ^ j - 1 + (c / 2 ^ j + 1) := by omega
        have x2 : a * 2 ^ j = (a - c / 2 ^ j - 1) * 2 ^ j + (c / 2 ^ j + 1) * 2 ^ j := by rw [← Nat.add_mul, ← x1]
        rw [Nat.add_mul, Nat.one_mul, Nat.mul_comm (c / 2 ^ j)] at x2
        omega
      obtain ⟨s1, s2⟩ := sc (a - c / 2 ^ j - 1) (2 ^ j - c % 2 ^ j) (by omega)
      rw [← N1] at s1 s2
      have t3' := t3 h9
      have : stk (a * 2 ^ j - c) j = a - stk c j := by
        obtain ⟨r1, r2, r3⟩ := stk_dm (N := a * 2 ^ j - c) (j := j)
        have := r3 (by rw [s2]; omega)
        rw [s1] at r1
        omega
      refine ⟨by omega, ?_⟩
      rw [← this]
      exact rnF_stk hb (by omega) (.inr (by rw [s1]; omega))
  · by_cases h9 : c % 2 ^ j = 0
    · rw [t2 h9]
      rcases Nat.eq_zero_or_pos (c / 2 ^ j) with h8 | h8
      · rw [h8, h9] at dm
        omega
      · exact h8
    · have := t3 h9
      omega
  · by_cases h8 : j = 0
    · rw [h8, stk_0]
      exact B2
    · have := j1 h8
      have := stk_le (N := c) (j := j)
      omega
end FL5

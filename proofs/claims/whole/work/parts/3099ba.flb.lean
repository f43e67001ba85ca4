-- equality, floating point: square roots, of natural numbers
def isq : Nat → Nat
  | 0 => 0
  | X + 1 => if (isq X + 1) * (isq X + 1) ≤ X + 1 then isq X + 1 else isq X
/-- twice the root, one more if something is left -/
def sqS (X : Nat) : Nat := 2 * isq X + (if isq X * isq X = X then 0 else 1)
section FLB
variable {p b : Nat} {τ : Int}
theorem sq_s (r : Nat) : (r + 1) * (r + 1) = r * r + 2 * r + 1 := by
  rw [Nat.add_mul, Nat.mul_add, Nat.one_mul, Nat.mul_one]
  omega
theorem isq_s : ∀ X : Nat, isq X * isq X ≤ X ∧ X < (isq X + 1) * (isq X + 1)
  | 0 => ⟨Nat.le_refl _, Nat.one_pos⟩
  | X + 1 => by
    obtain ⟨h1, h2⟩ := isq_s X
    unfold isq
    split
    · rename_i h3
      refine ⟨h3, ?_⟩
      have := sq_s (isq X + 1)
      omega
    · exact ⟨by omega, by omega⟩
theorem sq_le {a c : Nat} (h : a * a ≤ c * c) : a ≤ c := Classical.byContradiction fun h9 => by
  have := Nat.mul_self_lt_mul_self (Nat.lt_of_not_le h9)
  omega
theorem sq_lt {a c : Nat} (h : a * a < c * c) : a < c := Classical.byContradiction fun h9 => by
  have := Nat.mul_self_le_mul_self (Nat.le_of_not_lt h9)
  omega
theorem isq_u {X r : Nat} (h1 : r * r ≤ X) (h2 : X < (r + 1) * (r + 1)) : isq X = r := by
  obtain ⟨a1, a2⟩ := isq_s X
  have c1 : r < isq X + 1 := sq_lt (by omega)
  have c2 : isq X < r + 1 := sq_lt (by omega)
  omega
theorem stk_two {Q i g : Nat} (hg : g < 2 * 2 ^ i) : stk (2 * Q * 2 ^ i + g) i = 2 * Q + (if g = 0 then 0 else 1) := by
  have hi : 0 < 2 ^ i := Nat.pow_pos (by omega)
  obtain ⟨t1, t2, t3⟩ := stk_dm (N := 2 * Q * 2 ^ i + g) (j := i)
  rcases Nat.lt_or_ge g (2 ^ i) with h9 | h9
  · have a1 : (2 * Q * 2 ^ i + g) / 2 ^ i = 2 * Q := by rw [Nat.mul_comm (2 * Q), Nat.mul_add_div hi, Nat.div_eq_of_lt h9, Nat.add_zero]
    have a2 : (2 * Q * 2 ^ i + g) % 2 ^ i = g := by rw [Nat.mul_comm (2 * Q), Nat.mul_add_mod, Nat.mod_eq_of_lt h9]
    rw [a1] at t1 t2
    rw [a2] at t2 t3
    by_cases h8 : g = 0
    · rw [t2 h8, if_pos h8, Nat.add_zero]
    · have := t3 h8
      rw [if_neg h8]
      omega
  · have e2 : 2 * Q * 2 ^ i + g = (2 * Q + 1) * 2 ^ i + (g - 2 ^ i) := by rw [Nat.add_mul, Nat.one_mul]; omega
    have a1 : (2 * Q * 2 ^ i + g) / 2 ^ i = 2 * Q + 1 := by rw [e2, Nat.mul_comm (2 * Q + 1), Nat.mul_add_div hi, Nat.div_eq_of_lt (by omega), Nat.add_zero]
    have a2 : (2 * Q * 2 ^ i + g) % 2 ^ i = g - 2 ^ i := by rw [e2, Nat.mul_comm (2 * Q + 1), Nat.mul_add_mod, Nat.mod_eq_of_lt (by omega)]
    rw [a1] at t1 t2
    rw [a2] at t2 t3
    rw [if_neg (by omega)]
    by_cases h8 : g - 2 ^ i = 0
    · exact t2 h8
    · have := t3 h8
      omega
theorem sqS_st (X i : Nat) : sqS X = stk (sqS (X * (2 ^ i * 2 ^ i))) i := by
  have hi : 0 < 2 ^ i := Nat.pow_pos (by omega)
  obtain ⟨a1, a2⟩ := isq_s X
  obtain ⟨c1, c2⟩ := isq_s (X * (2 ^ i * 2 ^ i))
  generalize hY : X * (2 ^ i * 2 ^ i) = Y at *
  have mm : ∀ r : Nat, r * 2 ^ i * (r * 2 ^ i) = r * r * (2 ^ i * 2 ^ i) := fun r => Nat.mul_mul_mul_comm _ _ _ _
  have l1 : isq X * 2 ^ i < isq Y + 1 := by
    refine sq_lt ?_
    rw [mm]
    have := Nat.mul_le_mul_right (2 ^ i * 2 ^ i) a1
    rw [hY] at this
    omega
  have l2 : isq Y < (isq X + 1) * 2 ^ i := by
    refine sq_lt ?_
    rw [mm]
    have := Nat.mul_lt_mul_of_pos_right a2 (Nat.mul_pos hi hi)
    rw [hY] at this
    omega
  rw [Nat.add_mul, Nat.one_mul] at l2
  obtain ⟨f, hf⟩ : ∃ f, isq Y = isq X * 2 ^ i + f := ⟨isq Y - isq X * 2 ^ i, by omega⟩
  have eD : sqS Y = 2 * isq X * 2 ^ i + (2 * f + if isq Y * isq Y = Y then 0 else 1) := by
    unfold sqS
    rw [Nat.mul_assoc 2]
    generalize (if isq Y * isq Y = Y then 0 else 1) = s
    omega
  have s1 : (if isq Y * isq Y = Y then 0 else 1) ≤ 1 := by split <;> omega
  rw [eD, stk_two (by omega)]
  unfold sqS
  congr 1
  by_cases h9 : isq X * isq X = X
  · have e1 : Y = isq X * 2 ^ i * (isq X * 2 ^ i) := by rw [mm, h9, hY]
    have e2 : isq Y = isq X * 2 ^ i := isq_u (by omega) (by rw [sq_s]; omega)
    rw [if_pos h9, if_pos]
    have f0 : f = 0 := by omega
    rw [f0, if_pos (by rw [e2]; exact e1.symm)]
  · rw [if_neg h9, if_neg]
    intro h8
    have f0 : f = 0 := by omega
    have : isq Y * isq Y = Y := Classical.byContradiction fun h7 => by
      rw [if_neg h7] at h8
      omega
    rw [hf, f0, Nat.add_zero, mm, ← hY] at this
    exact h9 (Nat.eq_of_mul_eq_mul_right (Nat.mul_pos hi hi) this)
theorem rnF_sq1 {a n i : Nat} {w : Int} (hb : fpb τ p b) (h1 : 2 ^ (p + 2) ≤ sqS (a * (2 ^ n * 2 ^ n))) : rnF p b (sqS (a * (2 ^ n * 2 ^ n))) (w - n - 1) = rnF p b (sqS (a * (2 ^ (n + i) * 2 ^ (n + i)))) (w - (n + i : Nat) - 1) := by
  have e := sqS_st (a * (2 ^ n * 2 ^ n)) i
  have e2 : a * (2 ^ n * 2 ^ n) * (2 ^ i * 2 ^ i) = a * (2 ^ (n + i) * 2 ^ (n + i)) := by rw [Nat.mul_assoc, Nat.pow_add, Nat.mul_mul_mul_comm]
  rw [e2] at e
  have l := stk_le (N := sqS (a * (2 ^ (n + i) * 2 ^ (n + i)))) (j := i)
  rw [← e] at l
  have pw : 2 ^ (p + 2) = 2 * 2 ^ (p + 1) := by rw [Nat.pow_succ, Nat.mul_comm]
  have pp : 0 < 2 ^ (p + 1) := Nat.pow_pos (by omega)
  generalize sqS (a * (2 ^ (n + i) * 2 ^ (n + i))) = D at *
  have g0 : 0 < D / 2 ^ i := by omega
  have g1 : 0 < D := Nat.pos_of_ne_zero (fun h9 => by rw [h9, Nat.zero_div] at g0; omega)
  rw [e, ← rnF_stk (N := D) (j := i) (e := w - (n + i : Nat) - 1) hb g1 (.inr (by omega))]
  congr 1
  omega
theorem rnF_sq {a n m : Nat} {w : Int} (hb : fpb τ p b) (h1 : 2 ^ (p + 2) ≤ sqS (a * (2 ^ n * 2 ^ n))) (h2 : 2 ^ (p + 2) ≤ sqS (a * (2 ^ m * 2 ^ m))) : rnF p b (sqS (a * (2 ^ n * 2 ^ n))) (w - n - 1) = rnF p b (sqS (a * (2 ^ m * 2 ^ m))) (w - m - 1) := by
  rcases Nat.le_total n m with h | h
  · obtain ⟨i, rfl⟩ := Nat.exists_eq_add_of_le h
    exact rnF_sq1 hb h1
  · obtain ⟨i, rfl⟩ := Nat.exists_eq_add_of_le h
    exact (rnF_sq1 hb h2).symm
end FLB

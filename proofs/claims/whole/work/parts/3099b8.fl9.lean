-- equality, floating point: the class's quotient
/-- twice a * 2^n / c, one more if something is left -/
def dvN (a c n : Nat) : Nat := 2 * (a * 2 ^ n / c) + (if a * 2 ^ n % c = 0 then 0 else 1)
def fdv (p b x y : Nat) : Nat :=
  if (fmg p b x = fI_ p b ∧ fmg p b y = fI_ p b) ∨ (fmg p b x = 0 ∧ fmg p b y = 0) then fnn p b
  else if fmg p b x = fI_ p b ∨ fmg p b y = 0 then fsp p b x y ||| fI_ p b
  else if fmg p b x = 0 ∨ fmg p b y = fI_ p b then fsp p b x y else fsp p b x y ||| rnF p b (dvN (fam p b x) (fam p b y) 110) (fwt p b x - fwt p b y - 111)
section FL9
variable {h : xb_H} {F p b : Nat} {τ : Int} {x y : Int64} {ax ay : Nat}
theorem dvN_st {a c n i : Nat} (hc : 0 < c) : dvN a c n = stk (dvN a c (n + i)) i := by
  have hi : 0 < 2 ^ i := Nat.pow_pos (by omega)
  have e0 : a * 2 ^ (n + i) = a * 2 ^ n * 2 ^ i := by rw [Nat.pow_add, Nat.mul_assoc]
  obtain ⟨t1, t2, t3⟩ := stk_dm (N := dvN a c (n + i)) (j := i)
  unfold dvN at *
  rw [e0] at *
  generalize a * 2 ^ n = X at *
  have dm := Nat.div_add_mod X c
  have ml := Nat.mod_lt X hc
  generalize X / c = Q at *
  generalize X % c = R at *
  have eX : X * 2 ^ i = c * (Q * 2 ^ i) + R * 2 ^ i := by rw [← dm, Nat.add_mul, Nat.mul_assoc]
  have q1 : X * 2 ^ i / c = Q * 2 ^ i + R * 2 ^ i / c := by rw [eX, Nat.mul_add_div hc]
  have q2 : X * 2 ^ i % c = R * 2 ^ i % c := by rw [eX, Nat.mul_add_mod]
  have fl : R * 2 ^ i / c < 2 ^ i := Nat.div_lt_of_lt_mul (Nat.mul_lt_mul_of_pos_right ml hi)
  have dm2 := Nat.div_add_mod (R * 2 ^ i) c
  rw [q1, q2] at t1 t2 t3 ⊢
  generalize stk (2 * (Q * 2 ^ i + R * 2 ^ i / c) + if R * 2 ^ i % c = 0 then 0 else 1) i = S at *
  by_cases hR : R = 0
  · rw [hR, Nat.zero_mul, Nat.zero_div, Nat.zero_mod, if_pos rfl, Nat.add_zero, Nat.add_zero] at t2
    have m0 : 2 * (Q * 2 ^ i) % 2 ^ i = 0 := by rw [← Nat.mul_assoc]; exact Nat.mul_mod_left _ _
    have d0 : 2 * (Q * 2 ^ i) / 2 ^ i = 2 * Q := by rw [← Nat.mul_assoc]; exact Nat.mul_div_cancel _ hi
    rw [t2 m0, d0, if_pos hR, Nat.add_zero]
  · rw [if_neg hR]
    have pos : 0 < R * 2 ^ i := Nat.mul_pos (by omega) hi
    generalize hs : (if R * 2 ^ i % c = 0 then 0 else 1) = s at *
    have s1 : s ≤ 1 := by
      rw [← hs]
      split <;> omega
    have nz : 0 < 2 * (R * 2 ^ i / c) + s := by
      rcases Nat.eq_zero_or_pos (R * 2 ^ i / c) with h9 | h9
      · rw [h9, Nat.mul_zero] at dm2
        have : s = 1 := by
          rw [← hs, if_neg (by omega)]
        omega
      · omega
    have e1 : 2 * (Q * 2 ^ i + R * 2 ^ i / c) + s = 2 * Q * 2 ^ i + (2 * (R * 2 ^ i / c) + s) := by rw [Nat.mul_add, ← Nat.mul_assoc]; omega
    rw [e1] at t1 t2 t3
    generalize hg : 2 * (R * 2 ^ i / c) + s = g at *
    have gl : g < 2 * 2 ^ i := by omega
    rcases Nat.lt_or_ge g (2 ^ i) with h9 | h9
    · have a1 : (2 * Q * 2 ^ i + g) / 2 ^ i = 2 * Q := by rw [Nat.mul_comm (2 * Q), Nat.mul_add_div hi, Nat.div_eq_of_lt h9, Nat.add_zero]
      have a2 : (2 * Q * 2 ^ i + g) % 2 ^ i = g := by rw [Nat.mul_comm (2 * Q), Nat.mul_add_mod, Nat.mod_eq_of_lt h9]
      rw [a1] at t1
      rw [a2] at t3
      have := t3 (by omega)
      omega
    · have e2 : 2 * Q * 2 ^ i + g = (2 * Q + 1) * 2 ^ i + (g - 2 ^ i) := by rw [Nat.add_mul, Nat.one_mul]; omega
      have a1 : (2 * Q * 2 ^ i + g) / 2 ^ i = 2 * Q + 1 := by rw [e2, Nat.mul_comm (2 * Q + 1), Nat.mul_add_div hi, Nat.div_eq_of_lt (by omega), Nat.add_zero]
      have a2 : (2 * Q * 2 ^ i + g) % 2 ^ i = g - 2 ^ i := by rw [e2, Nat.mul_comm (2 * Q + 1), Nat.mul_add_mod, Nat.mod_eq_of_lt (by omega)]
      rw [a1] at t1 t2
      rw [a2] at t2 t3
      by_cases h8 : g - 2 ^ i = 0
      · exact (t2 h8).symm
      · have := t3 h8
        omega
theorem rnF_dv1 {a c n i : Nat} {w : Int} (hb : fpb τ p b) (hc : 0 < c) (h1 : 2 ^ (p + 2) ≤ dvN a c n) : rnF p b (dvN a c n) (w - n - 1) = rnF p b (dvN a c (n + i)) (w - (n + i : Nat) - 1) := by
  have e := dvN_st (a := a) (n := n) (i := i) hc
  have l := stk_le (N := dvN a c (n + i)) (j := i)
  rw [← e] at l
  have pw : 2 ^ (p + 2) = 2 * 2 ^ (p + 1) := by rw [Nat.pow_succ, Nat.mul_comm]
  have pp : 0 < 2 ^ (p + 1) := Nat.pow_pos (by omega)
  have hi : 0 < 2 ^ i := Nat.pow_pos (by omega)
  have g0 : 0 < dvN a c (n + i) / 2 ^ i := by omega
  have g1 : 0 < dvN a c (n + i) := Nat.pos_of_ne_zero (fun h9 => by rw [h9, Nat.zero_div] at g0; omega)
  rw [e, ← rnF_stk (N := dvN a c (n + i)) (j := i) (e := w - (n + i : Nat) - 1) hb g1 (.inr (by omega))]
  congr 1
  omega
theorem rnF_dv {a c n m : Nat} {w : Int} (hb : fpb τ p b) (hc : 0 < c) (h1 : 2 ^ (p + 2) ≤ dvN a c n) (h2 : 2 ^ (p + 2) ≤ dvN a c m) : rnF p b (dvN a c n) (w - n - 1) = rnF p b (dvN a c m) (w - m - 1) := by
  rcases Nat.le_total n m with h | h
  · obtain ⟨i, rfl⟩ := Nat.exists_eq_add_of_le h
    exact rnF_dv1 hb hc h1
  · obtain ⟨i, rfl⟩ := Nat.exists_eq_add_of_le h
    exact (rnF_dv1 hb hc h2).symm
theorem dvN_sc {a c n l : Nat} : dvN (a * 2 ^ l) (c * 2 ^ l) n = dvN a c n := by
  have hl : 0 < 2 ^ l := Nat.pow_pos (by omega)
  have e : a * 2 ^ l * 2 ^ n = a * 2 ^ n * 2 ^ l := Nat.mul_right_comm _ _ _
  unfold dvN
  rw [e, Nat.mul_div_mul_right _ _ hl, Nat.mul_mod_mul_right]
  congr 1
  by_cases h9 : a * 2 ^ n % c = 0
  · rw [if_pos h9, h9, Nat.zero_mul, if_pos rfl]
  · rw [if_neg h9, if_neg (fun h8 => by
      rcases Nat.mul_eq_zero.mp h8 with h7 | h7 <;> omega)]
theorem dvN_sh {a c n l : Nat} : dvN (a * 2 ^ l) c n = dvN a c (n + l) := by
  unfold dvN
  rw [Nat.pow_add, Nat.mul_assoc, Nat.mul_comm (2 ^ l)]
theorem half_l {A B C R : Nat} (h1 : A = 2 * B) (h2 : A = 2 * C + R) (h3 : R % 2 = 0) : B = C + R / 2 := by omega
/-- the loop of the quotient -/
theorem ex_quo_L128 {x5 : Int32} {ma mb : Nat} {Qr : Int64 → xb_H → Prop} (hf : fm h F τ) (hb : fpb τ p b) (hx : x.toBitVec.toNat = ax) (hy : y.toBitVec.toNat = ay) (zx : fmg p b ax ≠ 0) (zy : fmg p b ay ≠ 0) (m1 : 2 ^ (p - 1) ≤ ma) (m2 : ma < 2 ^ p) (n1 : 2 ^ (p - 1) ≤ mb) (n2 : mb < 2 ^ p) {x8 : Int64} (h8 : x8.toBitVec.toNat = mb)
    (hQ : ∀ r : Int64, (∃ w : Int64, w.toBitVec.toNat = rnF p b (dvN ma mb 59) (fwt p b ax - flk p b ax - (fwt p b ay - flk p b ay) - 60) ∧ r = (if x5 = 0 then 0 else xb_l h F 2) ||| w) → Qr r h) : ∀ (m k : Nat) (x6 x10 : Int64) (x12 : Int32) (R q : Nat), 60 - k ≤ m → k ≤ 60 → x12.toInt = k → x6.toBitVec.toNat = R → x10.toBitVec.toNat = q → ma * 2 ^ k = 2 * (q * mb) + R → R < 2 * mb → (k ≠ 0 → R % 2 = 0) → w_Format_quotient_L128 Qr (m + 1) F x y x5 x6 x8 x10 x12 h := by
  have hp : (p = 24 ∧ b = 127) ∨ (p = 53 ∧ b = 1023) := by unfold fpb at hb; omega
  have p53 : 2 ^ p ≤ 2 ^ 53 := Nat.pow_le_pow_right (by omega) (by omega)
  have pp : 2 ^ p = 2 * 2 ^ (p - 1) := by rw [show p = p - 1 + 1 by omega, Nat.pow_succ, Nat.mul_comm]; rfl
  have pq : 0 < 2 ^ (p - 1) := Nat.pow_pos (by omega)
  have wa := fwr hb zx
  have wb := fwr hb zy
  have qb : ∀ k q R, k ≤ 60 → ma * 2 ^ k = 2 * (q * mb) + R → q < 2 ^ k := fun k q R hk he => by
    refine Classical.byContradiction fun h9 => ?_
    have a1 : 2 ^ k * mb ≤ q * mb := Nat.mul_le_mul_right _ (by omega)
    have a2 : ma * 2 ^ k < 2 * mb * 2 ^ k := Nat.mul_lt_mul_of_pos_right (by omega) (Nat.pow_pos (by omega))
    rw [Nat.mul_assoc, Nat.mul_comm mb] at a2
    omega
  intro m
  induction m with
  | zero =>
    intro k x6 x10 x12 R q hm hk e12 e6 e10 he hR hev
    have k60 : k = 60 := by omega
    subst k60
    unfold w_Format_quotient_L128
    rw [z_le, e12, show (60 : Int32).toInt = 60 from rfl]
    refine ⟨fun _ => ⟨hf.1, ex_exponent hf hb hx zx (fun r4 e4 _ => ex_exponent hf hb hy zy (fun r6 e6' _ => ?_))⟩, fun h9 => absurd (by omega) h9⟩
    have q60 := qb 60 q R (by omega) he
    have R2 := hev (by omega)
    have hmb : 0 < mb := by omega
    have h59 : ma * 2 ^ 59 = mb * q + R / 2 := by
      have : ma * 2 ^ 60 = 2 * (ma * 2 ^ 59) := by rw [show (60 : Nat) = 59 + 1 by rfl, Nat.pow_succ, ← Nat.mul_assoc, Nat.mul_comm 2]
      rw [Nat.mul_comm mb]
      exact half_l this he R2
    have dq : ma * 2 ^ 59 / mb = q := by rw [h59, Nat.mul_add_div hmb, Nat.div_eq_of_lt (by omega), Nat.add_zero]
    have dr : ma * 2 ^ 59 % mb = R / 2 := by rw [h59, Nat.mul_add_mod, Nat.mod_eq_of_lt (by omega)]
    have sh : (xb_lshl x10 1).toBitVec.toNat = 2 * q := by rw [Z_shl (k := 1) rfl (by omega), e10, Nat.mod_eq_of_lt (by omega)]; omega
    have fe : ((r4 - r6) - 60).toInt = fwt p b ax - flk p b ax - (fwt p b ay - flk p b ay) - 60 := by
      have : (r4 - r6).toInt = fwt p b ax - flk p b ax - (fwt p b ay - flk p b ay) := by rw [z_sub, e4, e6']; omega
      rw [z_sub, this, show (60 : Int32).toInt = 60 from rfl]
      omega
    have q58 : 0 < q := by
      rcases Nat.eq_zero_or_pos q with h9 | h9
      · have : 2 ^ (p - 1) * 2 ^ 59 ≤ ma * 2 ^ 59 := Nat.mul_le_mul_right _ m1
        rw [h9, Nat.mul_zero] at h59
        omega
      · exact h9
    have fin : ∀ (y0 : Int32) (s : Nat), (Int32.toInt64 y0).toBitVec.toNat = s → s ≤ 1 → dvN ma mb 59 = 2 * q + s → w_Format_quotient_L207 Qr y0 (xb_lshl x10 1) ((r4 - r6) - 60) x5 F h := by
      intro y0 s hs s1 hd
      unfold w_Format_quotient_L207
      have on : (xb_lshl x10 1 ||| Int32.toInt64 y0).toBitVec.toNat = dvN ma mb 59 := by
        have g := Nat.two_pow_add_eq_or_of_lt (b := s) (i := 1) (by omega) q
        rw [Nat.pow_one] at g
        rw [Z_or, sh, hs, ← g, hd]
      exact ⟨hf.1, ex_nearest hf hb on (by omega) (by omega) fe (by omega) (by omega) (fun w hw _ => hQ _ ⟨w, hw, rfl⟩)⟩
    rw [Z_eqN, e6, show (0 : Int64).toBitVec.toNat = 0 from rfl]
    refine ⟨fun h9 => fin 0 0 rfl (by omega) ?_, fun h9 => fin 1 1 rfl (by omega) ?_⟩
    · unfold dvN
      rw [dq, dr, if_pos (by omega)]
    · unfold dvN
      rw [dq, dr, if_neg (by omega)]
  | succ m ih =>
    intro k x6 x10 x12 R q hm hk e12 e6 e10 he hR hev
    by_cases k60 : k = 60
    · have := ih k x6 x10 x12 R q (by omega) hk e12 e6 e10 he hR hev
      unfold w_Format_quotient_L128 at this ⊢
      rw [z_le, e12, show (60 : Int32).toInt = 60 from rfl] at this ⊢
      exact ⟨this.1, fun h9 => absurd (by omega) h9⟩
    · unfold w_Format_quotient_L128 w_Format_quotient_L162
      rw [z_le, e12, show (60 : Int32).toInt = 60 from rfl]
      refine ⟨fun h9 => absurd h9 (by omega), fun _ v8 e8 => ?_⟩
      have qk := qb k q R hk he
      have pk : 2 ^ k ≤ 2 ^ 59 := Nat.pow_le_pow_right (by omega) (by omega)
      have f8 : v8.toBitVec.toNat = 2 * q := by rw [e8, Z_shl (k := 1) rfl (by omega), e10, Nat.mod_eq_of_lt (by omega)]; omega
      have n12 : (x12 + 1).toInt = (k + 1 : Nat) := by rw [z_add, e12, show (1 : Int32).toInt = 1 from rfl]; omega
      have he2 : ma * 2 ^ (k + 1) = 4 * (q * mb) + 2 * R := by rw [Nat.pow_succ, ← Nat.mul_assoc]; omega
      rw [Z_ltN (by omega) (by omega), e6, h8]
      refine ⟨fun h9 v1 e1 => ih (k + 1) v1 v8 (x12 + 1) (2 * R) (2 * q) (by omega) (by omega) n12 ?_ f8 ?_ (by omega) (fun _ => by omega), fun h9 v10 e10' v11 e11 v1 e1 => ih (k + 1) v1 v11 (x12 + 1) (2 * (R - mb)) (2 * q + 1) (by omega) (by omega) n12 ?_ ?_ ?_ (by omega) (fun _ => by omega)⟩
      · rw [e1, Z_shl (k := 1) rfl (by omega), e6, Nat.mod_eq_of_lt (by omega)]
        omega
      · rw [he2, Nat.mul_assoc 2 q mb]
        omega
      · have f10 : v10.toBitVec.toNat = R - mb := by rw [e10', Z_subN _ _ (by rw [e6, h8]; omega), e6, h8]
        rw [e1, Z_shl (k := 1) rfl (by omega), f10, Nat.mod_eq_of_lt (by omega)]
        omega
      · have g := Nat.two_pow_add_eq_or_of_lt (b := 1) (i := 1) (by omega) q
        rw [Nat.pow_one] at g
        rw [e11, Z_or, f8, show (1 : Int64).toBitVec.toNat = 1 from rfl, ← g]
      · rw [he2, Nat.add_mul, Nat.mul_assoc 2 q mb, Nat.one_mul]
        omega
end FL9

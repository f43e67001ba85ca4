-- equality: constants
theorem b_64 : ∀ b, b < 256 → ((b &&& 64 = 0) ↔ b % 128 < 64) := by decide +kernel
theorem ub_64 {cb : Nat → Int32} {p : Nat} : ((ub cb p &&& 64) = 0) ↔ (ub cb p).toInt % 128 < 64 := by
  have h1 := ub_r (cb := cb) (p := p)
  have h2 := z_nat (ub cb p)
  have h3 : (ub cb p).toBitVec.toNat = (ub cb p).toInt.toNat := by omega
  have h4 := b_64 (ub cb p).toInt.toNat (by omega)
  have h5 := z_and32 (ub cb p) 64
  rw [h3] at h5
  have h6 : ((64 : Int32).toBitVec.toNat) = 64 := rfl
  rw [h6] at h5
  constructor
  · intro h7
    rw [h7] at h5
    have h8 := h4.mp h5.symm
    omega
  · intro h7
    have h8 := h4.mpr (by omega)
    rw [h8] at h5
    apply Int32.toBitVec_inj.mp
    apply BitVec.eq_of_toNat_eq
    rw [h5]
    rfl
section GM
variable {cb : Nat → Int32} {p K : Nat} {u x : Int64} {k s : Int32}
theorem sv_u (hk : k.toInt = K) (hK : K ≤ 8) (hx : x.toBitVec.toNat < 2 ^ (7 * K)) : ∃ w : Nat, w < 128 ∧ (ub cb p).toInt % 128 = w ∧ (x ||| xb_lshl (Int32.toInt64 (ub cb p &&& 127)) (7 * k)).toBitVec.toNat = w * 2 ^ (7 * K) + x.toBitVec.toNat := by
  have hu := ub_r (cb := cb) (p := p)
  have m1 : (ub cb p &&& 127).toInt = (ub cb p).toInt % 128 := z_mask _ 7 rfl (by omega)
  obtain ⟨w, hw⟩ : ∃ w : Nat, (ub cb p).toInt % 128 = w := ⟨((ub cb p).toInt % 128).toNat, by omega⟩
  have k7 : (7 * k).toInt = (7 * K : Nat) := by
    rw [Int32.toInt_mul, z_bm, hk]
    simp only [Int32.reduceToInt]
    omega
  have m2 : (Int32.toInt64 (ub cb p &&& 127)).toBitVec.toNat = w := by
    have e1 := Z_nat (Int32.toInt64 (ub cb p &&& 127))
    rw [Z_of32, m1] at e1
    omega
  have m3 := Z_shl (x := Int32.toInt64 (ub cb p &&& 127)) k7 (by omega)
  rw [m2] at m3
  have hw2 : w < 128 := by omega
  have b6 : w * 2 ^ (7 * K) < 18446744073709551616 := by
    have h1 : 2 ^ (7 * K) ≤ 2 ^ 56 := Nat.pow_le_pow_right (by decide) (by omega)
    have h2 : w * 2 ^ (7 * K) ≤ 127 * 2 ^ 56 := Nat.mul_le_mul (by omega) h1
    exact Nat.lt_of_le_of_lt h2 (by decide)
  rw [Nat.mod_eq_of_lt b6] at m3
  refine ⟨w, hw2, hw, ?_⟩
  rw [Z_or, m3, Nat.or_comm, or_ad hx]
theorem sv_l (hx : x.toBitVec.toNat < 2 ^ (7 * K)) {w U : Nat} (hw : w < 128) (hU : U = w * 2 ^ (7 * K) + x.toBitVec.toNat) : U < 2 ^ (7 * (K + 1)) ∧ (U < 2 ^ (7 * K + 6) ↔ w < 64) := by
  have e1 : 2 ^ (7 * (K + 1)) = 128 * 2 ^ (7 * K) := by
    rw [show 7 * (K + 1) = 7 + 7 * K by omega, Nat.pow_add]
  have e2 : 2 ^ (7 * K + 6) = 64 * 2 ^ (7 * K) := by
    rw [Nat.add_comm, Nat.pow_add]
  rw [e1, e2, hU]
  generalize 2 ^ (7 * K) = q at *
  generalize x.toBitVec.toNat = y at *
  refine ⟨?_, ?_, ?_⟩
  · have : (w + 1) * q ≤ 128 * q := Nat.mul_le_mul_right _ (by omega)
    rw [Nat.add_mul, Nat.one_mul] at this
    omega
  · intro h
    apply Classical.byContradiction
    intro h9
    have : 64 * q ≤ w * q := Nat.mul_le_mul_right _ (by omega)
    omega
  · intro h
    have : (w + 1) * q ≤ 64 * q := Nat.mul_le_mul_right _ (by omega)
    rw [Nat.add_mul, Nat.one_mul] at this
    omega
theorem sv_e (hK : K ≤ 8) (hs : s.toInt = 57 - 7 * K) (hu : u.toBitVec.toNat < 2 ^ (7 * (K + 1))) : (xb_lshr (xb_lshl u s) s).toInt = if u.toBitVec.toNat < 2 ^ (7 * K + 6) then (u.toBitVec.toNat : Int) else (u.toBitVec.toNat : Int) - (2 ^ (7 * (K + 1)) : Nat) := by
  obtain ⟨m, h1, h2, h3, h4⟩ := ud_t (r := u) (s := s) (n := u.toBitVec.toNat) (k := 57 - 7 * K) rfl (by omega) (by omega)
  rw [h4]
  clear h4 hs
  generalize u.toBitVec.toNat = q at *
  rcases (show K = 0 ∨ K = 1 ∨ K = 2 ∨ K = 3 ∨ K = 4 ∨ K = 5 ∨ K = 6 ∨ K = 7 ∨ K = 8 by omega) with e | e | e | e | e | e | e | e | e <;> (subst e; simp only [Nat.reduceMul, Nat.reduceAdd, Nat.reduceSub, Nat.reducePow] at *; split <;> omega)
theorem m1_n : (-1 : Int64).toBitVec.toNat = 18446744073709551615 := rfl
theorem sv_o {y : Int32} (hK : K ≤ 8) (hy : y.toInt = 7 * (K + 1)) (hu : u.toBitVec.toNat < 2 ^ (7 * (K + 1))) : (u ||| xb_lshl (-1) y).toInt = (u.toBitVec.toNat : Int) - (2 ^ (7 * (K + 1)) : Nat) := by
  have h1 := Z_shl (x := -1) (y := y) (k := 7 * (K + 1)) (by omega) (by omega)
  have h2 : 18446744073709551615 * 2 ^ (7 * (K + 1)) % 18446744073709551616 = (2 ^ (57 - 7 * K) - 1) * 2 ^ (7 * (K + 1)) := by
    rcases (show K = 0 ∨ K = 1 ∨ K = 2 ∨ K = 3 ∨ K = 4 ∨ K = 5 ∨ K = 6 ∨ K = 7 ∨ K = 8 by omega) with e | e | e | e | e | e | e | e | e <;> (subst e; rfl)
  rw [m1_n, h2] at h1
  have h3 : (u ||| xb_lshl (-1) y).toBitVec.toNat = (2 ^ (57 - 7 * K) - 1) * 2 ^ (7 * (K + 1)) + u.toBitVec.toNat := by
    rw [Z_or, h1, Nat.or_comm, or_ad hu]
  have h4 := Z_nat (u ||| xb_lshl (-1) y)
  have h5 := Z_rg (u ||| xb_lshl (-1) y)
  rw [h3] at h4
  clear h1 h2 h3
  generalize (u ||| xb_lshl (-1) y).toInt = r at *
  generalize u.toBitVec.toNat = q at *
  rcases (show K = 0 ∨ K = 1 ∨ K = 2 ∨ K = 3 ∨ K = 4 ∨ K = 5 ∨ K = 6 ∨ K = 7 ∨ K = 8 by omega) with e | e | e | e | e | e | e | e | e <;> (subst e; simp only [Nat.reduceMul, Nat.reduceAdd, Nat.reduceSub, Nat.reducePow] at *; omega)
theorem Z_pos {u : Int64} (h : u.toBitVec.toNat < 9223372036854775808) : u.toInt = u.toBitVec.toNat := by
  have h4 := Z_nat u
  have h5 := Z_rg u
  omega
/-- the last byte of a signed number, in both -/
theorem sv_t {y : Int32} {w : Nat} (hK : K ≤ 8) (hs : s.toInt = 57 - 7 * K) (hy : y.toInt = 7 * (K + 1)) (hu : u.toBitVec.toNat < 2 ^ (7 * (K + 1))) (hw : u.toBitVec.toNat < 2 ^ (7 * K + 6) ↔ w < 64) (hb : (ub cb p).toInt % 128 = w) {x4 x5 : Int32} (h45 : ¬ x4 ≤ x5) : xb_lshr (xb_lshl u s) s = (if x4 ≤ x5 ∨ (ub cb p &&& 64) = 0 then u else u ||| xb_lshl (-1) y) := by
  apply Int64.toInt.inj
  rw [sv_e hK hs hu]
  by_cases h9 : w < 64
  · rw [if_pos (hw.mpr h9), if_pos (.inr (by rw [ub_64]; omega))]
    refine (Z_pos ?_).symm
    have h8 := hw.mpr h9
    refine Nat.lt_of_lt_of_le h8 ?_
    exact Nat.le_trans (Nat.pow_le_pow_right (by decide) (show 7 * K + 6 ≤ 62 by omega)) (by decide)
  · rw [if_neg (fun h8 => h9 (hw.mp h8)), if_neg (fun h8 => ?_), sv_o hK hy hu]
    rcases h8 with h8 | h8
    · exact h45 h8
    · rw [ub_64] at h8
      omega
theorem sv_64 : ∀ (m K p : Nat) (x : Int64) (k : Int32), k.toInt = K → K + m = 9 → x.toBitVec.toNat < 2 ^ (7 * K) → svC cb (m + 1) p x k = svl cb 64 9 (m + 1) p x k := by
  intro m
  induction m with
  | zero =>
    intro K p x k hk hm hx
    unfold svC svl
    split
    · rfl
    · have h0 : ¬ (0 : Int32) < 64 - 7 * (k + 1) := by
        rw [z_lt, z_sub, z_mul, z_add, hk]
        simp only [Int32.reduceToInt]
        omega
      have h1 : (9 : Int32) ≤ k := by
        rw [z_le, hk]
        simp only [Int32.reduceToInt]
        omega
      rw [if_neg (show ¬ (64 : Int32) = 32 by decide), if_pos (show (9 : Int32) ≤ k ∨ (ub cb p &&& 64) = 0 from .inl h1), if_neg h0]
      · generalize (x ||| xb_lshl (Int32.toInt64 (ub cb p &&& 127)) (7 * k)) = u
        obtain ⟨m, h1, h2, h3, h4⟩ := ud_t (r := u) (s := 0) (n := u.toBitVec.toNat) (k := 0) rfl rfl (by decide)
        apply Int64.toInt.inj
        rw [h4]
        have h5 := Z_nat u
        have h6 := Z_rg u
        clear h4
        simp only [Nat.pow_zero, Nat.mul_one] at *
        omega
  | succ m ih =>
    intro K p x k hk hm hx
    obtain ⟨w, w1, w2, w3⟩ := sv_u (cb := cb) (p := p) hk (by omega) hx
    obtain ⟨w4, w5⟩ := sv_l hx w1 w3
    have hk1 : (k + 1).toInt = (K + 1 : Nat) := by
      rw [z_add, hk]
      simp only [Int32.reduceToInt]
      omega
    have h7 : (7 * (k + 1)).toInt = 7 * (K + 1) := by
      rw [z_mul, hk1]
      simp only [Int32.reduceToInt]
      omega
    have h64 : (64 - 7 * (k + 1)).toInt = 57 - 7 * K := by
      rw [z_sub, h7]
      simp only [Int32.reduceToInt]
      omega
    unfold svC svl
    split
    · exact ih (K + 1) _ _ _ hk1 (by omega) w4
    · rw [if_neg (show ¬ (64 : Int32) = 32 by decide), if_pos (show (0 : Int32) < 64 - 7 * (k + 1) by rw [z_lt, h64]; simp only [Int32.reduceToInt]; omega)]
      exact sv_t (x4 := 9) (by omega) h64 h7 w4 w5 w2 (by rw [z_le, hk]; simp only [Int32.reduceToInt]; omega)
theorem sv_32 : ∀ (m K p : Nat) (x : Int64) (k : Int32), k.toInt = K → K + m = 4 → x.toBitVec.toNat < 2 ^ (7 * K) → (svC cb (m + 1) p x k).toInt % 4294967296 = (svl cb 32 4 (m + 1) p x k).toInt % 4294967296 := by
  intro m
  induction m with
  | zero =>
    intro K p x k hk hm hx
    have eK : K = 4 := by omega
    subst eK
    obtain ⟨w, w1, w2, w3⟩ := sv_u (cb := cb) (p := p) hk (by omega) hx
    obtain ⟨w4, w5⟩ := sv_l hx w1 w3
    have h64 : (64 - 7 * (k + 1)).toInt = 57 - 7 * (4 : Nat) := by
      rw [z_sub, z_mul, z_add, hk]
      simp only [Int32.reduceToInt]
      omega
    unfold svC svl
    split
    · rfl
    · rw [if_pos (show (32 : Int32) = 32 from rfl), if_pos (show (4 : Int32) ≤ k ∨ (ub cb p &&& 64) = 0 from .inl (by rw [z_le, hk]; simp only [Int32.reduceToInt]; omega)), if_pos (show (0 : Int32) < 64 - 7 * (k + 1) by rw [z_lt, h64]; simp only [Int32.reduceToInt]; omega), s32_t]
      have h1 := sv_e (u := (x ||| xb_lshl (Int32.toInt64 (ub cb p &&& 127)) (7 * k))) (s := 64 - 7 * (k + 1)) (K := 4) (by omega) h64 w4
      have h2 := Z_nat (x ||| xb_lshl (Int32.toInt64 (ub cb p &&& 127)) (7 * k))
      have h3 := Z_rg (x ||| xb_lshl (Int32.toInt64 (ub cb p &&& 127)) (7 * k))
      rw [h1]
      clear h1 w3 w5
      generalize (x ||| xb_lshl (Int32.toInt64 (ub cb p &&& 127)) (7 * k)).toInt = r at *
      generalize (x ||| xb_lshl (Int32.toInt64 (ub cb p &&& 127)) (7 * k)).toBitVec.toNat = q at *
      simp only [Nat.reduceMul, Nat.reduceAdd, Nat.reducePow] at *
      split <;> omega
  | succ m ih =>
    intro K p x k hk hm hx
    obtain ⟨w, w1, w2, w3⟩ := sv_u (cb := cb) (p := p) hk (by omega) hx
    obtain ⟨w4, w5⟩ := sv_l hx w1 w3
    have hk1 : (k + 1).toInt = (K + 1 : Nat) := by
      rw [z_add, hk]
      simp only [Int32.reduceToInt]
      omega
    have h7 : (7 * (k + 1)).toInt = 7 * (K + 1) := by
      rw [z_mul, hk1]
      simp only [Int32.reduceToInt]
      omega
    have h64 : (64 - 7 * (k + 1)).toInt = 57 - 7 * K := by
      rw [z_sub, h7]
      simp only [Int32.reduceToInt]
      omega
    unfold svC svl
    split
    · exact ih (K + 1) _ _ _ hk1 (by omega) w4
    · rw [if_pos (show (32 : Int32) = 32 from rfl), if_pos (show (0 : Int32) < 64 - 7 * (k + 1) by rw [z_lt, h64]; simp only [Int32.reduceToInt]; omega), s32_t, sv_t (cb := cb) (p := p) (x4 := 4) (x5 := k) (by omega) h64 h7 w4 w5 w2 (by rw [z_le, hk]; simp only [Int32.reduceToInt]; omega)]
      generalize (if (4 : Int32) ≤ k ∨ (ub cb p &&& 64) = 0 then _ else _ : Int64).toInt = r
      omega
/-- a number put together from its halves -/
theorem rec64 (x : Int64) : (xb_lshl ((xb_lushr x 32).toInt32).toInt64 32) ||| ((x.toInt32).toInt64 &&& 4294967295) = x := by
  have h1 := Z_ushr (x := x) (y := 32) (k := 32) rfl (by decide)
  have h2 := Z_shl (x := ((xb_lushr x 32).toInt32).toInt64) (y := 32) (k := 32) rfl (by decide)
  have h3 : (((xb_lushr x 32).toInt32).toInt64.toBitVec.toNat : Int) % 4294967296 = (x.toBitVec.toNat / 2 ^ 32 : Nat) := by
    have a1 := Z_nat ((xb_lushr x 32).toInt32).toInt64
    rw [Z_of32, z_of64] at a1
    have a2 := Z_nat (xb_lushr x 32)
    rw [h1] at a2
    have a3 := x.toBitVec.isLt
    simp only [Nat.reducePow] at *
    omega
  have h4 : ((x.toInt32).toInt64 &&& 4294967295).toBitVec.toNat = x.toBitVec.toNat % 2 ^ 32 := by
    have a1 := Z_nat ((x.toInt32).toInt64 &&& 4294967295)
    rw [Z_low, Z_of32, z_of64] at a1
    have a2 := Z_nat x
    simp only [Nat.reducePow] at *
    omega
  apply Int64.toBitVec_inj.mp
  apply BitVec.eq_of_toNat_eq
  rw [Z_or, h4]
  have h5 : ((xb_lshl ((xb_lushr x 32).toInt32).toInt64 32)).toBitVec.toNat = (x.toBitVec.toNat / 2 ^ 32) * 2 ^ 32 := by
    rw [h2]
    have a3 := x.toBitVec.isLt
    simp only [Nat.reducePow] at *
    omega
  rw [h5, or_ad (Nat.mod_lt _ (by decide))]
  exact Nat.div_add_mod' _ _
end GM

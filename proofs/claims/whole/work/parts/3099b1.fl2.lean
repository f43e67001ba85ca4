-- equality, floating point: the class's nearest
/-- a format's numbers -/
def fpb (τ : Int) (p b : Nat) : Prop := (τ = 125 ∧ p = 24 ∧ b = 127) ∨ (τ = 124 ∧ p = 53 ∧ b = 1023)
section FL2
variable {h : xb_H} {F p b : Nat} {τ : Int}
theorem fm.pb (hf : fm h F τ) : ∃ p b : Nat, fpb τ p b ∧ (xb_i h F 0).toInt = p ∧ (xb_i h F 1).toInt = b ∧ (xb_l h F 3).toBitVec.toNat = (2 * b + 1) * 2 ^ (p - 1) ∧ (xb_l h F 2).toBitVec.toNat = (2 * b + 2) * 2 ^ (p - 1) := by
  rcases hf.2 with ⟨e, e0, e1, e2, e3, e4⟩ | ⟨e, e0, e1, e2, e3, e4⟩
  · exact ⟨24, 127, .inl ⟨e, rfl, rfl⟩, by rw [e0]; rfl, by rw [e1]; rfl, by rw [e3]; rfl, by rw [e2]; rfl⟩
  · exact ⟨53, 1023, .inr ⟨e, rfl, rfl⟩, by rw [e0]; rfl, by rw [e1]; rfl, by rw [e3]; rfl, by rw [e2]; rfl⟩
theorem fpb.u {p' b' : Nat} (h1 : fpb τ p b) (h2 : fpb τ p' b') : p' = p ∧ b' = b := by
  unfold fpb at *
  omega
theorem log2_of {N t : Nat} (h1 : 2 ^ t ≤ N) (h2 : N < 2 ^ (t + 1)) : N.log2 = t := by
  have h0 : N ≠ 0 := fun e => by
    have : 0 < 2 ^ t := Nat.pow_pos (by omega)
    omega
  have a : t ≤ N.log2 := (Nat.le_log2 h0).mpr h1
  have c : N.log2 < t + 1 := (Nat.log2_lt h0).mpr h2
  omega
/-- the bits, in their usual place, dropped by D -/
theorem rnF_n {N u D : Nat} {e : Int} (hb : fpb τ p b) (h1 : 4611686018427387904 ≤ N * 2 ^ u) (h2 : N * 2 ^ u < 9223372036854775808) (hu : u ≤ 62) (hi : e - u + 62 + b ≤ 2 * (b : Int)) (hD : (D : Int) = 63 - p + (if e - u + 62 + b ≤ 0 then 1 - (e - u + 62 + b) else 0)) : rnF p b N e = rnk (N * 2 ^ u) D + (if e - u + 62 + b ≤ 0 then 0 else (e - u + 62 + b - 1).toNat * 2 ^ (p - 1)) := by
  have hp : (p = 24 ∧ b = 127) ∨ (p = 53 ∧ b = 1023) := by unfold fpb at hb; omega
  have ht : N.log2 = 62 - u := by
    have e1 : (4611686018427387904 : Nat) = 2 ^ (62 - u) * 2 ^ u := by rw [← Nat.pow_add, Nat.sub_add_cancel hu]
    have e2 : (9223372036854775808 : Nat) = 2 ^ (62 - u + 1) * 2 ^ u := by
      rw [← Nat.pow_add, show 62 - u + 1 + u = 63 by omega]
    have hp : 0 < 2 ^ u := Nat.pow_pos (by omega)
    rw [e1] at h1
    rw [e2] at h2
    exact log2_of (Nat.le_of_mul_le_mul_right h1 hp) (Nat.lt_of_mul_lt_mul_right h2)
  have tz : ((62 - u : Nat) : Int) = 62 - u := by omega
  unfold rnF
  rw [ht, tz, if_neg (by omega)]
  by_cases h3 : e - u + 62 + b ≤ 0
  · rw [if_pos h3] at hD
    rw [if_neg (by omega), if_pos h3, Nat.add_zero]
    by_cases h4 : (0 : Int) ≤ 2 - e - b - p
    · rw [if_pos h4]
      have : D = (2 - e - b - p).toNat + u := by omega
      rw [this, rnk_sc]
    · rw [if_neg h4]
      have h5 : u = D + (e + b + p - 2).toNat := by omega
      rw [h5, Nat.pow_add, Nat.mul_comm (2 ^ D), ← Nat.mul_assoc, rnk_mul]
  · rw [if_neg h3] at hD
    rw [if_pos (by omega), if_neg h3]
    have e3 : e + (62 - (u : Int)) + b - 1 = e - u + 62 + b - 1 := by omega
    rw [e3]
    congr 1
    split
    · rename_i h4
      have : D = 62 - u - (p - 1) + u := by omega
      rw [this, rnk_sc]
    · rename_i h4
      have h5 : u = D + (p - 1 - (62 - u)) := by omega
      have h6 : N * 2 ^ u = N * 2 ^ (p - 1 - (62 - u)) * 2 ^ D := by
        rw [Nat.mul_assoc, ← Nat.pow_add, Nat.add_comm _ D, ← h5]
      rw [h6, rnk_mul]
theorem ex_nearest {x1 x2 : Int32} {x : Int64} {N : Nat} {e : Int} {Qr : Int64 → xb_H → Prop} (hf : fm h F τ) (hb : fpb τ p b) (hx : x.toBitVec.toNat = N) (h0 : 0 < N) (hN : N < 9223372036854775808) (he : x2.toInt = e) (h1 : -100000 ≤ e) (h2 : e ≤ 100000) (hQ : ∀ y : Int64, y.toBitVec.toNat = rnF p b N e → Qr ((if x1 = 0 then 0 else xb_l h F 2) ||| y) h) : w_Format_nearest F x1 x2 x h Qr := by
  obtain ⟨p', b', hb', b1, b2, b3, b4⟩ := hf.pb
  obtain ⟨rfl, rfl⟩ := hb.u hb'
  have hp : (p' = 24 ∧ b' = 127) ∨ (p' = 53 ∧ b' = 1023) := by unfold fpb at hb; omega
  unfold w_Format_nearest
  refine ex_zerosAbove hx h0 (fun r2 k z1 z2 z3 z4 _ v3 e3 v4 e4 => ⟨hf.1, fun v6 e6 => ?_⟩)
  have hk : k ≠ 0 := fun e => by
    rw [e, Nat.pow_zero, Nat.mul_one] at z3
    omega
  obtain ⟨u, rfl⟩ : ∃ u, k = u + 1 := ⟨k - 1, by omega⟩
  have eN : N * 2 ^ (u + 1) = 2 * (N * 2 ^ u) := by rw [Nat.pow_succ, Nat.mul_comm (2 ^ u) 2, Nat.mul_left_comm]
  rw [eN] at z3 z4
  have f3 : v3.toInt = u := by rw [e3, z_sub, z1, show (1 : Int32).toInt = 1 from rfl]; omega
  have f4 : v4.toBitVec.toNat = N * 2 ^ u := by rw [e4, Z_shl f3 (by omega), hx, Nat.mod_eq_of_lt (by omega)]
  have f61 : (x2 - v3).toInt = e - u := by rw [z_sub, he, f3]; omega
  have f62 : (x2 - v3 + 62).toInt = e - u + 62 := by rw [z_add, f61, show (62 : Int32).toInt = 62 from rfl]; omega
  have f6 : v6.toInt = e - u + 62 + b' := by rw [e6, z_add, f62, b2]; omega
  have hi : (2 * xb_i h F 1).toInt = 2 * b' := by rw [z_mul, b2, show (2 : Int32).toInt = 2 from rfl]; omega
  have hp0 : (63 - xb_i h F 0).toInt = 63 - p' := by rw [z_sub, b1, show (63 : Int32).toInt = 63 from rfl]; omega
  have hp1 : (xb_i h F 0 - 1).toInt = (p' - 1 : Nat) := by rw [z_sub, b1, show (1 : Int32).toInt = 1 from rfl]; omega
  generalize hB : N * 2 ^ u = B at f4 z3 z4
  have L : ∀ y0 : Int64, (∀ y : Int64, y.toBitVec.toNat = rnF p' b' N e → Qr (y0 ||| y) h) → w_Format_nearest_L40 Qr F v4 v6 y0 h := by
    intro y0 hQ
    have L81 : ∀ (y : Int32) (D : Nat), v6.toInt ≤ 2 * b' → (D : Int) = 63 - p' + y.toInt → y.toInt = (if e - u + 62 + b' ≤ 0 then 1 - (e - u + 62 + b') else 0) → w_Format_nearest_L81 Qr F v4 v6 y0 y (63 - xb_i h F 0) h := by
      intro y D k1 k2 k3
      have rn := rnF_n (N := N) (u := u) (D := D) (e := e) hb (by omega) (by omega) (by omega) (by omega) (by rw [k2, k3])
      rw [hB] at rn
      have yr : 0 ≤ y.toInt ∧ y.toInt ≤ 110000 := by
        rw [k3]
        split <;> omega
      unfold w_Format_nearest_L81
      intro v1 e1
      have f1 : v1.toInt = D := by rw [e1, z_add, hp0]; omega
      have fin : ∀ (x12 : Int64), x12.toBitVec.toNat = rnk B D → x12.toBitVec.toNat ≤ 9007199254740992 → w_Format_nearest_L151 Qr F v6 y0 x12 h := by
        intro x12 q1 q2
        unfold w_Format_nearest_L151 w_Format_nearest_L172
        refine ⟨fun e9 => hQ _ ?_, fun e9 => ⟨hf.1, hQ _ ?_⟩⟩
        · rw [z_le, f6, show (0 : Int32).toInt = 0 from rfl] at e9
          rw [rn, if_pos e9, Z_addN, show (0 : Int64).toBitVec.toNat = 0 from rfl, q1]
          rw [q1] at q2
          omega
        · rw [z_le, f6, show (0 : Int32).toInt = 0 from rfl] at e9
          have c2 : (v6 - 1).toInt = v6.toInt - 1 := by rw [z_sub, show (1 : Int32).toInt = 1 from rfl]; omega
          have c3 := Z_shl (x := (v6 - 1).toInt64) hp1 (by omega)
          have c4 := Z_nat (v6 - 1).toInt64
          rw [Z_of32, c2, f6] at c4
          have c5 : (v6 - 1).toInt64.toBitVec.toNat = (e - u + 62 + b' - 1).toNat := by omega
          rw [c5] at c3
          have c6 : (e - u + 62 + b' - 1).toNat * 2 ^ (p' - 1) ≤ 9218868437227405312 := by
            rcases hp with ⟨q3, q4⟩ | ⟨q3, q4⟩
            · rw [q3]
              omega
            · rw [q3]
              omega
          rw [rn, if_neg e9, Z_addN, c3, q1]
          rw [q1] at q2
          omega
      have z64 : ∀ j, 64 ≤ j → 2 * B < 2 ^ j := fun j hj => by
        have : 2 ^ 64 ≤ 2 ^ j := Nat.pow_le_pow_right (by omega) hj
        omega
      refine ⟨fun e9 v3' e3' v4' e4' v5 e5' => ?_, fun e9 => ?_⟩
      · rw [z_le, f1, show (63 : Int32).toInt = 63 from rfl] at e9
        have g3 : v3'.toBitVec.toNat = B / 2 ^ D := by rw [e3', Z_ushr f1 (by omega), f4]
        have gs : (xb_lshl 1 v1).toBitVec.toNat = 2 ^ D := by
          have : 2 ^ D ≤ 2 ^ 63 := Nat.pow_le_pow_right (by omega) (by omega)
          rw [Z_shl f1 (by omega), show (1 : Int64).toBitVec.toNat = 1 from rfl, Nat.one_mul, Nat.mod_eq_of_lt (by omega)]
        have gp : 0 < 2 ^ D := Nat.pow_pos (by omega)
        have gm : (xb_lshl 1 v1 - 1).toBitVec.toNat = 2 ^ D - 1 := by rw [Z_subN _ _ (by rw [gs]; exact gp), gs]; rfl
        have g4 : v4'.toBitVec.toNat = B % 2 ^ D := by rw [e4', Z_and_mod _ D gm, f4]
        obtain ⟨D', rfl⟩ : ∃ D', D = D' + 1 := ⟨D - 1, by omega⟩
        have f11 : (v1 - 1).toInt = D' := by rw [z_sub, f1, show (1 : Int32).toInt = 1 from rfl]; omega
        have gh : 2 ^ D' ≤ 2 ^ 62 := Nat.pow_le_pow_right (by omega) (by omega)
        have g5 : v5.toBitVec.toNat = 2 ^ D' := by rw [e5', Z_shl f11 (by omega), show (1 : Int64).toBitVec.toNat = 1 from rfl, Nat.one_mul, Nat.mod_eq_of_lt (by omega)]
        have gd : 2 ^ (D' + 1) = 2 * 2 ^ D' := by rw [Nat.pow_succ, Nat.mul_comm]
        have gl : B % 2 ^ (D' + 1) < 2 ^ (D' + 1) := Nat.mod_lt _ gp
        have kb : B / 2 ^ (D' + 1) < 9007199254740992 := by
          have a1 : 63 - p' ≤ D' + 1 := by omega
          have a2 : 2 ^ 10 ≤ 2 ^ (D' + 1) := Nat.pow_le_pow_right (by omega) (by omega)
          exact Nat.div_lt_of_lt_mul (by
            have : 2 ^ 10 * 9007199254740992 ≤ 2 ^ (D' + 1) * 9007199254740992 := Nat.mul_le_mul_right _ a2
            omega)
        have up : 2 ^ (D' + 1) < 2 * (B % 2 ^ (D' + 1)) ∨ (2 * (B % 2 ^ (D' + 1)) = 2 ^ (D' + 1) ∧ B / 2 ^ (D' + 1) % 2 = 1) → w_Format_nearest_L145 Qr F v6 y0 v3' h := by
          intro hu
          unfold w_Format_nearest_L145
          intro w1 ew
          have : w1.toBitVec.toNat = B / 2 ^ (D' + 1) + 1 := by rw [ew, Z_addN, g3, show (1 : Int64).toBitVec.toNat = 1 from rfl]; omega
          refine fin w1 ?_ (by omega)
          unfold rnk
          rw [if_pos hu, this]
        have dn : ¬ (2 ^ (D' + 1) < 2 * (B % 2 ^ (D' + 1)) ∨ (2 * (B % 2 ^ (D' + 1)) = 2 ^ (D' + 1) ∧ B / 2 ^ (D' + 1) % 2 = 1)) → w_Format_nearest_L151 Qr F v6 y0 v3' h := by
          intro hu
          refine fin v3' ?_ (by omega)
          unfold rnk
          rw [if_neg hu, g3]
          rfl
        have od : (v3' &&& 1 = 1) ↔ B / 2 ^ (D' + 1) % 2 = 1 := by
          rw [Z_eqN, Z_and_mod _ 1 rfl, g3, show (1 : Int64).toBitVec.toNat = 1 from rfl, Nat.pow_one]
        rw [Z_ltN (by omega) (by omega), g5, g4, od, Z_eqN, g4, g5]
        generalize B % 2 ^ (D' + 1) = R at *
        generalize B / 2 ^ (D' + 1) % 2 = O at *
        refine ⟨fun a => up (.inl (by omega)), fun a => ⟨fun a2 => dn (by omega), fun a2 => ⟨fun a3 => dn (by omega), fun a3 => up (.inr ⟨by omega, a3⟩)⟩⟩⟩
      · rw [z_le, f1, show (63 : Int32).toInt = 63 from rfl] at e9
        have r0 : rnk B D = 0 := rnk_z (z64 D (by omega))
        have e8 : e - u + 62 + b' ≤ 0 := Classical.byContradiction fun h9 => by
          rw [if_neg h9] at k3
          omega
        have := hQ 0 (by rw [rn, r0, if_pos e8]; rfl)
        have o0 : y0 ||| 0 = y0 := by rw [Z_eqN, Z_or]; exact Nat.or_zero _
        rw [o0] at this
        exact this
    unfold w_Format_nearest_L40
    refine ⟨hf.1, fun e9 => ?_, fun e9 => ?_⟩
    · rw [z_le, hi] at e9
      refine ⟨fun e8 => ?_, fun e8 => ?_⟩
      · rw [z_le, f6, show (0 : Int32).toInt = 0 from rfl] at e8
        have g : (1 - v6).toInt = 1 - (e - u + 62 + b') := by rw [z_sub, f6, show (1 : Int32).toInt = 1 from rfl]; omega
        exact L81 _ (63 - p' + (1 - (e - u + 62 + b'))).toNat e9 (by rw [g]; omega) (by rw [g, if_pos e8])
      · rw [z_le, f6, show (0 : Int32).toInt = 0 from rfl] at e8
        exact L81 0 (63 - p') e9 (by rw [show (0 : Int32).toInt = 0 from rfl]; omega) (by rw [if_neg e8]; rfl)
    · rw [z_le, hi, f6] at e9
      refine hQ _ ?_
      have ht : N.log2 = 62 - u := by
        subst hB
        have q1 : (4611686018427387904 : Nat) = 2 ^ (62 - u) * 2 ^ u := by rw [← Nat.pow_add, Nat.sub_add_cancel (by omega)]
        have q2 : (9223372036854775808 : Nat) = 2 ^ (62 - u + 1) * 2 ^ u := by
          rw [← Nat.pow_add, show 62 - u + 1 + u = 63 by omega]
        have hp : 0 < 2 ^ u := Nat.pow_pos (by omega)
        exact log2_of (Nat.le_of_mul_le_mul_right (by rw [← q1]; omega) hp) (Nat.lt_of_mul_lt_mul_right (by rw [← q2]; omega))
      unfold rnF
      rw [b3, ht, if_pos (by omega)]
  refine ⟨fun e9 => ?_, fun e9 => ?_⟩
  · rw [if_pos e9] at hQ
    exact L 0 hQ
  · rw [if_neg e9] at hQ
    exact L _ hQ
end FL2

-- equality, floating point: the reference's sum
section XF5
variable {ex rw_ p b a ax ay A B : Nat} {f : Nat → Nat} {h h' : xb_H} {F : List Nat} {τ : Int} {x y : Int64}
theorem rnk_0 (N : Nat) : rnk N 0 = N := by
  unfold rnk
  rw [Nat.pow_zero, Nat.div_one, Nat.mod_one, if_neg (by omega), Nat.add_zero]
theorem rf_v {N i : Nat} {e : Int} (hN : 0 < N) (he : e = (i : Int) - 2200) : rnF p b (2 * (2 ^ i * N) + 0) (-2201) = rnF p b N e := by
  have e1 : 2 * (2 ^ i * N) + 0 = N * 2 ^ (i + 1) := by
    rw [Nat.add_zero, Nat.pow_succ, Nat.mul_comm N, Nat.mul_comm (2 ^ i) 2, Nat.mul_assoc]
  rw [e1, show (-2201 : Int) = e - ((i + 1 : Nat) : Int) by omega]
  exact rnF_sc hN
theorem fwt_r (hb : fpb τ p b) : -1074 ≤ fwt p b a ∧ fwt p b a ≤ 980 := by
  have hp : (p = 24 ∧ b = 127) ∨ (p = 53 ∧ b = 1023) := by unfold fpb at hb; omega
  have := (ffl_d (a := a) hb).2.2
  unfold fwt
  split <;> omega
theorem fam_54 (hb : fpb τ p b) : fam p b a < 2 ^ 54 := by
  have hp : (p = 24 ∧ b = 127) ∨ (p = 53 ∧ b = 1023) := by unfold fpb at hb; omega
  by_cases h0 : fmg p b a = 0
  · have : fam p b a = 0 := by
      unfold fam ffl
      rw [h0, Nat.zero_div, if_pos rfl]
    rw [this]
    decide
  · exact Nat.lt_of_lt_of_le (fam_p hb h0).2 (Nat.pow_le_pow_right (by decide) (by omega))
theorem fam_0 : fmg p b a = 0 → fam p b a = 0 := fun h0 => by
  unfold fam ffl
  rw [h0, Nat.zero_div, if_pos rfl]
/-- a number is its own nearest one -/
theorem rn_id (hb : fpb τ p b) (h0 : fmg p b a ≠ 0) (h1 : fmg p b a < fI_ p b) : rnF p b (fam p b a) (fwt p b a) = fmg p b a := by
  have hp : (p = 24 ∧ b = 127) ∨ (p = 53 ∧ b = 1023) := by unfold fpb at hb; omega
  obtain ⟨d1, d2, d3⟩ := ffl_d (a := a) hb
  by_cases hf : ffl p b a = 0
  · rw [hf, Nat.zero_mul, Nat.zero_add] at d1
    have e1 : fam p b a = fmg p b a := by unfold fam; rw [if_pos hf]
    have e2 : fwt p b a = 1 - b - (p - 1 : Nat) := by unfold fwt; rw [if_pos hf]
    rw [← d1] at d2
    have lg : (fmg p b a).log2 < p - 1 := (Nat.log2_lt h0).mpr d2
    rw [e1, e2]
    unfold rnF
    rw [if_neg (by omega), if_neg (by omega), if_pos (by omega), show (2 - (1 - (b : Int) - (p - 1 : Nat)) - b - p).toNat = 0 by omega, rnk_0]
  · have e1 : fam p b a = fmg p b a % 2 ^ (p - 1) + 2 ^ (p - 1) := by unfold fam; rw [if_neg hf]
    have e2 : fwt p b a = ffl p b a - b - (p - 1 : Nat) := by unfold fwt; rw [if_neg hf]
    have lg : (fam p b a).log2 = p - 1 := log2_of (by omega) (by rw [e1, Nat.pow_succ]; omega)
    have d4 : ffl p b a ≤ 2 * b := by
      have : ffl p b a * 2 ^ (p - 1) < (2 * b + 1) * 2 ^ (p - 1) := by
        unfold fI_ at h1
        omega
      have := Nat.lt_of_mul_lt_mul_right this
      omega
    unfold rnF
    rw [lg, e2, if_neg (by omega), if_pos (by omega), if_pos (Nat.le_refl _), Nat.sub_self, rnk_0, e1]
    have e3 : ((ffl p b a : Int) - b - (p - 1 : Nat) + (p - 1 : Nat) + b - 1).toNat + 1 = ffl p b a := by omega
    generalize ((ffl p b a : Int) - b - (p - 1 : Nat) + (p - 1 : Nat) + b - 1).toNat = z at *
    rw [← e3, Nat.add_mul, Nat.one_mul] at d1
    omega
theorem eAm_f : eAm (p - 1) (fmg p b a) = fam p b a := by
  unfold eAm fam ffl
  have g := Nat.div_add_mod (fmg p b a) (2 ^ (p - 1))
  split
  · rename_i h9
    rw [h9, Nat.mul_zero] at g
    omega
  · rfl
theorem eWt_f : (eWt (p - 1) (fmg p b a) : Int) = fwt p b a + b + (p - 1 : Nat) := by
  unfold eWt fwt ffl
  split
  · omega
  · omega
theorem sc_lt {m : Int} (hb : fpb τ p b) (h1 : m ≤ fwt p b A) (h2 : m ≤ fwt p b B) (h0 : -1074 ≤ m) (hl : fmg p b B < fmg p b A) : fam p b B * 2 ^ (fwt p b B - m).toNat < fam p b A * 2 ^ (fwt p b A - m).toNat := by
  have hp : (p = 24 ∧ b = 127) ∨ (p = 53 ∧ b = 1023) := by unfold fpb at hb; omega
  have k := eAm_lm (fr := p - 1) hl
  have wA := eWt_f (p := p) (b := b) (a := A)
  have wB := eWt_f (p := p) (b := b) (a := B)
  have rA := fwt_r (a := A) hb
  have rB := fwt_r (a := B) hb
  rw [eAm_f, eAm_f] at k
  -- m may lie below the least weight of a short format
  have h3 : fwt p b A = fwt p b A := rfl
  rcases Int.lt_or_le (m + b + (p - 1 : Nat)) 0 with h9 | h9
  · obtain ⟨c, hc⟩ : ∃ c : Nat, (c : Int) = -(m + b + (p - 1 : Nat)) := ⟨(-(m + b + (p - 1 : Nat))).toNat, by omega⟩
    rw [show (fwt p b B - m).toNat = eWt (p - 1) (fmg p b B) + c by omega, show (fwt p b A - m).toNat = eWt (p - 1) (fmg p b A) + c by omega, Nat.pow_add, Nat.pow_add, ← Nat.mul_assoc, ← Nat.mul_assoc]
    exact Nat.mul_lt_mul_of_pos_right k (Nat.pow_pos (by decide))
  · obtain ⟨c, hc⟩ : ∃ c : Nat, (c : Int) = m + b + (p - 1 : Nat) := ⟨(m + b + (p - 1 : Nat)).toNat, by omega⟩
    rw [show eWt (p - 1) (fmg p b B) = (fwt p b B - m).toNat + c by omega, show eWt (p - 1) (fmg p b A) = (fwt p b A - m).toNat + c by omega, Nat.pow_add, Nat.pow_add, ← Nat.mul_assoc, ← Nat.mul_assoc] at k
    exact Nat.lt_of_mul_lt_mul_right k
theorem pw_1 {P n : Nat} (hP : P ≤ 3200) (hn : n < 2 ^ 64) : 2 ^ P * n < 2 ^ 3400 := by
  refine Nat.lt_of_lt_of_le (Nat.mul_lt_mul_of_pos_left hn (Nat.pow_pos (by decide))) ?_
  rw [← Nat.pow_add]
  exact Nat.pow_le_pow_right (by decide) (by omega)
theorem pw_2 {c d : Nat} (hc : c < 2 ^ 3400) (hd : d < 2 ^ 3400) : c + d < 2 ^ 4400 := by
  refine Nat.lt_of_lt_of_le (Nat.add_lt_add hc hd) ?_
  rw [← Nat.two_mul, ← Nat.pow_succ']
  exact Nat.pow_le_pow_right (by decide) (by decide)
theorem pw_0 {d : Nat} (hd : d < 2 ^ 3400) : 0 + d < 2 ^ 4400 := by
  rw [Nat.zero_add]
  exact Nat.lt_of_lt_of_le hd (Nat.pow_le_pow_right (by decide) (by decide))
theorem P_of {w : Int} (h1 : -1074 ≤ w) (h2 : w ≤ 980) : ∃ P : Nat, (2200 : Int) + w = P ∧ P ≤ 3200 ∧ P < 4400 ∧ 1000 ≤ P := ⟨(2200 + w).toNat, by omega, by omega, by omega, by omega⟩
theorem xr_esumT {z w : Int64} {t : Int32} {Qr : Int64 → xb_H → Prop} (hk : eK ex rw_ f h) (hm : eP ex τ h) (hb : fpb τ p b) (hz : z.toBitVec.toNat = A) (hw : w.toBitVec.toNat = B) (wA : fW p b A) (wB : fW p b B) (h0 : fmg p b A ≠ 0) (hl : fmg p b B ≤ fmg p b A) (ht : t ≠ 0 → fmg p b B < fmg p b A)
    (hQ : ∀ (r : Int64) (h' : xb_H) (f' : Nat → Nat), eF ex rw_ eFB h h' → eK ex rw_ f' h' → r.toBitVec.toNat = fsg p b A ||| rnF p b (if t = 0 then fam p b A * 2 ^ (fwt p b A - min (fwt p b A) (fwt p b B)).toNat + fam p b B * 2 ^ (fwt p b B - min (fwt p b A) (fwt p b B)).toNat else fam p b A * 2 ^ (fwt p b A - min (fwt p b A) (fwt p b B)).toNat - fam p b B * 2 ^ (fwt p b B - min (fwt p b A) (fwt p b B)).toNat) (min (fwt p b A) (fwt p b B)) → Qr r h') :
    w_Exact_clear ex h (fun (h5 : xb_H) => xb_ext h h5 → w_Exact_split ex z h5 (fun (h7 : xb_H) => xb_ext h5 h7 → ∀ v9 : Int32, v9 = (xb_i h7 ex 8) → w_Exact_add ex (xb_l h7 ex 9) (xb_i h7 ex 10) h7 (fun (h10 : xb_H) => xb_ext h7 h10 → w_Exact_split ex w h10 (fun (h12 : xb_H) => xb_ext h10 h12 → ((t = (0 : Int32) → w_Exact_add ex (xb_l h12 ex 9) (xb_i h12 ex 10) h12 (fun (h15 : xb_H) => xb_ext h12 h15 → w_Exact_sum_L245 Qr ex v9 h15)) ∧ (¬ t = (0 : Int32) → w_Exact_take ex (xb_l h12 ex 9) (xb_i h12 ex 10) h12 (fun (h17 : xb_H) => xb_ext h12 h17 → w_Exact_sum_L245 Qr ex v9 h17))))))) := by
  have rA := fwt_r (a := A) hb
  have rB := fwt_r (a := B) hb
  obtain ⟨PA, a1, a2, a3, a4⟩ := P_of rA.1 rA.2
  obtain ⟨PB, b1, b2, b3, b4⟩ := P_of rB.1 rB.2
  have nA := Nat.lt_of_lt_of_le (fam_54 (a := A) hb) (show 2 ^ 54 ≤ 2 ^ 64 by decide)
  have nB := Nat.lt_of_lt_of_le (fam_54 (a := B) hb) (show 2 ^ 54 ≤ 2 ^ 64 by decide)
  have pA := (fam_p hb h0).1
  obtain ⟨i, hi⟩ : ∃ i : Nat, min (fwt p b A) (fwt p b B) = (i : Int) - 2200 := ⟨(2200 + min (fwt p b A) (fwt p b B)).toNat, by omega⟩
  have sA : 2 ^ PA * fam p b A = 2 ^ i * (fam p b A * 2 ^ (fwt p b A - min (fwt p b A) (fwt p b B)).toNat) := by
    rw [Nat.mul_left_comm, ← Nat.pow_add, show i + (fwt p b A - min (fwt p b A) (fwt p b B)).toNat = PA by omega, Nat.mul_comm]
  have sB : 2 ^ PB * fam p b B = 2 ^ i * (fam p b B * 2 ^ (fwt p b B - min (fwt p b A) (fwt p b B)).toNat) := by
    rw [Nat.mul_left_comm, ← Nat.pow_add, show i + (fwt p b B - min (fwt p b A) (fwt p b B)).toNat = PB by omega, Nat.mul_comm]
  have sL : fmg p b B < fmg p b A → fam p b B * 2 ^ (fwt p b B - min (fwt p b A) (fwt p b B)).toNat < fam p b A * 2 ^ (fwt p b A - min (fwt p b A) (fwt p b B)).toNat := fun h9 => sc_lt hb (Int.min_le_left _ _) (Int.min_le_right _ _) (by omega) h9
  have sp0 : 0 < fam p b A * 2 ^ (fwt p b A - min (fwt p b A) (fwt p b B)).toNat := Nat.mul_pos pA (Nat.pow_pos (by decide))
  clear a4 b4 rA rB
  generalize fam p b A * 2 ^ (fwt p b A - min (fwt p b A) (fwt p b B)).toNat = SA at *
  generalize fam p b B * 2 ^ (fwt p b B - min (fwt p b A) (fwt p b B)).toNat = SB at *
  refine xr_eclear hk (fun h5 f5 k5 z5 _ => ?_)
  have m5 := hm.fr f5 (by decide)
  refine xr_esplit k5 m5 hb hz wA (fun h7 f7 k7 m7 l7 w7 u7 c7 _ v9 e9 => ?_)
  refine xr_eadd k7 (by rw [w7]; exact a1) a3 (by rw [l7, eU_zero]; exact pw_0 (pw_1 a2 nA)) (fun g10 h10 f10 k10 q10 _ => ?_)
  rw [eU_zero, Nat.zero_add, l7] at q10
  have m10 := m7.fr f10 (by decide)
  refine xr_esplit k10 m10 hb hw wB (fun h12 f12 k12 m12 l12 w12 _ _ _ => ?_)
  have FA := (((f5.tr f7).tr f10).tr f12)
  have z12 : (xb_i h12 ex 4).toInt = (0 : Nat) := by
    rw [f12.2.2.2.2.2.1 4 (by decide), f10.2.2.2.2.2.1 4 (by decide), f7.2.2.2.2.2.1 4 (by decide), z5]
    rfl
  have sg : (if v9 = 0 then 0 else fS p b) = fsg p b A := by
    unfold fsg
    rw [e9]
    by_cases h9 : xb_i h7 ex 8 = 0
    · rw [if_pos h9, if_pos (c7.mp h9)]
    · rw [if_neg h9, if_neg (fun h8 => h9 (c7.mpr h8))]
  refine ⟨fun e => xr_eadd k12 (by rw [w12]; exact b1) b3 (by rw [l12, q10]; exact pw_2 (pw_1 a2 nA) (pw_1 b2 nB)) (fun g' h' f' k' q' _ => ?_), fun e => xr_esub k12 (by rw [w12]; exact b1) b3 ?_ (fun g' h' f' k' q' _ => ?_)⟩
  · have eV : eU g' 0 4400 = 2 ^ i * (SA + SB) := by rw [q', q10, l12, sA, sB, Nat.mul_add]
    have pV : 0 < SA + SB := Nat.lt_of_lt_of_le sp0 (Nat.le_add_right _ _)
    unfold w_Exact_sum_L245
    refine ⟨k'.1.1, xr_rounded k' (m12.fr f' (by decide)) hb (by rw [eV]; exact Nat.mul_pos (Nat.pow_pos (by decide)) pV) (ρ := 0) (by rw [f'.2.2.2.2.2.1 4 (by decide)]; exact z12) (fun r hr _ => hQ r h' g' ((FA.tr f').mono (by decide)) k' ?_)⟩
    rw [hr, sg, eV, rf_v pV hi, if_pos e]
  · rw [l12, q10, sA, sB]
    exact Nat.mul_le_mul_left _ (Nat.le_of_lt (sL (ht e)))
  · have sl := sL (ht e)
    have eV : eU g' 0 4400 = 2 ^ i * (SA - SB) := by
      rw [l12, q10, sA, sB] at q'
      rw [Nat.mul_sub]
      generalize 2 ^ i * SA = X at *
      generalize 2 ^ i * SB = Y at *
      exact Nat.eq_sub_of_add_eq q'
    have pV : 0 < SA - SB := Nat.sub_pos_of_lt sl
    unfold w_Exact_sum_L245
    refine ⟨k'.1.1, xr_rounded k' (m12.fr f' (by decide)) hb (by rw [eV]; exact Nat.mul_pos (Nat.pow_pos (by decide)) pV) (ρ := 0) (by rw [f'.2.2.2.2.2.1 4 (by decide)]; exact z12) (fun r hr _ => hQ r h' g' ((FA.tr f').mono (by decide)) k' ?_)⟩
    rw [hr, sg, eV, rf_v pV hi, if_neg e]
end XF5

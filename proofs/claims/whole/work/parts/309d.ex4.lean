-- the reference's exact numbers: formats, rounding, splitting
theorem Z_sar {x : Int64} {y : Int32} {k : Nat} (hy : y.toInt = k) (hk : k < 64) : (xb_lshr x y).toInt = x.toInt / (2 ^ k : Nat) := by
  have e1 := z_sh hy hk
  have e3 : ((y.toInt64 &&& 63).toBitVec.smod 64).toNat = k := by
    have : (y.toInt64 &&& 63).toBitVec = BitVec.ofNat 64 k := by
      apply BitVec.eq_of_toNat_eq
      rw [e1, BitVec.toNat_ofNat]
      omega
    rw [this]
    have : ∀ k, k < 64 → ((BitVec.ofNat 64 k).smod 64).toNat = k := by decide
    exact this k hk
  show (xb_lshr x y).toBitVec.toInt = _
  unfold xb_lshr
  rw [Int64.toBitVec_shiftRight]
  show (x.toBitVec.sshiftRight ((y.toInt64 &&& 63).toBitVec.smod 64).toNat).toInt = _
  rw [BitVec.toInt_sshiftRight, e3, Int.shiftRight_eq_div_pow]
  rfl
/-- a number's significand and power, from its size -/
def eAm (fr s : Nat) : Nat := if s / 2 ^ fr = 0 then s % 2 ^ fr else s % 2 ^ fr + 2 ^ fr
def eWt (fr s : Nat) : Nat := if s / 2 ^ fr = 0 then 1 else s / 2 ^ fr
theorem eAm_mono {fr s t : Nat} (h : t ≤ s) : eAm fr t * 2 ^ eWt fr t ≤ eAm fr s * 2 ^ eWt fr s := by
  have hp : 0 < 2 ^ fr := Nat.two_pow_pos fr
  have d1 := Nat.div_add_mod s (2 ^ fr)
  have d2 := Nat.div_add_mod t (2 ^ fr)
  have l1 := Nat.mod_lt s hp
  have l2 := Nat.mod_lt t hp
  have hd : t / 2 ^ fr ≤ s / 2 ^ fr := Nat.div_le_div_right h
  unfold eAm eWt
  generalize s / 2 ^ fr = a at *
  generalize t / 2 ^ fr = b at *
  generalize s % 2 ^ fr = c at *
  generalize t % 2 ^ fr = d at *
  generalize 2 ^ fr = P at *
  by_cases he : b = a
  · subst he
    have hm : d ≤ c := by omega
    split
    · exact Nat.mul_le_mul_right _ hm
    · exact Nat.mul_le_mul_right _ (by omega)
  · have hs : a ≠ 0 := by omega
    rw [if_neg hs, if_neg hs]
    split
    · have a1 : d ≤ c + P := by omega
      have a2 : 2 ^ 1 ≤ 2 ^ a := Nat.pow_le_pow_right (by omega) (by omega)
      exact Nat.mul_le_mul a1 a2
    · have a1 : d + P ≤ 2 * (c + P) := by omega
      have a2 : 2 * 2 ^ b ≤ 2 ^ a := by
        have : 2 ^ (b + 1) ≤ 2 ^ a := Nat.pow_le_pow_right (by omega) (by omega)
        rw [Nat.pow_succ] at this
        omega
      calc (d + P) * 2 ^ b ≤ (2 * (c + P)) * 2 ^ b := Nat.mul_le_mul_right _ a1
        _ = (c + P) * (2 * 2 ^ b) := by rw [Nat.mul_comm 2, Nat.mul_assoc]
        _ ≤ (c + P) * 2 ^ a := Nat.mul_le_mul_left _ a2
section EX4
variable {ex rw_ : Nat} {f g : Nat → Nat} {h h' h2 : xb_H} {F F2 : List Nat}
theorem sp_esigned {x : Int64} {s : Int32} {Qr : Int64 → xb_H → Prop} (k1 : xb_k h ex = 10) (hQ : ∀ r : Int64, Qr r h) : w_Exact_signed ex x s h Qr := by
  unfold w_Exact_signed w_Exact_signed_L18
  exact ⟨fun _ => hQ _, fun _ => ⟨k1, hQ _⟩⟩
theorem sp_einfinite {s : Int32} {Qr : Int64 → xb_H → Prop} (k1 : xb_k h ex = 10) (hQ : ∀ r : Int64, Qr r h) : w_Exact_infinite ex s h Qr := by
  unfold w_Exact_infinite
  exact ⟨k1, sp_esigned k1 (fun r _ => hQ r)⟩
theorem sp_esize {x : Int64} {Qr : Int64 → xb_H → Prop} (k1 : xb_k h ex = 10) (hQ : ∀ r : Int64, r = x &&& ((xb_lshl 1 ((xb_i h ex 5) - 1)) - 1) → Qr r h) : w_Exact_size ex x h Qr := by
  unfold w_Exact_size
  exact ⟨k1, hQ _ rfl⟩
theorem sp_eisMinus {x : Int64} {Qr : Int32 → xb_H → Prop} (k1 : xb_k h ex = 10) (hQ : ∀ r : Int32, r = 0 ∨ r = 1 → Qr r h) : w_Exact_isMinus ex x h Qr := by
  unfold w_Exact_isMinus w_Exact_isMinus_L20
  exact ⟨k1, fun _ => ⟨.inl rfl, hQ 0 (.inl rfl)⟩, fun _ => ⟨.inr rfl, hQ 1 (.inr rfl)⟩⟩
theorem sp_eisNone {x : Int64} {Qr : Int32 → xb_H → Prop} (k1 : xb_k h ex = 10) (hQ : ∀ r : Int32, Qr r h) : w_Exact_isNone ex x h Qr := by
  unfold w_Exact_isNone w_Exact_isNone_L19
  exact ⟨k1, sp_esize k1 (fun _ _ _ => sp_einfinite k1 (fun _ _ => ⟨fun _ => ⟨.inl rfl, hQ 0⟩, fun _ => ⟨.inr rfl, hQ 1⟩⟩))⟩
theorem sp_eisInfinite {x : Int64} {Qr : Int32 → xb_H → Prop} (k1 : xb_k h ex = 10) (hQ : ∀ r : Int32, Qr r h) : w_Exact_isInfinite ex x h Qr := by
  unfold w_Exact_isInfinite w_Exact_isInfinite_L19
  exact ⟨k1, sp_esize k1 (fun _ _ _ => sp_einfinite k1 (fun _ _ => ⟨fun _ => ⟨.inl rfl, hQ 0⟩, fun _ => ⟨.inr rfl, hQ 1⟩⟩))⟩
theorem sp_eisZero {x : Int64} {Qr : Int32 → xb_H → Prop} (k1 : xb_k h ex = 10) (hQ : ∀ r : Int32, (r = 0 ∧ x &&& ((xb_lshl 1 ((xb_i h ex 5) - 1)) - 1) ≠ 0) ∨ r = 1 → Qr r h) : w_Exact_isZero ex x h Qr := by
  unfold w_Exact_isZero w_Exact_isZero_L15
  exact ⟨k1, sp_esize k1 (fun r hr _ => ⟨fun e => ⟨.inl rfl, hQ 0 (.inl ⟨rfl, by rw [← hr]; exact e⟩)⟩, fun _ => ⟨.inr rfl, hQ 1 (.inr rfl)⟩⟩)⟩
theorem sp_enoNumber {Qr : Int64 → xb_H → Prop} (k1 : xb_k h ex = 10) (hQ : ∀ r : Int64, Qr r h) : w_Exact_noNumber ex h Qr := by
  unfold w_Exact_noNumber w_Exact_noNumber_L18
  exact ⟨k1, fun _ => hQ _, fun _ => hQ _⟩
theorem sp_eless {x y : Int64} {o : Int32} {Qr : Int32 → xb_H → Prop} (k1 : xb_k h ex = 10) (hQ : ∀ r : Int32, r = 0 ∨ r = 1 → Qr r h) : w_Exact_less ex x o y h Qr := by
  unfold w_Exact_less w_Exact_less_L22 w_Exact_less_L49 w_Exact_less_L71 w_Exact_less_L75 w_Exact_less_L76
  have a : ((0 : Int32) = 0 ∨ (0 : Int32) = 1) ∧ Qr 0 h := ⟨.inl rfl, hQ 0 (.inl rfl)⟩
  have b : ((1 : Int32) = 0 ∨ (1 : Int32) = 1) ∧ Qr 1 h := ⟨.inr rfl, hQ 1 (.inr rfl)⟩
  exact ⟨k1, sp_eisMinus k1 (fun _ _ _ => ⟨fun _ => sp_esize k1 (fun _ _ _ => ⟨k1, sp_eisMinus k1 (fun _ _ _ => ⟨fun _ => sp_esize k1 (fun _ _ _ => ⟨fun _ => b, fun _ => ⟨fun _ => a, fun _ => ⟨fun _ => a, fun _ => b⟩⟩⟩), fun _ => sp_esize k1 (fun _ _ _ => ⟨fun _ => b, fun _ => ⟨fun _ => a, fun _ => ⟨fun _ => a, fun _ => b⟩⟩⟩)⟩)⟩), fun _ => sp_esize k1 (fun _ _ _ => ⟨k1, sp_eisMinus k1 (fun _ _ _ => ⟨fun _ => sp_esize k1 (fun _ _ _ => ⟨fun _ => b, fun _ => ⟨fun _ => a, fun _ => ⟨fun _ => a, fun _ => b⟩⟩⟩), fun _ => sp_esize k1 (fun _ _ _ => ⟨fun _ => b, fun _ => ⟨fun _ => a, fun _ => ⟨fun _ => a, fun _ => b⟩⟩⟩)⟩)⟩)⟩)⟩
theorem sp_ecompared {w : Int32} {x y : Int64} {Qr : Int32 → xb_H → Prop} (k1 : xb_k h ex = 10) (hQ : ∀ r : Int32, Qr r h) : w_Exact_compared ex w x y h Qr := by
  have L55 : ∀ y0 : Int32, (y0 = 0 ∨ y0 = 1) → w_Exact_compared_L55 Qr ex w x y y0 h := by
    intro y0 hy
    unfold w_Exact_compared_L55 w_Exact_compared_L105
    exact ⟨fun _ => ⟨hy, hQ _⟩, fun _ => ⟨fun _ => ⟨.inl rfl, hQ _⟩, fun _ => ⟨.inr rfl, hQ _⟩⟩, fun _ => ⟨k1, sp_eless k1 (fun r hr _ => ⟨hr, hQ r⟩)⟩, fun _ => ⟨k1, sp_eless k1 (fun r hr _ => ⟨hr, hQ r⟩)⟩, fun _ => ⟨k1, sp_eless k1 (fun r hr _ => ⟨hr, hQ r⟩)⟩, fun _ _ _ _ _ => ⟨k1, sp_eless k1 (fun r hr _ => ⟨hr, hQ r⟩)⟩⟩
  have L17 : w_Exact_compared_L17 Qr w h := by
    unfold w_Exact_compared_L17 w_Exact_compared_L27
    exact ⟨fun _ => ⟨.inl rfl, hQ _⟩, fun _ => ⟨.inr rfl, hQ _⟩⟩
  unfold w_Exact_compared w_Exact_compared_L54
  exact ⟨k1, sp_eisNone k1 (fun _ _ => ⟨fun _ => L17, fun _ => sp_eisNone k1 (fun _ _ => ⟨fun _ => sp_eless k1 (fun _ _ _ => ⟨fun _ => L55 0 (.inl rfl), fun _ => sp_eless k1 (fun _ _ _ => ⟨fun _ => L55 0 (.inl rfl), fun _ => L55 1 (.inr rfl)⟩)⟩), fun _ => L17⟩)⟩)⟩
theorem sp_elesser {w : Int32} {x y : Int64} {Qr : Int64 → xb_H → Prop} (k1 : xb_k h ex = 10) (hQ : ∀ r : Int64, Qr r h) : w_Exact_lesser ex w x y h Qr := by
  have L79 : w_Exact_lesser_L79 Qr ex w x y h := by
    unfold w_Exact_lesser_L79 w_Exact_lesser_L97
    exact ⟨k1, sp_eless k1 (fun _ _ _ => ⟨fun _ => hQ _, fun _ => hQ _⟩)⟩
  have L75 : ∀ (s : Int32) (z : Int64), w_Exact_lesser_L75 Qr s z ex h := by
    intro s z
    unfold w_Exact_lesser_L75 w_Exact_lesser_L78
    exact ⟨k1, sp_esigned k1 (fun r _ => hQ r)⟩
  have L45 : ∀ (s : Int32) (z : Int64), w_Exact_lesser_L45 Qr s z ex h := by
    intro s z
    unfold w_Exact_lesser_L45 w_Exact_lesser_L78
    exact ⟨k1, sp_esigned k1 (fun r _ => hQ r)⟩
  unfold w_Exact_lesser w_Exact_lesser_L70 w_Exact_lesser_L44
  exact ⟨k1, sp_eisZero k1 (fun _ _ _ => ⟨fun _ => L79, fun _ => sp_eisZero k1 (fun _ _ _ => ⟨fun _ => L79, fun _ => ⟨fun _ => sp_eisMinus k1 (fun _ _ _ => ⟨fun _ => L75 _ _, fun _ => sp_eisMinus k1 (fun _ _ _ => ⟨fun _ => L75 _ _, fun _ => L75 _ _⟩)⟩), fun _ => sp_eisMinus k1 (fun _ _ _ => ⟨fun _ => L45 _ _, fun _ => sp_eisMinus k1 (fun _ _ _ => ⟨fun _ => L45 _ _, fun _ => L45 _ _⟩)⟩)⟩⟩)⟩)⟩
theorem sp_ebyDivision {v w : Int32} {x y : Int64} {Qr : Int64 → xb_H → Prop} (hk : eK ex rw_ f h) (hQ : ∀ (r : Int64) (h' : xb_H), eF ex rw_ [0] h h' → eK ex rw_ f h' → Qr r h') : w_Exact_byDivision ex v w x y h Qr := by
  have k1 := hk.1.1
  have q0 : ∀ r : Int64, Qr r h := fun r => hQ r h eF.rf hk
  have qc : ∀ (c : Int32) (h5 : xb_H), h5 = xb_I h ex 0 c → Qr 0 h5 := fun c h5 e5 => by
    rw [e5]
    exact hQ 0 _ (eF.I hk.1) (hk.I (by omega) (by omega) (by omega))
  have L194 : ∀ (a : Int64) (b : Int32), w_Exact_byDivision_L194 Qr a b h := by
    intro a b
    unfold w_Exact_byDivision_L194 w_Exact_byDivision_L207
    exact ⟨fun _ => q0 _, fun _ => q0 _⟩
  have L164 : ∀ (a : Int32) (b : Int64) (c : Int32), w_Exact_byDivision_L164 Qr ex w a b c h := by
    intro a b c
    unfold w_Exact_byDivision_L164
    exact ⟨fun _ => L194 _ _, fun _ => ⟨fun _ => L194 _ _, fun _ => ⟨fun _ => L194 _ _, fun _ => ⟨k1, qc 3⟩⟩⟩⟩
  have L144 : ∀ (a : Int32) (b c : Int64) (e : Int32), w_Exact_byDivision_L144 Qr ex w a b c e h := by
    intro a b c e
    unfold w_Exact_byDivision_L144 w_Exact_byDivision_L156
    exact ⟨fun _ => ⟨fun _ => L164 _ _ _, fun _ => L164 _ _ _⟩, fun _ => ⟨fun _ => L164 _ _ _, fun _ => L164 _ _ _⟩⟩
  have L105 : ∀ (a : Int32) (b c e e' : Int64), w_Exact_byDivision_L105 Qr ex w a b c e e' h := by
    intro a b c e e'
    unfold w_Exact_byDivision_L105
    exact sp_edivided (fun r _ => ⟨fun _ => ⟨fun _ => L144 _ _ _ _, fun _ => L144 _ _ _ _⟩, fun _ => ⟨fun _ => L164 _ _ _, fun _ => L164 _ _ _⟩⟩)
  have L30 : ∀ (a b : Int32), w_Exact_byDivision_L30 Qr ex w x y a b h := by
    intro a b
    unfold w_Exact_byDivision_L30 w_Exact_byDivision_L90
    exact ⟨fun _ => ⟨fun _ => sp_ewithSign (fun _ _ => sp_ewithSign (fun _ _ => ⟨fun _ => ⟨fun _ => L105 _ _ _ _ _, fun _ => L105 _ _ _ _ _⟩, fun _ => ⟨fun _ => L105 _ _ _ _ _, fun _ => L105 _ _ _ _ _⟩⟩)), fun _ => sp_edivided (fun r _ => q0 r)⟩, fun _ => ⟨k1, qc 2⟩⟩
  have L17 : ∀ a : Int32, w_Exact_byDivision_L17 Qr ex v w x y a h := by
    intro a
    unfold w_Exact_byDivision_L17
    exact ⟨fun _ => L30 _ _, fun _ => L30 _ _⟩
  unfold w_Exact_byDivision w_Exact_byDivision_L12
  exact ⟨fun _ => L17 _, fun _ => ⟨fun _ => L17 _, fun _ => L17 _⟩⟩
theorem sp_ereckoned {v w : Int32} {x y : Int64} {Qr : Int64 → xb_H → Prop} (hk : eK ex rw_ f h) (hw : w = 32 ∨ w = 64) (hQ : ∀ (r : Int64) (h' : xb_H), eF ex rw_ [0] h h' → eK ex rw_ f h' → Qr r h') : w_Exact_reckoned ex v w x y h Qr := by
  have q0 : ∀ r : Int64, Qr r h := fun r => hQ r h eF.rf hk
  unfold w_Exact_reckoned
  intro v1 e1
  have hv1 : 0 ≤ v1.toInt ∧ v1.toInt < 64 := by
    rcases hw with e | e <;> subst e
    · have e2 : (y &&& Int32.toInt64 (32 - 1)).toInt = y.toInt % (2 ^ 5 : Nat) := Z_mask y 5 rfl (by omega)
      rw [e1, z_of64, e2]
      omega
    · have e2 : (y &&& Int32.toInt64 (64 - 1)).toInt = y.toInt % (2 ^ 6 : Nat) := Z_mask y 6 rfl (by omega)
      rw [e1, z_of64, e2]
      omega
  have L92 : w_Exact_reckoned_L92 Qr v w x h := by
    unfold w_Exact_reckoned_L92
    rcases hw with e | e <;> subst e
    · exact sp_ecount (n := 32) rfl (by omega) (fun r _ => q0 _)
    · exact sp_ecount (n := 64) rfl (by omega) (fun r _ => q0 _)
  have L115 : w_Exact_reckoned_L115 Qr ex v w x y h := by
    unfold w_Exact_reckoned_L115
    exact ⟨hk.1.1, sp_ebyDivision hk (fun r h' a b _ => hQ r h' a b)⟩
  have L140 : w_Exact_reckoned_L140 Qr v w x v1 h := by
    unfold w_Exact_reckoned_L140
    exact sp_emoved (by omega) (fun r _ => q0 r)
  refine ⟨fun _ => L92, fun _ => L92, fun _ => L92, fun _ => q0 _, fun _ => q0 _, fun _ => q0 _, fun _ => L115, fun _ => L115, fun _ => L115, fun _ => L115, fun _ => q0 _, fun _ => q0 _, fun _ => q0 _, fun _ => L140, fun _ => L140, fun _ => L140, fun _ => sp_eturned (by omega) (fun r _ => q0 r), fun _ _ _ _ _ _ _ _ _ _ _ _ _ _ _ _ _ => ⟨?_, sp_eturned ?_ (fun r _ => q0 r)⟩⟩
  · rcases hw with e | e <;> subst e <;> decide
  · rcases hw with e | e <;> subst e
    · have y0 : v1.toInt < 32 := by
        have e2 : (y &&& Int32.toInt64 (32 - 1)).toInt = y.toInt % (2 ^ 5 : Nat) := Z_mask y 5 rfl (by omega)
        rw [e1, z_of64, e2]
        omega
      have y1 : (32 - v1).toInt = 32 - v1.toInt := by
        rw [z_sub, show (32 : Int32).toInt = 32 from rfl]
        omega
      have y2 : ((32 - v1) / 32).toInt = (32 - v1).toInt.tdiv 32 := by
        rw [Int32.toInt_div_of_ne_right _ _ (by decide)]
        rfl
      have y3 : (32 - v1).toInt.tdiv 32 = (32 - v1).toInt / 32 := Int.tdiv_eq_ediv_of_nonneg (by omega)
      rw [y3] at y2
      have y4 : ((32 - v1) / 32 * 32).toInt = (32 - v1).toInt / 32 * 32 := by
        rw [z_mul, y2, show (32 : Int32).toInt = 32 from rfl]
        omega
      rw [z_sub, y4, y1]
      omega
    · have y0 : v1.toInt < 64 := by
        have e2 : (y &&& Int32.toInt64 (64 - 1)).toInt = y.toInt % (2 ^ 6 : Nat) := Z_mask y 6 rfl (by omega)
        rw [e1, z_of64, e2]
        omega
      have y1 : (64 - v1).toInt = 64 - v1.toInt := by
        rw [z_sub, show (64 : Int32).toInt = 64 from rfl]
        omega
      have y2 : ((64 - v1) / 64).toInt = (64 - v1).toInt.tdiv 64 := by
        rw [Int32.toInt_div_of_ne_right _ _ (by decide)]
        rfl
      have y3 : (64 - v1).toInt.tdiv 64 = (64 - v1).toInt / 64 := Int.tdiv_eq_ediv_of_nonneg (by omega)
      rw [y3] at y2
      have y4 : ((64 - v1) / 64 * 64).toInt = (64 - v1).toInt / 64 * 64 := by
        rw [z_mul, y2, show (64 : Int32).toInt = 64 from rfl]
        omega
      rw [z_sub, y4, y1]
      omega
theorem sp_eformat {w : Int32} {Qr : xb_H → Prop} (hk : eK ex rw_ f h) (hw : w = 32 ∨ w = 64) (hQ : ∀ h' : xb_H, eF ex rw_ [5, 6, 7] h h' → eK ex rw_ f h' → eM ex h' → Qr h') : w_Exact_format ex w h Qr := by
  unfold w_Exact_format w_Exact_format_L19 w_Exact_format_L37
  refine ⟨hk.1.1, fun h2 e2 => ?_⟩
  have fin : ∀ (y z : Int32), (w = 32 ∧ y = 23 ∧ z = 127) ∨ (w = 64 ∧ y = 52 ∧ z = 1023) → ∀ h3 : xb_H, h3 = xb_I h2 ex 6 y → ∀ h4 : xb_H, h4 = xb_I h3 ex 7 z → Qr h4 := by
    intro y z hyz h3 e3 h4 e4
    have f2 : eF ex rw_ [5] h h2 := by rw [e2]; exact eF.I hk.1
    have k2 : eK ex rw_ f h2 := by rw [e2]; exact hk.I (by omega) (by omega) (by omega)
    have f3 : eF ex rw_ [6] h2 h3 := by rw [e3]; exact eF.I k2.1
    have k3 : eK ex rw_ f h3 := by rw [e3]; exact k2.I (by omega) (by omega) (by omega)
    have f4 : eF ex rw_ [7] h3 h4 := by rw [e4]; exact eF.I k3.1
    have k4 : eK ex rw_ f h4 := by rw [e4]; exact k3.I (by omega) (by omega) (by omega)
    refine hQ h4 ((f2.tr (f3.tr f4)).mono (by decide)) k4 ?_
    have i5 : xb_i h4 ex 5 = w := by rw [f4.2.2.2.2.2.1 5 (by decide), f3.2.2.2.2.2.1 5 (by decide), e2, xh_iI, if_pos rfl, xh_up, if_pos rfl]
    have i6 : xb_i h4 ex 6 = y := by rw [f4.2.2.2.2.2.1 6 (by decide), e3, xh_iI, if_pos rfl, xh_up, if_pos rfl]
    have i7 : xb_i h4 ex 7 = z := by rw [e4, xh_iI, if_pos rfl, xh_up, if_pos rfl]
    unfold eM
    rw [i5, i6, i7]
    exact hyz
  have k2 : xb_k h2 ex = 10 := by rw [e2, xh_kI]; exact hk.1.1
  rcases hw with e | e <;> subst e
  · exact ⟨fun e => absurd rfl e, fun _ => ⟨k2, fun h3 e3 => ⟨fun e => absurd rfl e, fun _ => ⟨by rw [e3, xh_kI]; exact k2, fun h4 e4 => fin 23 127 (.inl ⟨rfl, rfl, rfl⟩) h3 e3 h4 e4⟩⟩⟩⟩
  · exact ⟨fun _ => ⟨k2, fun h3 e3 => ⟨fun _ => ⟨by rw [e3, xh_kI]; exact k2, fun h4 e4 => fin 52 1023 (.inr ⟨rfl, rfl, rfl⟩) h3 e3 h4 e4⟩, fun e => absurd e (by decide)⟩⟩, fun e => absurd e (by decide)⟩
end EX4

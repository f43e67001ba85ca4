-- equality, floating point: the reference's small methods
/-- the format that is set -/
def eP (ex : Nat) (τ : Int) (h : xb_H) : Prop := (τ = 125 ∧ xb_i h ex 5 = 32 ∧ xb_i h ex 6 = 23 ∧ xb_i h ex 7 = 127) ∨ (τ = 124 ∧ xb_i h ex 5 = 64 ∧ xb_i h ex 6 = 52 ∧ xb_i h ex 7 = 1023)
/-- what a method may change, but for its code -/
def eFB : List Nat := [2, 3, 4, 5, 6, 7, 8, 9, 10]
section XF1
variable {ex rw_ p b a ax ay : Nat} {f : Nat → Nat} {h h' : xb_H} {F : List Nat} {τ : Int} {x y : Int64}
theorem eP.m (hp : eP ex τ h) : eM ex h := hp.elim (fun h9 => .inl h9.2) (fun h9 => .inr h9.2)
theorem eP.fr (hm : eP ex τ h) (e1 : eF ex rw_ F h h') (hF : 5 ∉ F ∧ 6 ∉ F ∧ 7 ∉ F) : eP ex τ h' := by
  unfold eP
  rw [e1.2.2.2.2.2.1 5 hF.1, e1.2.2.2.2.2.1 6 hF.2.1, e1.2.2.2.2.2.1 7 hF.2.2]
  exact hm
theorem eP.n (hm : eP ex τ h) (hb : fpb τ p b) : (xb_i h ex 6).toInt = (p - 1 : Nat) ∧ (xb_i h ex 7).toInt = b ∧ ∃ k : Nat, (xb_i h ex 5 - 1).toInt = k ∧ k ≤ 63 ∧ fS p b = 2 ^ k := by
  rcases hm with ⟨e, e5, e6, e7⟩ | ⟨e, e5, e6, e7⟩ <;> rcases hb with ⟨g, rfl, rfl⟩ | ⟨g, rfl, rfl⟩
  · rw [e5, e6, e7]
    exact ⟨rfl, rfl, 31, rfl, by decide, by decide⟩
  · omega
  · omega
  · rw [e5, e6, e7]
    exact ⟨rfl, rfl, 63, rfl, by decide, by decide⟩
theorem eP.s (hm : eP ex τ h) (hb : fpb τ p b) : (xb_lshl 1 (xb_i h ex 5 - 1)).toBitVec.toNat = fS p b := by
  obtain ⟨-, -, k, e1, e2, e3⟩ := hm.n hb
  rw [Z_shl e1 (by omega), show (1 : Int64).toBitVec.toNat = 1 from rfl, Nat.one_mul, e3]
  exact Nat.mod_eq_of_lt (Nat.lt_of_le_of_lt (Nat.pow_le_pow_right (by decide) e2) (by decide))
theorem xr_esigned {s : Int32} {n : Nat} {Qr : Int64 → xb_H → Prop} (k1 : xb_k h ex = 10) (hm : eP ex τ h) (hb : fpb τ p b) (hx : x.toBitVec.toNat = n) (hQ : ∀ r : Int64, r.toBitVec.toNat = (if s = 0 then 0 else fS p b) ||| n → Qr r h) : w_Exact_signed ex x s h Qr := by
  unfold w_Exact_signed w_Exact_signed_L18
  refine ⟨fun e => hQ _ ?_, fun e => ⟨k1, hQ _ ?_⟩⟩
  · rw [if_pos e, Nat.zero_or, hx]
  · rw [if_neg e, Z_or, hm.s hb, hx, Nat.or_comm]
theorem xr_einfinite {s : Int32} {Qr : Int64 → xb_H → Prop} (k1 : xb_k h ex = 10) (hm : eP ex τ h) (hb : fpb τ p b) (hQ : ∀ r : Int64, r.toBitVec.toNat = (if s = 0 then 0 else fS p b) ||| fI_ p b → Qr r h) : w_Exact_infinite ex s h Qr := by
  unfold w_Exact_infinite
  refine ⟨k1, xr_esigned k1 hm hb ?_ (fun r hr _ => hQ r hr)⟩
  rcases hm with ⟨e, e5, e6, e7⟩ | ⟨e, e5, e6, e7⟩ <;> rcases hb with ⟨g, rfl, rfl⟩ | ⟨g, rfl, rfl⟩
  · rw [e6, e7]
    decide
  · omega
  · omega
  · rw [e6, e7]
    decide
theorem xr_enoNumber {Qr : Int64 → xb_H → Prop} (k1 : xb_k h ex = 10) (hm : eP ex τ h) (hb : fpb τ p b) (hQ : ∀ r : Int64, r.toBitVec.toNat = fnn p b → Qr r h) : w_Exact_noNumber ex h Qr := by
  unfold w_Exact_noNumber w_Exact_noNumber_L18
  rcases hm with ⟨e, e5, e6, e7⟩ | ⟨e, e5, e6, e7⟩ <;> rcases hb with ⟨g, rfl, rfl⟩ | ⟨g, rfl, rfl⟩
  · rw [e5]
    exact ⟨k1, fun h9 => absurd rfl h9, fun _ => hQ _ (by decide)⟩
  · omega
  · omega
  · rw [e5]
    exact ⟨k1, fun _ => hQ _ (by decide), fun h9 => absurd h9 (by decide)⟩
theorem eP.z (hm : eP ex τ h) (hb : fpb τ p b) (hx : x.toBitVec.toNat = a) : (x &&& ((xb_lshl 1 ((xb_i h ex 5) - 1)) - 1)).toBitVec.toNat = fmg p b a := by
  obtain ⟨-, -, k, e1, e2, e3⟩ := hm.n hb
  have s := hm.s hb
  have hp : 0 < 2 ^ k := Nat.pow_pos (by decide)
  have e4 : (xb_lshl 1 (xb_i h ex 5 - 1) - 1).toBitVec.toNat = 2 ^ k - 1 := by
    rw [Z_subN _ _ (by rw [s, e3]; exact hp), s, e3]
    rfl
  rw [Z_and_mod _ k e4, hx]
  unfold fmg
  rw [e3]
theorem xr_esize {Qr : Int64 → xb_H → Prop} (k1 : xb_k h ex = 10) (hm : eP ex τ h) (hb : fpb τ p b) (hx : x.toBitVec.toNat = a) (hQ : ∀ r : Int64, r.toBitVec.toNat = fmg p b a → Qr r h) : w_Exact_size ex x h Qr := by
  unfold w_Exact_size
  exact ⟨k1, hQ _ (hm.z hb hx)⟩
theorem xr_eisMinus {Qr : Int32 → xb_H → Prop} (k1 : xb_k h ex = 10) (hm : eP ex τ h) (hb : fpb τ p b) (hx : x.toBitVec.toNat = a) (wx : fW p b a) (hQ : ∀ r : Int32, (r = 0 ∨ r = 1) → (r = 0 ↔ a < fS p b) → Qr r h) : w_Exact_isMinus ex x h Qr := by
  obtain ⟨-, -, k, e1, e2, e3⟩ := hm.n hb
  obtain ⟨b1, b0⟩ := Z_bit01 hx e1 (by omega)
  unfold fW at wx
  rw [e3] at wx hQ
  have e4 : a / 2 ^ k % 2 = 1 ↔ ¬ a < 2 ^ k := by
    have hp : 0 < 2 ^ k := Nat.pow_pos (by decide)
    rcases Nat.lt_or_ge a (2 ^ k) with h9 | h9
    · rw [Nat.div_eq_of_lt h9]
      exact ⟨fun h8 => absurd h8 (by decide), fun h8 => absurd h9 h8⟩
    · rw [show a = 2 ^ k * 1 + (a - 2 ^ k) by omega, Nat.mul_add_div hp, Nat.div_eq_of_lt (by omega)]
      exact ⟨fun _ => by omega, fun _ => rfl⟩
  unfold w_Exact_isMinus w_Exact_isMinus_L20
  rw [b1, e4]
  exact ⟨k1, fun e => ⟨.inl rfl, hQ 0 (.inl rfl) ⟨fun _ => Classical.not_not.mp e, fun _ => rfl⟩⟩, fun e => ⟨.inr rfl, hQ 1 (.inr rfl) ⟨fun h9 => absurd h9 (by decide), fun h9 => absurd h9 e⟩⟩⟩
theorem fmg_63 (hb : fpb τ p b) : fmg p b a < 9223372036854775808 := Nat.lt_of_lt_of_le (fmg_lt (a := a) hb) (fS_le hb)
theorem fI_63 (hb : fpb τ p b) : fI_ p b < 9223372036854775808 := by
  obtain ⟨k, -, -, -, -, e⟩ := hb.w
  exact Nat.lt_of_lt_of_le e (fS_le hb)
theorem xr_eisNone {Qr : Int32 → xb_H → Prop} (k1 : xb_k h ex = 10) (hm : eP ex τ h) (hb : fpb τ p b) (hx : x.toBitVec.toNat = a) (hQ : ∀ r : Int32, (r = 0 ∨ r = 1) → (r = 0 ↔ fmg p b a ≤ fI_ p b) → Qr r h) : w_Exact_isNone ex x h Qr := by
  unfold w_Exact_isNone w_Exact_isNone_L19
  refine ⟨k1, xr_esize k1 hm hb hx (fun r3 e3 _ => xr_einfinite k1 hm hb (fun r5 e5 _ => ?_))⟩
  rw [if_pos rfl, Nat.zero_or] at e5
  rw [Z_leN (by rw [e3]; exact fmg_63 hb) (by rw [e5]; exact fI_63 hb), e3, e5]
  exact ⟨fun e => ⟨.inl rfl, hQ 0 (.inl rfl) ⟨fun _ => e, fun _ => rfl⟩⟩, fun e => ⟨.inr rfl, hQ 1 (.inr rfl) ⟨fun h9 => absurd h9 (by decide), fun h9 => absurd h9 e⟩⟩⟩
theorem xr_eisInfinite {Qr : Int32 → xb_H → Prop} (k1 : xb_k h ex = 10) (hm : eP ex τ h) (hb : fpb τ p b) (hx : x.toBitVec.toNat = a) (hQ : ∀ r : Int32, (r = 0 ∨ r = 1) → (r = 0 ↔ fmg p b a ≠ fI_ p b) → Qr r h) : w_Exact_isInfinite ex x h Qr := by
  unfold w_Exact_isInfinite w_Exact_isInfinite_L19
  refine ⟨k1, xr_esize k1 hm hb hx (fun r3 e3 _ => xr_einfinite k1 hm hb (fun r5 e5 _ => ?_))⟩
  rw [if_pos rfl, Nat.zero_or] at e5
  rw [Z_eqN, e3, e5]
  exact ⟨fun e => ⟨.inl rfl, hQ 0 (.inl rfl) ⟨fun _ => e, fun _ => rfl⟩⟩, fun e => ⟨.inr rfl, hQ 1 (.inr rfl) ⟨fun h9 => absurd h9 (by decide), fun h9 => absurd e h9⟩⟩⟩
theorem xr_eisZero {Qr : Int32 → xb_H → Prop} (k1 : xb_k h ex = 10) (hm : eP ex τ h) (hb : fpb τ p b) (hx : x.toBitVec.toNat = a) (hQ : ∀ r : Int32, (r = 0 ∨ r = 1) → (r = 0 ↔ fmg p b a ≠ 0) → Qr r h) : w_Exact_isZero ex x h Qr := by
  unfold w_Exact_isZero w_Exact_isZero_L15
  refine ⟨k1, xr_esize k1 hm hb hx (fun r3 e3 _ => ?_)⟩
  rw [Z_eqN, e3, show (0 : Int64).toBitVec.toNat = 0 from rfl]
  exact ⟨fun e => ⟨.inl rfl, hQ 0 (.inl rfl) ⟨fun _ => e, fun _ => rfl⟩⟩, fun e => ⟨.inr rfl, hQ 1 (.inr rfl) ⟨fun h9 => absurd h9 (by decide), fun h9 => absurd e h9⟩⟩⟩
theorem xr_eless {o : Int32} {Qr : Int32 → xb_H → Prop} (k1 : xb_k h ex = 10) (hm : eP ex τ h) (hb : fpb τ p b) (hx : x.toBitVec.toNat = ax) (hy : y.toBitVec.toNat = ay) (wx : fW p b ax) (wy : fW p b ay) (hQ : ∀ r : Int32, (r = 0 ∨ r = 1) → (r = 0 ↔ ¬ (ford p b ax < ford p b ay ∨ (o ≠ 0 ∧ ford p b ax = ford p b ay))) → Qr r h) : w_Exact_less ex x o y h Qr := by
  have q0 : ¬ (ford p b ax < ford p b ay ∨ (o ≠ 0 ∧ ford p b ax = ford p b ay)) → ((0 : Int32) = 0 ∨ (0 : Int32) = 1) ∧ Qr 0 h := fun hc => ⟨.inl rfl, hQ 0 (.inl rfl) ⟨fun _ => hc, fun _ => rfl⟩⟩
  have q1 : (ford p b ax < ford p b ay ∨ (o ≠ 0 ∧ ford p b ax = ford p b ay)) → ((1 : Int32) = 0 ∨ (1 : Int32) = 1) ∧ Qr 1 h := fun hc => ⟨.inr rfl, hQ 1 (.inr rfl) ⟨fun h9 => absurd h9 (by decide), fun h9 => absurd hc h9⟩⟩
  have L49 : ∀ u v : Int64, u.toInt = ford p b ax → v.toInt = ford p b ay → w_Exact_less_L49 Qr o u v h := by
    intro u v hu hv
    unfold w_Exact_less_L49 w_Exact_less_L71 w_Exact_less_L75 w_Exact_less_L76
    rw [Z_lt, Z_eq, hu, hv]
    refine ⟨fun e => q1 (.inl e), fun e => ⟨fun e2 => q0 (fun h9 => h9.elim e (fun h8 => h8.1 e2)), fun e2 => ⟨fun e3 => q0 (fun h9 => h9.elim e (fun h8 => e3 h8.2)), fun e3 => q1 (.inr ⟨e2, e3⟩)⟩⟩⟩
  have p1 : ∀ (z : Int64) (c : Nat), z.toBitVec.toNat = fmg p b c → c < fS p b → z.toInt = ford p b c := fun z c hz hc => by
    unfold ford
    rw [if_pos hc]
    exact Z_nn hz (fmg_63 hb)
  have p2 : ∀ (z : Int64) (c : Nat), z.toBitVec.toNat = fmg p b c → ¬ c < fS p b → (-z).toInt = ford p b c := fun z c hz hc => by
    unfold ford
    rw [if_neg hc]
    exact Z_negI hz (fmg_63 hb)
  have L22 : ∀ u : Int64, u.toInt = ford p b ax → w_Exact_less_L22 Qr ex o y u h := by
    intro u hu
    unfold w_Exact_less_L22
    refine ⟨k1, xr_eisMinus k1 hm hb hy wy (fun r3 _ c3 _ => ⟨fun e => xr_esize k1 hm hb hy (fun r6 e6 _ => L49 u r6 hu (p1 _ _ e6 (c3.mp e))), fun e => xr_esize k1 hm hb hy (fun r6 e6 _ => L49 u (-r6) hu (p2 _ _ e6 (fun h9 => e (c3.mpr h9))))⟩)⟩
  unfold w_Exact_less
  refine ⟨k1, xr_eisMinus k1 hm hb hx wx (fun r3 _ c3 _ => ⟨fun e => xr_esize k1 hm hb hx (fun r6 e6 _ => L22 r6 (p1 _ _ e6 (c3.mp e))), fun e => xr_esize k1 hm hb hx (fun r6 e6 _ => L22 (-r6) (p2 _ _ e6 (fun h9 => e (c3.mpr h9))))⟩)⟩
theorem xr_ecompared {u : Int32} {w : Nat} {Qr : Int32 → xb_H → Prop} (k1 : xb_k h ex = 10) (hm : eP ex τ h) (hb : fpb τ p b) (hx : x.toBitVec.toNat = ax) (hy : y.toBitVec.toNat = ay) (wx : fW p b ax) (wy : fW p b ay) (hw : u.toInt = w) (w5 : w ≤ 5) (hQ : ∀ r : Int32, (r = 0 ∨ r = 1) → (r = 0 ↔ ¬ fcm p b w ax ay) → Qr r h) : w_Exact_compared ex u x y h Qr := by
  have ew : ∀ (k : Int32) (n : Nat), k.toInt = n → (u = k ↔ w = n) := fun k n hk => by rw [z_eq, hw, hk]; omega
  have nn : (fI_ p b < fmg p b ax ∨ fI_ p b < fmg p b ay) → w_Exact_compared_L17 Qr u h := fun hc => by
    unfold w_Exact_compared_L17 w_Exact_compared_L27
    rw [ew 1 1 rfl]
    refine ⟨fun e => ⟨.inl rfl, hQ _ (.inl rfl) ⟨fun _ h9 => ?_, fun _ => rfl⟩⟩, fun e => ⟨.inr rfl, hQ _ (.inr rfl) ⟨fun h9 => absurd h9 (by decide), fun h9 => absurd (.inl ⟨hc, e⟩) h9⟩⟩⟩
    rcases h9 with h9 | h9
    · exact e h9.2
    · exact h9.1 hc
  have L55 : ∀ s : Int32, (s = 0 ∨ s = 1) → (s = 0 ↔ ford p b ax ≠ ford p b ay) → ¬ (fI_ p b < fmg p b ax ∨ fI_ p b < fmg p b ay) → w_Exact_compared_L55 Qr ex u x y s h := by
    intro s hs1 hs2 ok
    have fc : fcm p b w ax ay ↔ ((w = 0 ∧ ford p b ax = ford p b ay) ∨ (w = 1 ∧ ford p b ax ≠ ford p b ay) ∨ (w = 2 ∧ ford p b ax < ford p b ay) ∨ (w = 3 ∧ ford p b ay < ford p b ax) ∨ (w = 4 ∧ ford p b ax ≤ ford p b ay) ∨ (w = 5 ∧ ford p b ay ≤ ford p b ax)) := by
      unfold fcm
      exact ⟨fun h9 => h9.elim (fun h8 => absurd h8.1 ok) (fun h8 => h8.2), fun h9 => .inr ⟨ok, h9⟩⟩
    have q : ∀ r : Int32, (r = 0 ∨ r = 1) → (r = 0 ↔ ¬ fcm p b w ax ay) → (r = 0 ∨ r = 1) ∧ Qr r h := fun r h1 h2 => ⟨h1, hQ r h1 h2⟩
    have o0 : ¬ ((0 : Int32) ≠ 0) := fun h9 => h9 rfl
    have o1 : (1 : Int32) ≠ 0 := by decide
    unfold w_Exact_compared_L55 w_Exact_compared_L105
    rw [ew 0 0 rfl, ew 1 1 rfl, ew 2 2 rfl, ew 3 3 rfl, ew 4 4 rfl]
    rw [fc] at q
    refine ⟨fun e => q s hs1 (hs2.trans ?_), fun e => ⟨fun c => q 0 (.inl rfl) ?_, fun c => q 1 (.inr rfl) ?_⟩, fun e => ⟨k1, xr_eless k1 hm hb hx hy wx wy (fun r h1 h2 _ => q r h1 (h2.trans ?_))⟩, fun e => ⟨k1, xr_eless k1 hm hb hy hx wy wx (fun r h1 h2 _ => q r h1 (h2.trans ?_))⟩, fun e => ⟨k1, xr_eless k1 hm hb hx hy wx wy (fun r h1 h2 _ => q r h1 (h2.trans ?_))⟩, fun e0 e1 e2 e3 e4 => ⟨k1, xr_eless k1 hm hb hy hx wy wx (fun r h1 h2 _ => q r h1 (h2.trans ?_))⟩⟩
    · generalize ford p b ax = A at *
      generalize ford p b ay = B at *
      omega
    · have c2 : ford p b ax = ford p b ay := Classical.not_not.mp fun h9 => c (hs2.mpr h9)
      refine ⟨fun _ => ?_, fun _ => rfl⟩
      generalize ford p b ax = A at *
      generalize ford p b ay = B at *
      omega
    · have c2 := hs2.mp c
      refine ⟨fun h9 => absurd h9 (by decide), fun h9 => absurd (.inr (.inl ⟨e, c2⟩)) h9⟩
    · generalize ford p b ax = A at *
      generalize ford p b ay = B at *
      simp only [o0, false_and, or_false]
      omega
    · generalize ford p b ax = A at *
      generalize ford p b ay = B at *
      simp only [o0, false_and, or_false]
      omega
    · generalize ford p b ax = A at *
      generalize ford p b ay = B at *
      simp only [o1, ne_eq, not_false_eq_true, true_and]
      omega
    · generalize ford p b ax = A at *
      generalize ford p b ay = B at *
      simp only [o1, ne_eq, not_false_eq_true, true_and]
      omega
  have o1 : (1 : Int32) ≠ 0 := by decide
  unfold w_Exact_compared w_Exact_compared_L54
  refine ⟨k1, xr_eisNone k1 hm hb hx (fun r3 _ c3 _ => ⟨fun e3 => nn (.inl (Nat.not_le.mp fun h9 => e3 (c3.mpr h9))), fun e3 => xr_eisNone k1 hm hb hy (fun r6 _ c6 _ => ⟨fun e6 => ?_, fun e6 => nn (.inr (Nat.not_le.mp fun h9 => e6 (c6.mpr h9)))⟩)⟩)⟩
  have ok : ¬ (fI_ p b < fmg p b ax ∨ fI_ p b < fmg p b ay) := fun h9 => h9.elim (fun h8 => absurd (c3.mp e3) (Nat.not_le.mpr h8)) (fun h8 => absurd (c6.mp e6) (Nat.not_le.mpr h8))
  refine xr_eless k1 hm hb hx hy wx wy (fun r9 _ c9 _ => ⟨fun e9 => L55 0 (.inl rfl) ⟨fun _ => ?_, fun _ => rfl⟩ ok, fun e9 => xr_eless k1 hm hb hy hx wy wx (fun r12 _ c12 _ => ⟨fun e12 => L55 0 (.inl rfl) ⟨fun _ => ?_, fun _ => rfl⟩ ok, fun e12 => L55 1 (.inr rfl) ⟨fun h9 => absurd h9 (by decide), fun h9 => ?_⟩ ok⟩)⟩)
  · have := c9.mp e9
    exact fun h9 => this (.inr ⟨o1, h9⟩)
  · have := c12.mp e12
    exact fun h9 => this (.inr ⟨o1, h9.symm⟩)
  · have d1 : ford p b ax < ford p b ay ∨ ((1 : Int32) ≠ 0 ∧ ford p b ax = ford p b ay) := Classical.not_not.mp fun h8 => e9 (c9.mpr h8)
    have d2 : ford p b ay < ford p b ax ∨ ((1 : Int32) ≠ 0 ∧ ford p b ay = ford p b ax) := Classical.not_not.mp fun h8 => e12 (c12.mpr h8)
    omega
end XF1

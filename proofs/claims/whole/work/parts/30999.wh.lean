-- numbers: bits of long numbers, short ones stay short
theorem Z_sN {v : Int64} : (0 ≤ v.toInt ∧ v.toInt < 4294967296) ↔ v.toBitVec.toNat < 4294967296 := by
  have := Z_nat v
  have := Z_rg v
  omega
theorem vr_N {τ : Int} {v : Int64} : vr τ v ↔ ((τ = 127 ∨ τ = 125) → v.toBitVec.toNat < 2 ^ 32) := by
  unfold vr
  rw [Z_sN]
theorem vr.or {τ : Int} {a b : Int64} (ha : vr τ a) (hb : vr τ b) : vr τ (a ||| b) := by
  rw [vr_N] at *
  exact fun e => by rw [Z_or]; exact Nat.or_lt_two_pow (ha e) (hb e)
theorem vr.xor {τ : Int} {a b : Int64} (ha : vr τ a) (hb : vr τ b) : vr τ (a ^^^ b) := by
  rw [vr_N] at *
  exact fun e => by rw [Z_xor]; exact Nat.xor_lt_two_pow (ha e) (hb e)
theorem vr.and1 {τ : Int} {a b : Int64} (ha : vr τ a) : vr τ (a &&& b) := by
  rw [vr_N] at *
  exact fun e => by rw [Z_and]; exact Nat.lt_of_le_of_lt Nat.and_le_left (ha e)
theorem vr.and2 {τ : Int} {a b : Int64} (hb : vr τ b) : vr τ (a &&& b) := by
  rw [vr_N] at *
  exact fun e => by rw [Z_and]; exact Nat.lt_of_le_of_lt Nat.and_le_right (hb e)
theorem Z_addN (a b : Int64) : (a + b).toBitVec.toNat = (a.toBitVec.toNat + b.toBitVec.toNat) % 18446744073709551616 := by
  rw [Int64.toBitVec_add, BitVec.toNat_add]
theorem vr_low {τ : Int} {x : Int64} : vr τ (x &&& 4294967295) := fun _ => Z_low_rg x
theorem vr_no {τ : Int} {x : Int64} (h1 : τ ≠ 127) (h2 : τ ≠ 125) : vr τ x := fun e => by omega
-- whole numbers
section WH1
variable {h : xb_H}
theorem za_step {n b c : Nat} {x5 x5' : Int32} {x0 : Int64} {Qr : Int32 → xb_H → Prop} (h1 : ¬ x5 ≤ 0) (h2 : x5 >>> (1 &&& 31) = x5') (h3 : x5.toInt = c) (hb : b + c ≤ 64) (lo : Int) (hn : ∀ (x2 : Int64) (x4 : Int32), lo ≤ x4.toInt → 0 ≤ x4.toInt → x4.toInt ≤ (b + c : Nat) → w_Whole_zerosAbove_L9 Qr n x0 x2 x4 x5' h) (x2 : Int64) (x4 : Int32) (h4 : lo ≤ x4.toInt) (h40 : 0 ≤ x4.toInt) (h5 : x4.toInt ≤ b) : w_Whole_zerosAbove_L9 Qr (n + 1) x0 x2 x4 x5 h := by
  unfold w_Whole_zerosAbove_L9 w_Whole_zerosAbove_L38
  refine ⟨fun e => absurd e h1, fun _ => ⟨fun _ v1 e1 => ?_, fun _ v4 e4 v5 e5 v1 e1 => ?_⟩⟩
  · rw [e1, h2]
    exact hn x2 x4 h4 h40 (by omega)
  · have e6 : v5.toInt = x4.toInt + c := by
      rw [e5, z_add, h3]
      omega
    rw [e1, h2]
    exact hn v4 v5 (by omega) (by omega) (by omega)
theorem sp_zerosAbove {x : Int64} {Qr : Int32 → xb_H → Prop} (hQ : ∀ r : Int32, 0 ≤ r.toInt → r.toInt ≤ 64 → (x.toBitVec.toNat < 4294967296 → 32 ≤ r.toInt) → Qr r h) : w_Whole_zerosAbove x h Qr := by
  have s0 : ∀ lo : Int, (x.toBitVec.toNat < 4294967296 → 32 ≤ lo) → ∀ (x2 : Int64) (x4 : Int32), lo ≤ x4.toInt → 0 ≤ x4.toInt → x4.toInt ≤ (63 : Nat) → w_Whole_zerosAbove_L9 Qr 1 x x2 x4 0 h := by
    intro lo hl x2 x4 h1 h10 h2
    unfold w_Whole_zerosAbove_L9 w_Whole_zerosAbove_L60
    exact ⟨fun _ => ⟨fun _ => hQ _ h10 (by omega) (fun e => by have := hl e; omega), fun _ => hQ 64 (by decide) (by decide) (fun _ => by decide)⟩, fun e => absurd (show (0 : Int32) ≤ 0 by decide) e⟩
  have s6 : ∀ lo : Int, (x.toBitVec.toNat < 4294967296 → 32 ≤ lo) → ∀ (x2 : Int64) (x4 : Int32), lo ≤ x4.toInt → 0 ≤ x4.toInt → x4.toInt ≤ (32 : Nat) → w_Whole_zerosAbove_L9 Qr 6 x x2 x4 16 h := fun lo hl =>
    za_step (c := 16) (b := 32) (x5' := 8) (by decide) (by decide) rfl (by omega) lo (za_step (c := 8) (b := 48) (x5' := 4) (by decide) (by decide) rfl (by omega) lo (za_step (c := 4) (b := 56) (x5' := 2) (by decide) (by decide) rfl (by omega) lo (za_step (c := 2) (b := 60) (x5' := 1) (by decide) (by decide) rfl (by omega) lo (za_step (c := 1) (b := 62) (x5' := 0) (by decide) (by decide) rfl (by omega) lo (s0 lo hl)))))
  unfold w_Whole_zerosAbove
  refine ⟨7, ?_⟩
  unfold w_Whole_zerosAbove_L9 w_Whole_zerosAbove_L38
  refine ⟨fun e => absurd e (by decide), fun _ => ⟨fun e v1 e1 => ?_, fun e v4 e4 v5 e5 v1 e1 => ?_⟩⟩
  · rw [e1]
    refine s6 0 (fun h9 => ?_) x 0 (by decide) (by decide) (by decide)
    refine absurd ?_ e
    have e2 := Z_ushr (x := x) (y := 64 - 32) (k := 32) rfl (by omega)
    have e3 := Z_nat (xb_lushr x (64 - 32))
    have e4 := Z_rg (xb_lushr x (64 - 32))
    rw [Z_eq, show (0 : Int64).toInt = 0 from rfl]
    omega
  · rw [e1, e5]
    exact s6 32 (fun _ => by omega) v4 (0 + 32) (by decide) (by decide) (by decide)
theorem sp_isBelow {x y : Int64} {Qr : Int32 → xb_H → Prop} (hQ : ∀ r : Int32, r = 0 ∨ r = 1 → Qr r h) : w_Whole_isBelow x y h Qr := by
  unfold w_Whole_isBelow w_Whole_isBelow_L19
  exact ⟨fun _ => ⟨.inl rfl, hQ 0 (.inl rfl)⟩, fun _ => ⟨.inr rfl, hQ 1 (.inr rfl)⟩⟩
theorem sp_wholeHolds {w : Int32} {x y : Int64} {Qr : Int32 → xb_H → Prop} (hQ : ∀ r : Int32, Qr r h) : w_Whole_holds w x y h Qr := by
  unfold w_Whole_holds w_Whole_holds_L63 w_Whole_holds_L75 w_Whole_holds_L87 w_Whole_holds_L105 w_Whole_holds_L123 w_Whole_holds_L137 w_Whole_holds_L149 w_Whole_holds_L163
  have a : ∀ {p : Prop}, (p → ((0 : Int32) = 0 ∨ (0 : Int32) = 1) ∧ Qr 0 h) := fun _ => ⟨.inl rfl, hQ 0⟩
  have b : ∀ {p : Prop}, (p → ((1 : Int32) = 0 ∨ (1 : Int32) = 1) ∧ Qr 1 h) := fun _ => ⟨.inr rfl, hQ 1⟩
  exact ⟨fun _ => ⟨a, b⟩, fun _ => ⟨a, b⟩, fun _ => ⟨a, b⟩, fun _ => sp_isBelow (fun r hr _ => ⟨hr, hQ r⟩), fun _ => ⟨a, b⟩, fun _ => sp_isBelow (fun r hr _ => ⟨hr, hQ r⟩), fun _ => ⟨a, b⟩, fun _ => sp_isBelow (fun r hr _ => ⟨a, b⟩), fun _ => ⟨a, b⟩, fun _ _ _ _ _ _ _ _ _ => sp_isBelow (fun r hr _ => ⟨a, b⟩)⟩
theorem z_63 (x : Int32) : (x &&& 63).toInt = x.toInt % 64 := z_mask x 6 rfl (by omega)
theorem sp_countShort {w x : Int32} {Qr : Int32 → xb_H → Prop} (hQ : ∀ r : Int32, 0 ≤ r.toInt → Qr r h) : w_Whole_countShort w x h Qr := by
  have hb : ∀ y : Int32, w_Integer_bitCount y h (fun (r : Int32) (h' : xb_H) => xb_ext h h' → Qr r h') := by
    intro y
    unfold w_Integer_bitCount
    intro v1 _ v2 _ v3 _ v4 _ v5 _ _
    refine hQ _ ?_
    rw [z_63]
    omega
  unfold w_Whole_countShort
  refine ⟨fun _ => sp_zerosAbove (fun r h1 h2 h3 _ => hQ _ ?_), fun _ => hb _, fun _ _ => hb _⟩
  have h4 := h3 (by have := Z_nat (x.toInt64 &&& 4294967295); have := Z_low_rg x.toInt64; omega)
  rw [z_sub, show (32 : Int32).toInt = 32 from rfl]
  omega
theorem sp_countLong {w : Int32} {x : Int64} {Qr : Int32 → xb_H → Prop} (hQ : ∀ r : Int32, Qr r h) : w_Whole_countLong w x h Qr := by
  have hb : ∀ y : Int64, w_Long_bitCount y h (fun (r : Int32) (h' : xb_H) => xb_ext h h' → Qr r h') := by
    intro y
    unfold w_Long_bitCount
    intro v1 _ v2 _ v3 _ v4 _ v5 _ v6 _ _
    exact hQ _
  unfold w_Whole_countLong
  exact ⟨fun _ => sp_zerosAbove (fun r _ _ _ _ => hQ _), fun _ => hb _, fun _ _ => hb _⟩
theorem sp_reckonShort {w x y : Int32} {Qr : Int32 → xb_H → Prop} (hQ : ∀ r : Int32, Qr r h) : w_Whole_reckonShort w x y h Qr := by
  have L : w_Whole_reckonShort_L84 Qr w x y h := by
    unfold w_Whole_reckonShort_L84 w_Whole_reckonShort_L98 w_Whole_divideShort
    refine ⟨fun e v1 _ v2 e2 => ?_, fun _ => hQ _⟩
    have h2 : ¬ v2 = 0 := fun h9 => e (by
      rw [e2, Z_eq, Z_low, Z_of32, show (0 : Int64).toInt = 0 from rfl] at h9
      rw [z_eq, show (0 : Int32).toInt = 0 from rfl]
      have := z_rg y
      omega)
    exact ⟨fun _ => ⟨e, fun _ => hQ _⟩, fun _ => ⟨h2, fun _ => hQ _⟩, fun _ => ⟨e, fun _ => hQ _⟩, fun _ _ _ => ⟨h2, fun _ => hQ _⟩⟩
  unfold w_Whole_reckonShort
  exact ⟨fun _ => hQ _, fun _ => hQ _, fun _ => hQ _, fun _ => L, fun _ => L, fun _ => L, fun _ => L, fun _ => hQ _, fun _ => hQ _, fun _ => hQ _, fun _ => hQ _, fun _ => hQ _, fun _ => hQ _, fun _ => hQ _, fun _ _ _ _ _ _ _ _ _ _ _ _ _ _ => hQ _⟩
theorem sp_wquotient {x y : Int64} {Qr : Int64 → xb_H → Prop} (hQ : ∀ r : Int64, Qr r h) : w_Whole_quotient x y h Qr := by
  unfold w_Whole_quotient w_Whole_quotient_L22 w_Whole_quotient_L23 w_Whole_quotient_L65 w_Whole_quotient_L74
  refine ⟨fun e => ?_, fun e => ⟨fun _ => hQ _, fun _ => ⟨fun _ => hQ _, fun _ => hQ _⟩⟩⟩
  have h2 : ¬ y = 0 := fun h9 => by
    rw [h9] at e
    exact absurd e (by decide)
  exact ⟨fun _ => ⟨h2, fun v4 _ v5 _ => ⟨fun _ => hQ _, fun _ => ⟨fun _ => hQ _, fun _ => hQ _⟩⟩⟩, fun _ => ⟨h2, hQ _⟩⟩
theorem sp_reckonLong {w : Int32} {x y : Int64} {Qr : Int64 → xb_H → Prop} (hQ : ∀ r : Int64, Qr r h) : w_Whole_reckonLong w x y h Qr := by
  have L : w_Whole_reckonLong_L84 Qr w x y h := by
    unfold w_Whole_reckonLong_L84 w_Whole_reckonLong_L100 w_Whole_divideLong
    exact ⟨fun e => ⟨fun _ => ⟨e, fun _ => hQ _⟩, fun _ => sp_wquotient (fun r _ _ => hQ _), fun _ => ⟨e, fun _ => hQ _⟩, fun _ _ _ => sp_wquotient (fun r _ _ => hQ _)⟩, fun _ => hQ _⟩
  unfold w_Whole_reckonLong
  exact ⟨fun _ => hQ _, fun _ => hQ _, fun _ => hQ _, fun _ => L, fun _ => L, fun _ => L, fun _ => L, fun _ => hQ _, fun _ => hQ _, fun _ => hQ _, fun _ => hQ _, fun _ => hQ _, fun _ => hQ _, fun _ => hQ _, fun _ _ _ _ _ _ _ _ _ _ _ _ _ _ => hQ _⟩
theorem sp_trapOf {w x y : Int32} {Qr : Int32 → xb_H → Prop} (hQ : ∀ r : Int32, Qr r h) : w_Whole_trapOf w x y h Qr := by
  unfold w_Whole_trapOf w_Whole_trapOf_L17 w_Whole_trapOf_L30 w_Whole_trapOf_L31
  have L : (¬ w = 3 → Qr 0 h) ∧ (w = 3 → (y = 0 → Qr 0 h) ∧ (¬ y = 0 → Qr 4 h)) := ⟨fun _ => hQ _, fun _ => ⟨fun _ => hQ _, fun _ => hQ _⟩⟩
  exact ⟨fun _ => L, fun _ => ⟨fun _ => L, fun _ => ⟨fun _ => L, fun _ => hQ _⟩⟩⟩
end WH1

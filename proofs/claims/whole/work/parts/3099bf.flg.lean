-- floating point: order, and what reckonOne, reckonTwo of the class answer
def ford (p b a : Nat) : Int := if a < fS p b then (fmg p b a : Int) else -(fmg p b a : Int)
def fcm (p b w x y : Nat) : Prop :=
  ((fI_ p b < fmg p b x ∨ fI_ p b < fmg p b y) ∧ w = 1) ∨ (¬ (fI_ p b < fmg p b x ∨ fI_ p b < fmg p b y) ∧ ((w = 0 ∧ ford p b x = ford p b y) ∨ (w = 1 ∧ ford p b x ≠ ford p b y) ∨ (w = 2 ∧ ford p b x < ford p b y) ∨ (w = 3 ∧ ford p b y < ford p b x) ∨ (w = 4 ∧ ford p b x ≤ ford p b y) ∨ (w = 5 ∧ ford p b y ≤ ford p b x)))
def flo (p b x y : Nat) : Nat := if ford p b x = ford p b y then x ||| y else if ford p b x < ford p b y then x else y
def fgr (p b x y : Nat) : Nat := if ford p b x = ford p b y then x &&& y else if ford p b y < ford p b x then x else y
def fr1 (p b w a : Nat) : Nat :=
  if w = 0 then fmg p b a else if w = 1 then a ^^^ fS p b else if w = 6 then frt p b a else if fI_ p b < fmg p b a then fnn p b else frd p b w a
def fr2 (p b w x y : Nat) : Nat :=
  if w = 6 then fmg p b x ||| (y &&& fS p b) else if fI_ p b < fmg p b x ∨ fI_ p b < fmg p b y then fnn p b
  else if w = 0 then fad p b x y else if w = 1 then fad p b x (y ^^^ fS p b) else if w = 2 then fmu p b x y else if w = 3 then fdv p b x y
  else if w = 4 then flo p b x y else fgr p b x y
section FLG
variable {h : xb_H} {F p b : Nat} {τ : Int} {x y : Int64} {ax ay a : Nat}
theorem nl_e {A B : Nat} : ¬ A ≤ B ↔ B < A := by omega
theorem Z_negI {r : Int64} {n : Nat} (h : r.toBitVec.toNat = n) (hn : n < 9223372036854775808) : (-r).toInt = -(n : Int) := by
  have c := Z_nn h hn
  rw [show -r = 0 - r from (Int64.zero_sub r).symm, Z_sub, c, show (0 : Int64).toInt = 0 from rfl]
  omega
theorem ex_ordered {Qr : Int64 → xb_H → Prop} (hf : fm h F τ) (hb : fpb τ p b) (hx : x.toBitVec.toNat = a) (wx : fW p b a) (hQ : ∀ r : Int64, r.toInt = ford p b a → Qr r h) : w_Format_ordered F x h Qr := by
  have m := hf.mg hb hx
  have l := Nat.lt_of_lt_of_le (fmg_lt (a := a) hb) (fS_le hb)
  unfold w_Format_ordered w_Format_ordered_L22 w_Format_magnitude
  refine ⟨hf.1, ex_isNegative hf hb hx wx (fun r3 c3 _ => ⟨fun e => ⟨hf.1, fun _ => hQ _ ?_⟩, fun e => ⟨hf.1, fun _ => hQ _ ?_⟩⟩)⟩
  · unfold ford
    rw [if_pos (c3.mp e)]
    exact Z_nn m l
  · unfold ford
    rw [if_neg (fun h9 => e (c3.mpr h9))]
    exact Z_negI m l
theorem ex_fholds {x1 : Int32} {w : Nat} {Qr : Int32 → xb_H → Prop} (hf : fm h F τ) (hb : fpb τ p b) (hx : x.toBitVec.toNat = ax) (hy : y.toBitVec.toNat = ay) (wx : fW p b ax) (wy : fW p b ay) (hw : x1.toInt = w) (w5 : w ≤ 5) (hQ : ∀ r : Int32, (r = 0 ∨ r = 1) → (r = 0 ↔ ¬ fcm p b w ax ay) → Qr r h) : w_Format_holds F x1 x y h Qr := by
  have ew : ∀ (k : Int32) (n : Nat), k.toInt = n → (x1 = k ↔ w = n) := fun k n hk => by rw [z_eq, hw, hk]; omega
  have nn : (fI_ p b < fmg p b ax ∨ fI_ p b < fmg p b ay) → w_Format_holds_L17 Qr x1 h := fun hc => by
    unfold w_Format_holds_L17 w_Format_holds_L27
    rw [ew 1 1 rfl]
    refine ⟨fun e => ⟨.inl rfl, hQ _ (.inl rfl) ⟨fun _ h9 => ?_, fun _ => rfl⟩⟩, fun e => ⟨.inr rfl, hQ _ (.inr rfl) ⟨fun h9 => absurd h9 (by decide), fun h9 => absurd (.inl ⟨hc, e⟩) h9⟩⟩⟩
    rcases h9 with h9 | h9
    · exact e h9.2
    · exact h9.1 hc
  unfold w_Format_holds w_Format_holds_L93 w_Format_holds_L107 w_Format_holds_L121 w_Format_holds_L135 w_Format_holds_L149 w_Format_holds_L163
  refine ⟨hf.1, ex_isNan hf hb hx (fun r3 c3 _ => ⟨fun e3 => nn (.inl (Nat.not_le.mp fun h9 => e3 (c3.mpr h9))), fun e3 => ex_isNan hf hb hy (fun r6 c6 _ => ⟨fun e6 => ex_ordered hf hb hx wx (fun r9 e9 _ => ex_ordered hf hb hy wy (fun r11 e11 _ => ?_)), fun e6 => nn (.inr (Nat.not_le.mp fun h9 => e6 (c6.mpr h9)))⟩)⟩)⟩
  have ok : ¬ (fI_ p b < fmg p b ax ∨ fI_ p b < fmg p b ay) := fun h9 => h9.elim (fun h8 => absurd (c3.mp e3) (Nat.not_le.mpr h8)) (fun h8 => absurd (c6.mp e6) (Nat.not_le.mpr h8))
  have fc : fcm p b w ax ay ↔ ((w = 0 ∧ ford p b ax = ford p b ay) ∨ (w = 1 ∧ ford p b ax ≠ ford p b ay) ∨ (w = 2 ∧ ford p b ax < ford p b ay) ∨ (w = 3 ∧ ford p b ay < ford p b ax) ∨ (w = 4 ∧ ford p b ax ≤ ford p b ay) ∨ (w = 5 ∧ ford p b ay ≤ ford p b ax)) := by
    unfold fcm
    exact ⟨fun h9 => h9.elim (fun h8 => absurd h8.1 ok) (fun h8 => h8.2), fun h9 => .inr ⟨ok, h9⟩⟩
  have q0 : ∀ {c : Prop}, (¬ fcm p b w ax ay) → (c → ((0 : Int32) = 0 ∨ (0 : Int32) = 1) ∧ Qr 0 h) := fun hc _ => ⟨.inl rfl, hQ 0 (.inl rfl) ⟨fun _ => hc, fun _ => rfl⟩⟩
  have q1 : ∀ {c : Prop}, (fcm p b w ax ay) → (c → ((1 : Int32) = 0 ∨ (1 : Int32) = 1) ∧ Qr 1 h) := fun hc _ => ⟨.inr rfl, hQ 1 (.inr rfl) ⟨fun h9 => absurd h9 (by decide), fun h9 => absurd hc h9⟩⟩
  rw [ew 0 0 rfl, ew 1 1 rfl, ew 2 2 rfl, ew 3 3 rfl, ew 4 4 rfl, Z_eq, Z_le, Z_le, Z_lt, Z_lt, e9, e11]
  rw [fc] at q0 q1
  generalize ford p b ax = A at *
  generalize ford p b ay = B at *
  clear nn c3 c6 e3 e6 ok fc hx hy wx wy hf hb ew hw hQ
  refine ⟨fun e => ⟨fun c => q0 ?_ c, fun c => q1 ?_ c⟩, fun e => ⟨fun c => q0 ?_ c, fun c => q1 ?_ c⟩, fun e => ⟨fun c => q0 ?_ c, fun c => q1 ?_ c⟩, fun e => ⟨fun c => q0 ?_ c, fun c => q1 ?_ c⟩, fun e => ⟨fun c => q0 ?_ c, fun c => q1 ?_ c⟩, fun e1 e2 e3 e4 e5 => ⟨fun c => q0 ?_ c, fun c => q1 ?_ c⟩⟩
  all_goals
    clear q0 q1
    omega
theorem ex_lesser {Qr : Int64 → xb_H → Prop} (hf : fm h F τ) (hb : fpb τ p b) (hx : x.toBitVec.toNat = ax) (hy : y.toBitVec.toNat = ay) (wx : fW p b ax) (wy : fW p b ay) (hQ : ∀ r : Int64, r.toBitVec.toNat = flo p b ax ay → Qr r h) : w_Format_lesser F x y h Qr := by
  unfold w_Format_lesser w_Format_lesser_L37
  refine ⟨hf.1, ex_ordered hf hb hx wx (fun r3 e3 _ => ex_ordered hf hb hy wy (fun r5 e5 _ => ⟨fun c => ex_ordered hf hb hx wx (fun r8 e8 _ => ex_ordered hf hb hy wy (fun r10 e10 _ => ⟨fun c' => hQ _ ?_, fun c' => hQ _ ?_⟩)), fun c => hQ _ ?_⟩))⟩
  all_goals
    rw [Z_eq, e3, e5] at c
    unfold flo
  · rw [Z_le, e8, e10] at c'
    rw [if_neg c, if_neg (by omega), hy]
  · rw [Z_le, e8, e10] at c'
    rw [if_neg c, if_pos (by omega), hx]
  · rw [if_pos c, Z_or, hx, hy]
theorem ex_greater {Qr : Int64 → xb_H → Prop} (hf : fm h F τ) (hb : fpb τ p b) (hx : x.toBitVec.toNat = ax) (hy : y.toBitVec.toNat = ay) (wx : fW p b ax) (wy : fW p b ay) (hQ : ∀ r : Int64, r.toBitVec.toNat = fgr p b ax ay → Qr r h) : w_Format_greater F x y h Qr := by
  unfold w_Format_greater w_Format_greater_L37
  refine ⟨hf.1, ex_ordered hf hb hx wx (fun r3 e3 _ => ex_ordered hf hb hy wy (fun r5 e5 _ => ⟨fun c => ex_ordered hf hb hx wx (fun r8 e8 _ => ex_ordered hf hb hy wy (fun r10 e10 _ => ⟨fun c' => hQ _ ?_, fun c' => hQ _ ?_⟩)), fun c => hQ _ ?_⟩))⟩
  all_goals
    rw [Z_eq, e3, e5] at c
    unfold fgr
  · rw [Z_le, e8, e10] at c'
    rw [if_neg c, if_neg (by omega), hy]
  · rw [Z_le, e8, e10] at c'
    rw [if_neg c, if_pos (by omega), hx]
  · rw [if_pos c, Z_and, hx, hy]
theorem fW.xr (hb : fpb τ p b) (ha : fW p b a) : fW p b (a ^^^ fS p b) := by
  obtain ⟨k, e, -⟩ := hb.w
  have e2 : 2 * fS p b = 2 ^ (k + 1) := by rw [e, Nat.pow_succ, Nat.mul_comm]
  unfold fW at ha ⊢
  rw [e2] at ha ⊢
  rw [e]
  exact Nat.xor_lt_two_pow ha (Nat.pow_lt_pow_right (by decide) (Nat.lt_succ_self k))
theorem ex_reckonOne {x1 : Int32} {w : Nat} {Qr : Int64 → xb_H → Prop} (hf : fm h F τ) (hb : fpb τ p b) (hx : x.toBitVec.toNat = a) (wx : fW p b a) (hw : x1.toInt = w) (w6 : w ≤ 6) (hQ : ∀ r : Int64, r.toBitVec.toNat = fr1 p b w a → Qr r h) : w_Format_reckonOne F x1 x h Qr := by
  have ew : ∀ (k : Int32) (n : Nat), k.toInt = n → (x1 = k ↔ w = n) := fun k n hk => by rw [z_eq, hw, hk]; omega
  unfold w_Format_reckonOne w_Format_reckonOne_L76 w_Format_magnitude
  rw [ew 0 0 rfl, ew 1 1 rfl, ew 6 6 rfl]
  refine ⟨fun e => ⟨hf.1, hf.1, fun _ => hQ _ ?_⟩, fun e => ⟨hf.1, hQ _ ?_⟩, fun e => ⟨hf.1, ex_root hf hb hx wx (fun r c _ => hQ _ ?_)⟩, fun e1 e2 e3 => ⟨hf.1, ex_isNan hf hb hx (fun r13 c13 _ => ⟨fun e13 => ex_rounded hf hb hx wx hw (by omega) (by omega) (fun r c _ => hQ _ ?_), fun e13 => hQ _ ?_⟩)⟩⟩
  all_goals unfold fr1
  · rw [if_pos e]
    exact hf.mg hb hx
  · rw [if_neg (by omega), if_pos e, Z_xor, hx, (hf.pp hb).2.2.2]
  · rw [if_neg (by omega), if_neg (by omega), if_pos e, c]
  · rw [if_neg e1, if_neg e2, if_neg e3, if_neg (Nat.not_lt.mpr (c13.mp e13)), c]
  · rw [if_neg e1, if_neg e2, if_neg e3, if_pos (Nat.not_le.mp fun h9 => e13 (c13.mpr h9)), hf.nn hb]
theorem ex_reckonTwo {x1 : Int32} {w : Nat} {Qr : Int64 → xb_H → Prop} (hf : fm h F τ) (hb : fpb τ p b) (hx : x.toBitVec.toNat = ax) (hy : y.toBitVec.toNat = ay) (wx : fW p b ax) (wy : fW p b ay) (hw : x1.toInt = w) (w6 : w ≤ 6) (hQ : ∀ r : Int64, r.toBitVec.toNat = fr2 p b w ax ay → Qr r h) : w_Format_reckonTwo F x1 x y h Qr := by
  have ew : ∀ (k : Int32) (n : Nat), k.toInt = n → (x1 = k ↔ w = n) := fun k n hk => by rw [z_eq, hw, hk]; omega
  unfold w_Format_reckonTwo w_Format_reckonTwo_L37 w_Format_magnitude
  rw [ew 0 0 rfl, ew 1 1 rfl, ew 2 2 rfl, ew 3 3 rfl, ew 4 4 rfl, ew 6 6 rfl]
  refine ⟨fun e => ⟨hf.1, ex_isNan hf hb hx (fun r4 c4 _ => ⟨fun e4 => ⟨hf.1, hQ _ ?_⟩, fun e4 => ex_isNan hf hb hy (fun r7 c7 _ => ⟨fun e7 => ?_, fun e7 => ⟨hf.1, hQ _ ?_⟩⟩)⟩)⟩, fun e => ⟨hf.1, hf.1, fun _ => hQ _ ?_⟩⟩
  · unfold fr2
    rw [if_neg e, if_pos (.inl (Nat.not_le.mp fun h9 => e4 (c4.mpr h9))), hf.nn hb]
  · have ok : ¬ (fI_ p b < fmg p b ax ∨ fI_ p b < fmg p b ay) := fun h9 => h9.elim (fun h8 => absurd (c4.mp e4) (Nat.not_le.mpr h8)) (fun h8 => absurd (c7.mp e7) (Nat.not_le.mpr h8))
    have nx : (y ^^^ xb_l h F 2).toBitVec.toNat = ay ^^^ fS p b := by rw [Z_xor, hy, (hf.pp hb).2.2.2]
    refine ⟨fun e1 => ex_sum hf hb hx hy wx wy (fun r c _ => hQ _ ?_), fun e1 => ex_sum hf hb hx nx wx (wy.xr hb) (fun r c _ => hQ _ ?_), fun e1 => ex_product hf hb hx hy wx wy (fun r c _ => hQ _ ?_), fun e1 => ex_quotient hf hb hx hy wx wy (fun r c _ => hQ _ ?_), fun e1 => ex_lesser hf hb hx hy wx wy (fun r c _ => hQ _ ?_), fun e1 e2 e3 e4 e5 => ex_greater hf hb hx hy wx wy (fun r c _ => hQ _ ?_)⟩
    all_goals
      unfold fr2
      rw [if_neg e, if_neg ok, c]
    · rw [if_pos e1]
    · rw [if_neg (by omega), if_pos e1]
    · rw [if_neg (by omega), if_neg (by omega), if_pos e1]
    · rw [if_neg (by omega), if_neg (by omega), if_neg (by omega), if_pos e1]
    · rw [if_neg (by omega), if_neg (by omega), if_neg (by omega), if_neg (by omega), if_pos e1]
    · rw [if_neg e1, if_neg e2, if_neg e3, if_neg e4, if_neg e5]
  · unfold fr2
    rw [if_neg e, if_pos (.inr (Nat.not_le.mp fun h9 => e7 (c7.mpr h9))), hf.nn hb]
  · unfold fr2
    rw [if_pos e, Z_or, hf.mg hb hx, Z_and, hy, (hf.pp hb).2.2.2]
end FLG

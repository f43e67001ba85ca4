-- equality: what each instruction that reckons makes of its numbers
/-- the whole part with its sign, of w bits -/
def fcw (p b w a : Nat) : Nat := ((if a < fS p b then (fwp p b a : Int) else -(fwp p b a : Int)) % (2 ^ w : Nat)).toNat
/-- the trap of an instruction, 0 without one -/
def cutT (p b w a : Nat) (s : Prop) [Decidable s] : Nat := if fI_ p b < fmg p b a then 5 else if (s ∧ a < fS p b ∧ fwp p b a < 2 ^ (w - 1)) ∨ (s ∧ ¬ a < fS p b ∧ fwp p b a ≤ 2 ^ (w - 1)) ∨ (¬ s ∧ a < fS p b ∧ fwp p b a < 2 ^ w) ∨ (¬ s ∧ ¬ a < fS p b ∧ fwp p b a = 0) then 0 else 4
def nmt (o a c : Nat) : Nat :=
  if 106 ≤ o ∧ o ≤ 120 then itr 32 (o - 106) a c else if 124 ≤ o ∧ o ≤ 138 then itr 64 (o - 124) a c
  else if o = 168 ∨ o = 169 then cutT 24 127 32 a (o % 2 = 0) else if o = 170 ∨ o = 171 then cutT 53 1023 32 a (o % 2 = 0)
  else if o = 174 ∨ o = 175 then cutT 24 127 64 a (o % 2 = 0) else if o = 176 ∨ o = 177 then cutT 53 1023 64 a (o % 2 = 0) else 0
noncomputable def b01 (P : Prop) : Nat := @ite Nat P (Classical.propDecidable P) 1 0
/-- a whole number with its sign as a floating one -/
def fow_s (p b w a : Nat) : Nat := fow p b (sgn w a < 0) (sgn w a).natAbs
noncomputable def nmv (o a c : Nat) : Nat :=
  if o = 69 ∨ o = 80 then b01 (a = 0) else if o ≤ 79 then b01 (icm 32 (o - 70) a c) else if o ≤ 90 then b01 (icm 64 (o - 81) a c)
  else if o ≤ 96 then b01 (fcm 24 127 (o - 91) a c) else if o ≤ 102 then b01 (fcm 53 1023 (o - 97) a c)
  else if o ≤ 105 then icn 32 (o - 103) a else if o ≤ 120 then iop 32 (o - 106) a c else if o ≤ 123 then icn 64 (o - 121) a else if o ≤ 138 then iop 64 (o - 124) a c
  else if o ≤ 145 then fr1 24 127 (o - 139) a else if o ≤ 152 then fr2 24 127 (o - 146) a c else if o ≤ 159 then fr1 53 1023 (o - 153) a else if o ≤ 166 then fr2 53 1023 (o - 160) a c
  else if o = 167 then a % 2 ^ 32 else if o ≤ 169 then fcw 24 127 32 a else if o ≤ 171 then fcw 53 1023 32 a else if o = 172 then (sgn 32 a % (2 ^ 64 : Nat)).toNat else if o = 173 then a
  else if o ≤ 175 then fcw 24 127 64 a else if o ≤ 177 then fcw 53 1023 64 a
  else if o = 178 then fow_s 24 127 32 a else if o = 180 then fow_s 24 127 64 a else if o = 179 ∨ o = 181 then fow 24 127 False a else if o = 182 then fcv 53 1023 24 127 a
  else if o = 183 then fow_s 53 1023 32 a else if o = 185 then fow_s 53 1023 64 a else if o = 184 ∨ o = 186 then fow 53 1023 False a else if o = 187 then fcv 24 127 53 1023 a else a
theorem cutT_c {p b w a : Nat} {s : Prop} [Decidable s] : (fI_ p b < fmg p b a → cutT p b w a s = 5) ∧ (fmg p b a ≤ fI_ p b → fok p b a w s → cutT p b w a s = 0) ∧ (fmg p b a ≤ fI_ p b → ¬ fok p b a w s → cutT p b w a s = 4) := by
  unfold cutT fok
  exact ⟨fun h1 => if_pos h1, fun h1 h2 => by rw [if_neg (Nat.not_lt.mpr h1), if_pos h2], fun h1 h2 => by rw [if_neg (Nat.not_lt.mpr h1), if_neg h2]⟩
theorem fok_s {p b w a : Nat} {s t : Prop} (h : s ↔ t) : fok p b a w s ↔ fok p b a w t := by
  unfold fok
  rw [h]
theorem b01_1 {P : Prop} (h : P) : b01 P = 1 := by unfold b01; exact if_pos h
theorem b01_0 {P : Prop} (h : ¬ P) : b01 P = 0 := by unfold b01; exact if_neg h
/-- a number that is tried, its width -/
def nmw (o : Nat) : Nat := if (69 ≤ o ∧ o ≤ 79) ∨ (91 ≤ o ∧ o ≤ 96) ∨ (103 ≤ o ∧ o ≤ 120) ∨ (139 ≤ o ∧ o ≤ 152) ∨ o = 168 ∨ o = 169 ∨ o = 172 ∨ o = 173 ∨ o = 174 ∨ o = 175 ∨ o = 178 ∨ o = 179 ∨ o = 183 ∨ o = 184 ∨ o = 187 ∨ o = 188 ∨ o = 190 then 32 else 64
theorem fW_24 {a : Nat} : fW 24 127 a ↔ a < 2 ^ 32 := by
  unfold fW fS
  exact Iff.rfl
theorem fW_53 {a : Nat} : fW 53 1023 a ↔ a < 2 ^ 64 := by
  unfold fW fS
  exact Iff.rfl
def nmr (o : Nat) : Nat := if o ≤ 120 ∨ (139 ≤ o ∧ o ≤ 152) ∨ (167 ≤ o ∧ o ≤ 171) ∨ (178 ≤ o ∧ o ≤ 182) ∨ o = 188 ∨ o = 190 then 32 else 64

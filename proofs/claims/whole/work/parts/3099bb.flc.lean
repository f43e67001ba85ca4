-- equality, floating point: the class's root
/-- the number is fra times an even power of 2 -/
def fra (p b a : Nat) : Nat := fam p b a * 2 ^ (fwt p b a % 2).toNat
def frt (p b a : Nat) : Nat :=
  if fmg p b a = 0 then a else if fI_ p b < fmg p b a ∨ fS p b ≤ a then fnn p b else if fmg p b a = fI_ p b then a else rnF p b (sqS (fra p b a * (2 ^ 57 * 2 ^ 57))) (fwt p b a / 2 - 58)
section FLC
variable {h : xb_H} {F p b : Nat} {τ : Int} {x : Int64} {a : Nat}
theorem bX {B k : Nat} : B * (4 * 4 ^ k) / 18446744073709551616 = 4 * (B * 4 ^ k / 18446744073709551616) + B * 4 ^ k % 18446744073709551616 / 4611686018427387904 ∧ B * (4 * 4 ^ k) % 18446744073709551616 = B * 4 ^ k % 18446744073709551616 * 4 % 18446744073709551616 := by
  rw [Nat.mul_left_comm]
  generalize B * 4 ^ k = Y
  omega
theorem ex_root_L93 {B : Nat} {x5 : Int32} {e : Int} {Qr : Int64 → xb_H → Prop} (hf : fm h F τ) (hb : fpb τ p b) (hB : B < 18446744073709551616) (h62 : 4611686018427387904 ≤ B) (h5 : x5.toInt = 2 * e) (he : -3000 ≤ e ∧ e ≤ 3000)
    (hQ : ∀ w : Int64, w.toBitVec.toNat = rnF p b (sqS (B * 72057594037927936)) (e - 29) → Qr ((0 : Int64) ||| w) h) : ∀ (m k : Nat) (x3 x6 x8 : Int64) (x10 : Int32) (r s : Nat), 60 - k ≤ m → k ≤ 60 → x10.toInt = k → x3.toBitVec.toNat = B * 4 ^ k % 18446744073709551616 → x6.toBitVec.toNat = r → x8.toBitVec.toNat = s → r * r + s = B * 4 ^ k / 18446744073709551616 → s ≤ 2 * r → w_Format_root_L93 Qr (m + 1) F x3 x5 x6 x8 x10 h := by
  have hp : (p = 24 ∧ b = 127) ∨ (p = 53 ∧ b = 1023) := by unfold fpb at hb; omega
  have rb : ∀ k r s, r * r + s = B * 4 ^ k / 18446744073709551616 → r < 2 ^ k := fun k r s he => by
    refine sq_lt ?_
    have e4 : 2 ^ k * 2 ^ k = 4 ^ k := by rw [← Nat.mul_pow]
    have : B * 4 ^ k / 18446744073709551616 < 4 ^ k := by
      refine Nat.div_lt_of_lt_mul ?_
      exact Nat.mul_lt_mul_of_pos_right hB (Nat.pow_pos (by omega))
    rw [e4]
    omega
  have last : ∀ (m k : Nat) (x3 x6 x8 : Int64) (x10 : Int32) (r s : Nat), k = 60 → x10.toInt = k → x6.toBitVec.toNat = r → x8.toBitVec.toNat = s → r * r + s = B * 4 ^ k / 18446744073709551616 → s ≤ 2 * r → w_Format_root_L93 Qr (m + 1) F x3 x5 x6 x8 x10 h := by
    intro m k x3 x6 x8 x10 r s hk e10 e6 e8 hX hs
    subst hk
    have r60 := rb 60 r s hX
    have eX : B * 4 ^ 60 / 18446744073709551616 = B * 72057594037927936 := by
      rw [show (4 : Nat) ^ 60 = 72057594037927936 * 18446744073709551616 from by decide, ← Nat.mul_assoc]
      exact Nat.mul_div_cancel _ (by decide)
    rw [eX] at hX
    obtain ⟨X, hX'⟩ : ∃ X, X = B * 72057594037927936 := ⟨_, rfl⟩
    rw [← hX'] at hX hQ
    have X0 : 0 < X := by rw [hX']; exact Nat.mul_pos (by omega) (by decide)
    clear eX hX'
    have ir : isq X = r := isq_u (by omega) (by rw [sq_s]; omega)
    have r0 : 0 < r := by
      rcases Nat.eq_zero_or_pos r with h9 | h9
      · rw [h9] at hX hs
        omega
      · exact h9
    have sh : (xb_lshl x6 1).toBitVec.toNat = 2 * r := by rw [Z_shl (k := 1) rfl (by omega), e6, Nat.mod_eq_of_lt (by omega)]; omega
    have f5 : ((x5 >>> (1 &&& 31)) - 29).toInt = e - 29 := by
      have : (x5 >>> (1 &&& 31)).toInt = e := by rw [z_sar1, h5]; omega
      rw [z_sub, this, show (29 : Int32).toInt = 29 from rfl]
      omega
    unfold w_Format_root_L93
    rw [z_le, e10, show (60 : Int32).toInt = 60 from rfl]
    refine ⟨fun _ => ?_, fun h9 => absurd (by omega) h9⟩
    have fin : ∀ (y0 : Int32) (st : Nat), (Int32.toInt64 y0).toBitVec.toNat = st → st ≤ 1 → sqS X = 2 * r + st → w_Format_root_L181 Qr y0 (xb_lshl x6 1) ((x5 >>> (1 &&& 31)) - 29) 0 F h := by
      intro y0 st hst s1 hd
      unfold w_Format_root_L181
      have on : (xb_lshl x6 1 ||| Int32.toInt64 y0).toBitVec.toNat = sqS X := by
        have g := Nat.two_pow_add_eq_or_of_lt (b := st) (i := 1) (by omega) r
        rw [Nat.pow_one] at g
        rw [Z_or, sh, hst, ← g, hd]
      refine ⟨hf.1, ex_nearest hf hb on (by omega) (by omega) f5 (by omega) (by omega) (fun w hw _ => ?_)⟩
      rw [if_pos rfl]
      exact hQ w hw
    rw [Z_eqN, e8, show (0 : Int64).toBitVec.toNat = 0 from rfl]
    refine ⟨fun h9 => fin 0 0 rfl (by omega) ?_, fun h9 => fin 1 1 rfl (by omega) ?_⟩
    · unfold sqS
      rw [ir, if_pos (by omega)]
    · unfold sqS
      rw [ir, if_neg (by omega)]
  intro m
  induction m with
  | zero =>
    intro k x3 x6 x8 x10 r s hm hk e10 e3 e6 e8 hX hs
    exact last 0 k x3 x6 x8 x10 r s (by omega) e10 e6 e8 hX hs
  | succ m ih =>
    intro k x3 x6 x8 x10 r s hm hk e10 e3 e6 e8 hX hs
    by_cases k60 : k = 60
    · exact last (m + 1) k x3 x6 x8 x10 r s k60 e10 e6 e8 hX hs
    · unfold w_Format_root_L93 w_Format_root_L150
      rw [z_le, e10, show (60 : Int32).toInt = 60 from rfl]
      refine ⟨fun h9 => absurd h9 (by omega), fun _ v3 e3' v4 e4 v5 e5 v6 e6' => ?_⟩
      have rk := rb k r s hX
      have pk : 2 ^ k ≤ 2 ^ 59 := Nat.pow_le_pow_right (by omega) (by omega)
      obtain ⟨X1, X2⟩ := bX (B := B) (k := k)
      rw [show 4 * 4 ^ k = 4 ^ (k + 1) by rw [Nat.pow_succ, Nat.mul_comm]] at X1 X2
      rw [← e3] at X1 X2
      have x3l := x3.toBitVec.isLt
      generalize hd : x3.toBitVec.toNat / 4611686018427387904 = d at *
      have dl : d < 4 := by omega
      have g3 : v3.toBitVec.toNat = 4 * s + d := by
        have g := Nat.two_pow_add_eq_or_of_lt (b := d) (i := 2) (by omega) s
        rw [show 2 ^ 2 = 4 from rfl] at g
        have q1 : (xb_lshl x8 2).toBitVec.toNat = 4 * s := by rw [Z_shl (k := 2) rfl (by omega), e8, show 2 ^ 2 = 4 from rfl, Nat.mod_eq_of_lt (by omega)]; omega
        have q2 : (xb_lushr x3 62).toBitVec.toNat = d := by rw [Z_ushr (k := 62) rfl (by omega), show 2 ^ 62 = 4611686018427387904 from rfl, hd]
        rw [e3', Z_or, q1, q2, ← g]
      have g4 : v4.toBitVec.toNat = B * 4 ^ (k + 1) % 18446744073709551616 := by rw [e4, Z_shl (k := 2) rfl (by omega), show 2 ^ 2 = 4 from rfl, X2]
      have g5 : v5.toBitVec.toNat = 4 * r + 1 := by
        have g := Nat.two_pow_add_eq_or_of_lt (b := 1) (i := 2) (by omega) r
        rw [show 2 ^ 2 = 4 from rfl] at g
        have q1 : (xb_lshl x6 2).toBitVec.toNat = 4 * r := by rw [Z_shl (k := 2) rfl (by omega), e6, show 2 ^ 2 = 4 from rfl, Nat.mod_eq_of_lt (by omega)]; omega
        rw [e5, Z_or, q1, show (1 : Int64).toBitVec.toNat = 1 from rfl, ← g]
      have g6 : v6.toBitVec.toNat = 2 * r := by rw [e6', Z_shl (k := 1) rfl (by omega), e6, Nat.mod_eq_of_lt (by omega)]; omega
      have n10 : (x10 + 1).toInt = (k + 1 : Nat) := by rw [z_add, e10, show (1 : Int32).toInt = 1 from rfl]; omega
      have m4 : 2 * r * (2 * r) = 4 * (r * r) := by rw [Nat.mul_mul_mul_comm]
      have m5 := sq_s (2 * r)
      rw [Z_ltN (by omega) (by omega), g3, g5]
      refine ⟨fun h9 => ih (k + 1) v4 v6 v3 (x10 + 1) (2 * r) (4 * s + d) (by omega) (by omega) n10 g4 g6 g3 (by rw [X1]; omega) (by omega), fun h9 v8 e8' v9 e9 => ih (k + 1) v4 v9 v8 (x10 + 1) (2 * r + 1) (4 * s + d - (4 * r + 1)) (by omega) (by omega) n10 g4 ?_ ?_ (by rw [X1]; omega) (by omega)⟩
      · have g := Nat.two_pow_add_eq_or_of_lt (b := 1) (i := 1) (by omega) r
        rw [Nat.pow_one] at g
        rw [e9, Z_or, g6, show (1 : Int64).toBitVec.toNat = 1 from rfl, ← g]
      · rw [e8', Z_subN _ _ (by rw [g3, g5]; omega), g3, g5]
end FLC

-- equality, whole numbers: the reference's Exact turns and moves
theorem rt_step {k m a hi lo X : Nat} (h1 : a = hi * 2 ^ (m + 1) + lo) (h2 : lo < 2 ^ (m + 1)) (h3 : hi < 2 ^ k) (h4 : X = lo * 2 ^ k + hi) :
    ∃ hi' lo', a = hi' * 2 ^ m + lo' ∧ lo' < 2 ^ m ∧ hi' < 2 ^ (k + 1) ∧ 2 * X % 2 ^ (k + (m + 1)) + X / 2 ^ (k + m) = lo' * 2 ^ (k + 1) + hi' := by
  have hP : 0 < 2 ^ m := Nat.pow_pos (by decide)
  have hQ : 0 < 2 ^ k := Nat.pow_pos (by decide)
  have e1 := Nat.div_add_mod lo (2 ^ m)
  have e2 := Nat.mod_lt lo hP
  rw [Nat.pow_succ] at h1 h2
  have e3 : lo / 2 ^ m < 2 := Nat.div_lt_of_lt_mul (by omega)
  rw [show k + (m + 1) = (k + m) + 1 by omega, Nat.pow_succ 2 (k + m), Nat.pow_add 2 k m, Nat.pow_succ 2 k]
  generalize 2 ^ m = P at *
  generalize 2 ^ k = Q at *
  generalize lo / P = t at *
  generalize hl : lo % P = l at *
  have eS : l * Q + hi < Q * P := by
    have : (l + 1) * Q ≤ P * Q := Nat.mul_le_mul_right Q e2
    rw [Nat.add_mul, Nat.one_mul, Nat.mul_comm P Q] at this
    omega
  have eX : X = Q * P * t + (l * Q + hi) := by
    rw [h4, ← e1, Nat.add_mul, Nat.mul_comm Q P, Nat.mul_assoc P t Q, Nat.mul_comm t Q, ← Nat.mul_assoc, Nat.add_assoc]
  have hQP : 0 < Q * P := Nat.mul_pos hQ hP
  refine ⟨2 * hi + t, l, ?_, e2, by omega, ?_⟩
  · rw [Nat.add_mul, Nat.mul_assoc 2 hi P, Nat.mul_left_comm 2 hi P, Nat.mul_comm t P]
    rw [Nat.mul_comm P 2] at h1
    omega
  · rw [Nat.mul_comm (Q * P) 2, Nat.mul_mod_mul_left, eX, Nat.mul_add_mod, Nat.mod_eq_of_lt eS, Nat.mul_add_div hQP, Nat.div_eq_of_lt eS, ← Nat.mul_assoc]
    omega
theorem rt_end {w n a hi lo X : Nat} (hn : n < w) (h1 : a = hi * 2 ^ (w - n) + lo) (h2 : lo < 2 ^ (w - n)) (h3 : hi < 2 ^ n) (h4 : X = lo * 2 ^ n + hi) (ha : a < 2 ^ w) : X = a * 2 ^ n % 2 ^ w ||| a / 2 ^ ((w - n) % w) := by
  rcases Nat.eq_zero_or_pos n with e | e
  · subst e
    rw [Nat.pow_zero] at h3 h4
    have : X = a := by
      have : hi = 0 := by omega
      rw [this, Nat.zero_mul] at h1
      omega
    rw [Nat.sub_zero, Nat.mod_self, Nat.pow_zero, Nat.mul_one, Nat.div_one, Nat.mod_eq_of_lt ha, Nat.or_self]
    exact this
  · have hp : 0 < 2 ^ (w - n) := Nat.pow_pos (by decide)
    have e1 : a / 2 ^ (w - n) = hi := by rw [h1, Nat.mul_comm, Nat.mul_add_div hp, Nat.div_eq_of_lt h2, Nat.add_zero]
    have e2 : 2 ^ w = 2 ^ (w - n) * 2 ^ n := by rw [← Nat.pow_add, Nat.sub_add_cancel (by omega)]
    have e3 : a * 2 ^ n % 2 ^ w = lo * 2 ^ n := by
      rw [e2, h1, Nat.add_mul, Nat.mul_assoc, Nat.mul_comm hi, Nat.mul_add_mod]
      exact Nat.mod_eq_of_lt (Nat.mul_lt_mul_of_pos_right h2 (Nat.pow_pos (by decide)))
    rw [Nat.mod_eq_of_lt (by omega : w - n < w), e1, e3, h4, Nat.mul_comm lo]
    exact Nat.two_pow_add_eq_or_of_lt h3 lo
theorem or_1b {z t : Nat} (ht : t < 2) : 2 * z ||| t = 2 * z + t := by
  have := Nat.two_pow_add_eq_or_of_lt (b := t) (i := 1) (by omega) z
  rw [Nat.pow_one] at this
  exact this.symm
section XI2
variable {h : xb_H}
theorem xr_turned {x : Int64} {v u : Int32} {w n a : Nat} {Qr : Int64 → xb_H → Prop} (hv : v.toInt = w) (w6 : w = 32 ∨ w = 64) (hu : u.toInt = n) (hn : n < w) (hx : x.toBitVec.toNat = a) (ha : a < 2 ^ w) (hQ : ∀ r : Int64, r.toBitVec.toNat = (a * 2 ^ n % 2 ^ w ||| a / 2 ^ ((w - n) % w)) → Qr r h) : w_Exact_turned x v u h Qr := by
  have key : ∀ (m : Nat) (x4 : Int64) (x6 : Int32) (k hi lo : Nat), x6.toInt = k → k + m = n → a = hi * 2 ^ (w - k) + lo → lo < 2 ^ (w - k) → hi < 2 ^ k → x4.toBitVec.toNat = lo * 2 ^ k + hi → w_Exact_turned_L6 Qr (m + 1) v u x4 x6 h := by
    intro m
    induction m with
    | zero =>
      intro x4 x6 k hi lo h1 h2 h3 h4 h5 h6
      have ek : k = n := by omega
      subst ek
      unfold w_Exact_turned_L6
      refine ⟨fun _ => hQ _ (rt_end hn h3 h4 h5 h6 ha), fun e => ?_⟩
      rw [z_le, h1, hu] at e
      omega
    | succ m ih =>
      intro x4 x6 k hi lo h1 h2 h3 h4 h5 h6
      have ew : w - k = (w - k - 1) + 1 := by omega
      rw [ew] at h3 h4
      obtain ⟨hi', lo', g1, g2, g3, g4⟩ := rt_step h3 h4 h5 h6
      rw [show k + (w - k - 1 + 1) = w by omega, show k + (w - k - 1) = w - 1 by omega] at g4
      have lX : x4.toBitVec.toNat < 2 ^ w := by
        rw [h6]
        have e1 : 2 ^ w = 2 ^ (w - k - 1 + 1) * 2 ^ k := by rw [← Nat.pow_add]; congr 1; omega
        have e2 : (lo + 1) * 2 ^ k ≤ 2 ^ (w - k - 1 + 1) * 2 ^ k := Nat.mul_le_mul_right _ h4
        rw [← e1, Nat.add_mul, Nat.one_mul] at e2
        omega
      have hb : (v - 1).toInt = (w - 1 : Nat) := by
        rw [z_sub, hv, show (1 : Int32).toInt = 1 from rfl]
        omega
      have ih' := fun v1 g => ih v1 (x6 + 1) (k + 1) hi' lo' (z_inc h1 (by omega)) (by omega) (by rw [show w - (k + 1) = w - k - 1 by omega]; exact g1) (by rw [show w - (k + 1) = w - k - 1 by omega]; exact g2) g3 g
      have bt := Z_bit (x := x4) (y := v - 1) rfl hb (by omega)
      have b2 : x4.toBitVec.toNat / 2 ^ (w - 1) % 2 = x4.toBitVec.toNat / 2 ^ (w - 1) := by
        refine Nat.mod_eq_of_lt (Nat.div_lt_of_lt_mul ?_)
        rw [Nat.mul_comm, ← Nat.pow_succ', show (w - 1).succ = w by omega]
        exact lX
      rw [b2] at bt
      have b3 : x4.toBitVec.toNat / 2 ^ (w - 1) < 2 := by omega
      have ev : 2 * x4.toBitVec.toNat % 2 ^ w = 2 * (x4.toBitVec.toNat % 2 ^ (w - 1)) := by
        rw [show 2 ^ w = 2 * 2 ^ (w - 1) by rw [← Nat.pow_succ', show (w - 1).succ = w by omega], Nat.mul_mod_mul_left]
      unfold w_Exact_turned_L6 w_Exact_turned_L43
      refine ⟨fun e => ?_, fun e v2 e2 => ⟨fun c v1 e1 => ih' v1 ?_, fun c v1 e1 => ih' v1 ?_⟩⟩
      · rw [z_le, h1, hu] at e
        omega
      · have w64 : w = 64 := by
          rcases w6 with h9 | h9
          · exact absurd (z_eq.mpr (by rw [hv, h9]; rfl)) c
          · exact h9
        have ys : (xb_lshl x4 1).toBitVec.toNat = 2 * x4.toBitVec.toNat % 2 ^ w := by
          rw [Z_shl (k := 1) rfl (by decide), Nat.pow_one, Nat.mul_comm, w64]
        rw [e1, Z_or, e2, bt, ys, ev, or_1b b3, ← ev, g4]
      · have w32 : w = 32 := by
          rw [z_eq, hv] at c
          rcases w6 with h9 | h9
          · exact h9
          · rw [h9] at c
            exact absurd c (by decide)
        have ys : ((xb_lshl x4 1) &&& 4294967295).toBitVec.toNat = 2 * x4.toBitVec.toNat % 2 ^ w := by
          rw [Z_and_mod _ 32 rfl, Z_shl (k := 1) rfl (by decide), Nat.pow_one, Nat.mul_comm]
          rw [w32] at lX ⊢
          have p32 : (2 : Nat) ^ 32 = 4294967296 := by decide
          rw [p32] at lX ⊢
          omega
        rw [e1, Z_or, e2, bt, ys, ev, or_1b b3, ← ev, g4]
  unfold w_Exact_turned
  refine ⟨n + 1, key n x 0 0 0 a rfl (by omega) ?_ ?_ (by decide) ?_⟩
  · rw [Nat.zero_mul, Nat.zero_add]
  · exact ha
  · rw [hx, Nat.pow_zero, Nat.mul_one, Nat.add_zero]
theorem mv_s {w k a X : Nat} (hk : k < w) (h1 : X + 2 ^ (w - k) = a / 2 ^ k + 2 ^ w) (hX : X < 2 ^ w) : (X / 2 ||| 2 ^ (w - 1)) + 2 ^ (w - (k + 1)) = a / 2 ^ (k + 1) + 2 ^ w ∧ (X / 2 ||| 2 ^ (w - 1)) < 2 ^ w := by
  have e1 : 2 ^ w = 2 ^ (w - 1) * 2 := by rw [← Nat.pow_succ, show (w - 1).succ = w by omega]
  have e2 : 2 ^ (w - k) = 2 ^ (w - (k + 1)) * 2 := by rw [← Nat.pow_succ, show (w - (k + 1)).succ = w - k by omega]
  have e3 : a / 2 ^ (k + 1) = a / 2 ^ k / 2 := by rw [Nat.pow_succ, Nat.div_div_eq_div_mul]
  have e4 : X / 2 < 2 ^ (w - 1) := by omega
  have e5 : X / 2 ||| 2 ^ (w - 1) = X / 2 + 2 ^ (w - 1) := by
    have := Nat.two_pow_add_eq_or_of_lt e4 1
    rw [Nat.mul_one] at this
    rw [Nat.or_comm, ← this, Nat.add_comm]
  rw [e5, e3]
  omega
theorem xr_moved {x : Int64} {z v u : Int32} {w k n a b : Nat} {Qr : Int64 → xb_H → Prop} (hz : z.toInt = k) (k3 : 13 ≤ k) (k5 : k ≤ 15) (hv : v.toInt = w) (w6 : w = 32 ∨ w = 64) (hu : u.toInt = n) (hn : n = b % w) (hx : x.toBitVec.toNat = a) (ha : a < 2 ^ w) (hQ : ∀ r : Int64, r.toBitVec.toNat % 2 ^ w = iop w (k - 3) a b → Qr r h) : w_Exact_moved z v x u h Qr := by
  have nw : n < w := by rw [hn]; exact Nat.mod_lt _ (by omega)
  have z13 : z = 13 ↔ k = 13 := by rw [z_eq, hz, show (13 : Int32).toInt = 13 from rfl]; omega
  have z14 : z = 14 ↔ k = 14 := by rw [z_eq, hz, show (14 : Int32).toInt = 14 from rfl]; omega
  have hb : (v - 1).toInt = (w - 1 : Nat) := by
    rw [z_sub, hv, show (1 : Int32).toInt = 1 from rfl]
    omega
  obtain ⟨b1, b0⟩ := Z_bit01 hx hb (by omega)
  have s1 : (xb_lshl 1 (v - 1)).toBitVec.toNat = 2 ^ (w - 1) := by
    rw [Z_shl hb (by omega), show (1 : Int64).toBitVec.toNat = 1 from rfl, Nat.one_mul]
    refine Nat.mod_eq_of_lt ?_
    have : 2 ^ (w - 1) ≤ 2 ^ 63 := Nat.pow_le_pow_right (by decide) (by omega)
    exact Nat.lt_of_le_of_lt this (by decide)
  have key : ∀ (I : Nat → Nat → Prop) (m : Nat) (x5 : Int64) (x7 : Int32) (j : Nat), x7.toInt = j → j + m = n → I j x5.toBitVec.toNat → (∀ y : Int64, I n y.toBitVec.toNat → Qr y h) → (∀ j y, j < n → I j y → (k = 13 → I (j + 1) (2 * y % 18446744073709551616)) ∧ (k = 15 → I (j + 1) (y / 2)) ∧ (k = 14 → ¬ a / 2 ^ (w - 1) % 2 = 1 → I (j + 1) (y / 2)) ∧ (k = 14 → a / 2 ^ (w - 1) % 2 = 1 → I (j + 1) (y / 2 ||| 2 ^ (w - 1)))) → w_Exact_moved_L6 Qr (m + 1) z v x u x5 x7 h := by
    intro I m
    induction m with
    | zero =>
      intro x5 x7 j h1 h2 h3 h4 h5
      have ej : j = n := by omega
      subst ej
      unfold w_Exact_moved_L6
      refine ⟨fun _ => h4 _ h3, fun e => ?_⟩
      rw [z_le, h1, hu] at e
      omega
    | succ m ih =>
      intro x5 x7 j h1 h2 h3 h4 h5
      obtain ⟨i1, i2, i3, i4⟩ := h5 j _ (by omega) h3
      have K : ∀ y : Int64, I (j + 1) y.toBitVec.toNat → w_Exact_moved_L6 Qr (m + 1) z v x u y (x7 + 1) h := fun y hy => ih y (x7 + 1) (j + 1) (z_inc h1 (by omega)) (by omega) hy h4 h5
      unfold w_Exact_moved_L6 w_Exact_moved_L32 w_Exact_moved_L63 w_Exact_moved_L65
      rw [z13, z14, b1]
      refine ⟨fun e => ?_, fun e => ⟨fun c => ⟨fun c2 => K _ ?_, fun c2 => ⟨fun c3 => K _ ?_, fun c3 => K _ ?_⟩⟩, fun c => ⟨fun c2 => K _ ?_, fun c2 => absurd c2 (by omega)⟩⟩⟩
      · rw [z_le, h1, hu] at e
        omega
      · rw [Z_even]
        exact i2 (by omega)
      · rw [Z_even]
        exact i3 c2 c3
      · rw [Z_or, Z_even, s1]
        exact i4 c2 c3
      · rw [Z_mulN, show (2 : Int64).toBitVec.toNat = 2 from rfl]
        exact i1 c
  unfold w_Exact_moved
  rcases (show k = 13 ∨ k = 15 ∨ (k = 14 ∧ ¬ a / 2 ^ (w - 1) % 2 = 1) ∨ (k = 14 ∧ a / 2 ^ (w - 1) % 2 = 1) by omega) with e | e | ⟨e, e'⟩ | ⟨e, e'⟩
  · subst e
    refine ⟨n + 1, key (fun j y => y = a * 2 ^ j % 18446744073709551616) n x 0 0 rfl (by omega) ?_ (fun y hy => hQ y ?_) (fun j y hj hy => ⟨fun _ => ?_, fun e => absurd e (by decide), fun e => absurd e (by decide), fun e => absurd e (by decide)⟩)⟩
    · rw [hx, Nat.pow_zero, Nat.mul_one]
      refine (Nat.mod_eq_of_lt ?_).symm
      rw [← hx]
      exact x.toBitVec.isLt
    · show _ = a * 2 ^ (b % w) % 2 ^ w
      rw [hy, ← hn]
      rcases w6 with h9 | h9
      · subst h9
        exact Nat.mod_mod_of_dvd _ (show (2 ^ 32 : Nat) ∣ 18446744073709551616 from ⟨4294967296, by decide⟩)
      · subst h9
        exact Nat.mod_mod _ _
    · show 2 * y % 18446744073709551616 = a * 2 ^ (j + 1) % 18446744073709551616
      rw [hy, Nat.pow_succ, ← Nat.mul_assoc]
      generalize a * 2 ^ j = A
      omega
  · subst e
    have st : ∀ j y, y = a / 2 ^ j → y / 2 = a / 2 ^ (j + 1) := fun j y hy => by rw [hy, Nat.pow_succ, Nat.div_div_eq_div_mul]
    refine ⟨n + 1, key (fun j y => y = a / 2 ^ j) n x 0 0 rfl (by omega) ?_ (fun y hy => hQ y ?_) (fun j y hj hy => ⟨fun e => absurd e (by decide), fun _ => st j y hy, fun e => absurd e (by decide), fun e => absurd e (by decide)⟩)⟩
    · rw [hx, Nat.pow_zero, Nat.div_one]
    · show _ = a / 2 ^ (b % w)
      rw [hy, ← hn]
      exact Nat.mod_eq_of_lt (Nat.lt_of_le_of_lt (Nat.div_le_self _ _) ha)
  · subst e
    have st : ∀ j y, y = a / 2 ^ j → y / 2 = a / 2 ^ (j + 1) := fun j y hy => by rw [hy, Nat.pow_succ, Nat.div_div_eq_div_mul]
    refine ⟨n + 1, key (fun j y => y = a / 2 ^ j) n x 0 0 rfl (by omega) ?_ (fun y hy => hQ y ?_) (fun j y hj hy => ⟨fun e => absurd e (by decide), fun e => absurd e (by decide), fun _ _ => st j y hy, fun _ e => absurd e e'⟩)⟩
    · rw [hx, Nat.pow_zero, Nat.div_one]
    · show _ = (sgn w a / (2 ^ (b % w) : Nat) % (2 ^ w : Nat)).toNat
      have l1 : a < 2 ^ (w - 1) := by
        refine Classical.byContradiction fun h9 => e' ?_
        have : a / 2 ^ (w - 1) = 1 := by
          have e1 : 2 ^ w = 2 ^ (w - 1) * 2 := by rw [← Nat.pow_succ, show (w - 1).succ = w by omega]
          have hp : 0 < 2 ^ (w - 1) := Nat.pow_pos (by decide)
          rw [show a = 2 ^ (w - 1) * 1 + (a - 2 ^ (w - 1)) by omega, Nat.mul_add_div hp, Nat.div_eq_of_lt (by omega)]
        rw [this]
      unfold sgn
      rw [if_pos l1, ← Int.natCast_ediv, hy, ← hn]
      have l2 : a / 2 ^ n < 2 ^ w := Nat.lt_of_le_of_lt (Nat.div_le_self _ _) ha
      rw [Nat.mod_eq_of_lt l2]
      rw [← Int.natCast_emod, Nat.mod_eq_of_lt l2]
      rfl
  · subst e
    refine ⟨n + 1, key (fun j y => y + 2 ^ (w - j) = a / 2 ^ j + 2 ^ w ∧ y < 2 ^ w) n x 0 0 rfl (by omega) ?_ (fun y hy => hQ y ?_) (fun j y hj hy => ⟨fun e => absurd e (by decide), fun e => absurd e (by decide), fun _ e => absurd e' e, fun _ _ => mv_s (by omega) hy.1 hy.2⟩)⟩
    · rw [hx, Nat.pow_zero, Nat.div_one]
      exact ⟨rfl, ha⟩
    · show _ = (sgn w a / (2 ^ (b % w) : Nat) % (2 ^ w : Nat)).toNat
      have l1 : ¬ a < 2 ^ (w - 1) := fun h9 => by
        rw [Nat.div_eq_of_lt h9] at e'
        exact absurd e' (by decide)
      obtain ⟨y1, y2⟩ := hy
      have hp : ((2 ^ n : Nat) : Int) ≠ 0 := by
        have : 0 < 2 ^ n := Nat.pow_pos (by decide)
        omega
      have e2 : ((2 ^ w : Nat) : Int) = (2 ^ (w - n) : Nat) * (2 ^ n : Nat) := by
        rw [← Int.natCast_mul, ← Nat.pow_add, Nat.sub_add_cancel (by omega)]
      have e3 : ((a : Int) - (2 ^ w : Nat)) / (2 ^ n : Nat) = (a / 2 ^ n : Nat) - (2 ^ (w - n) : Nat) := by
        rw [e2, Int.sub_eq_add_neg, ← Int.neg_mul, Int.add_mul_ediv_right _ _ hp, Int.natCast_ediv]
        rfl
      unfold sgn
      rw [if_neg l1, ← hn, e3, Nat.mod_eq_of_lt y2]
      have e4 : ((a / 2 ^ n : Nat) : Int) - (2 ^ (w - n) : Nat) = (y.toBitVec.toNat : Int) - (2 ^ w : Nat) := by omega
      rw [e4, Int.sub_emod_right, ← Int.natCast_emod, Nat.mod_eq_of_lt y2]
      rfl
end XI2

-- equality, whole numbers: the reference's Exact counts and divides
theorem ctb_0 : ∀ n : Nat, ctb n 0 = n
  | 0 => rfl
  | n + 1 => by
    show (if 0 % 2 = 1 then 0 else 1 + ctb n (0 / 2)) = n + 1
    rw [if_neg (by decide), Nat.zero_div, ctb_0 n, Nat.add_comm]
theorem ctb_of : ∀ (w k a : Nat), a % 2 ^ k = 0 → a / 2 ^ k % 2 = 1 → k < w → ctb w a = k
  | 0, k, a, _, _, h3 => absurd h3 (Nat.not_lt_zero k)
  | w + 1, 0, a, h1, h2, h3 => by
    rw [Nat.pow_zero, Nat.div_one] at h2
    show (if a % 2 = 1 then 0 else 1 + ctb w (a / 2)) = 0
    rw [if_pos h2]
  | w + 1, k + 1, a, h1, h2, h3 => by
    have e0 : a % 2 = 0 := by
      have : a % (2 * 2 ^ k) % 2 = a % 2 := Nat.mod_mul_right_mod a 2 (2 ^ k)
      rw [Nat.pow_succ, Nat.mul_comm] at h1
      rw [h1] at this
      omega
    have e1 : a / 2 % 2 ^ k = 0 := by
      rw [Nat.pow_succ, Nat.mul_comm] at h1
      have := Nat.mod_mul_right_div_self a 2 (2 ^ k)
      rw [h1] at this
      omega
    have e2 : a / 2 / 2 ^ k % 2 = 1 := by
      rw [Nat.div_div_eq_div_mul, Nat.mul_comm 2, ← Nat.pow_succ]
      exact h2
    show (if a % 2 = 1 then 0 else 1 + ctb w (a / 2)) = k + 1
    rw [if_neg (by omega), ctb_of w k (a / 2) e1 e2 (by omega), Nat.add_comm]
theorem mod_nx (a k : Nat) : a % 2 ^ (k + 1) = 2 ^ k * (a / 2 ^ k % 2) + a % 2 ^ k := by
  rw [Nat.pow_succ, Nat.mod_mul, Nat.add_comm]
theorem clb_lo {w k r : Nat} (hr : r < 2 ^ k) : clb w (2 ^ k * 1 + r) = w - 1 - k := by
  have hp : 0 < 2 ^ k := Nat.pow_pos (by decide)
  unfold clb
  rw [if_neg (by omega), log2_of (t := k) (by omega) (by rw [Nat.pow_succ]; omega)]
theorem pcb_nx (k a : Nat) : pcb (k + 1) a = pcb k a + a / 2 ^ k % 2 := by
  rw [Nat.add_comm k 1, pcb_add k 1 a]
  rfl
theorem pcb_le : ∀ (n x : Nat), pcb n x ≤ n
  | 0, _ => Nat.le_refl 0
  | n + 1, x => by
    show x % 2 + pcb n (x / 2) ≤ n + 1
    have := pcb_le n (x / 2)
    omega
theorem Z_bit {x : Int64} {y : Int32} {a k : Nat} (hx : x.toBitVec.toNat = a) (hy : y.toInt = k) (hk : k < 64) : (xb_lshr x y &&& 1).toBitVec.toNat = a / 2 ^ k % 2 := by
  rw [Z_and, show (1 : Int64).toBitVec.toNat = 1 from rfl, Nat.and_one_is_mod]
  have e := Z_sar (x := x) hy hk
  have c1 := Z_nat x
  have c2 := Z_rg x
  have c3 := Z_nat (xb_lshr x y)
  rw [e] at c3
  rw [hx] at c1
  generalize hz : (xb_lshr x y).toBitVec.toNat = z at *
  rcases Int.lt_or_le x.toInt 0 with h9 | h9
  · have e1 : x.toInt = (a : Int) - 18446744073709551616 := by omega
    have e2 : (18446744073709551616 : Int) = (2 ^ (64 - k) : Nat) * (2 ^ k : Nat) := by
      rw [← Int.natCast_mul, ← Nat.pow_add, Nat.sub_add_cancel (by omega)]
      rfl
    have hp : ((2 ^ k : Nat) : Int) ≠ 0 := by
      have : 0 < 2 ^ k := Nat.pow_pos (by decide)
      omega
    have e3 : x.toInt / (2 ^ k : Nat) = (a / 2 ^ k : Nat) - (2 ^ (64 - k) : Nat) := by
      rw [e1, e2, Int.sub_eq_add_neg, ← Int.neg_mul, Int.add_mul_ediv_right _ _ hp, Int.natCast_ediv]
      rfl
    rw [e3] at c3
    have e4 : (2 ^ (64 - k) : Nat) % 2 = 0 := by
      rw [show 64 - k = (63 - k) + 1 by omega, Nat.pow_succ]
      omega
    generalize 2 ^ (64 - k) = P at *
    generalize a / 2 ^ k = Q at *
    omega
  · have e1 : x.toInt = (a : Int) := by omega
    rw [e1, ← Int.natCast_ediv] at c3
    generalize a / 2 ^ k = Q at *
    omega
theorem Z_bit01 {x : Int64} {y : Int32} {a k : Nat} (hx : x.toBitVec.toNat = a) (hy : y.toInt = k) (hk : k < 64) : ((xb_lshr x y &&& 1) = 1 ↔ a / 2 ^ k % 2 = 1) ∧ ((xb_lshr x y &&& 1) = 0 ↔ a / 2 ^ k % 2 = 0) := by
  rw [Z_eqN, Z_eqN, Z_bit hx hy hk]
  exact ⟨Iff.rfl, Iff.rfl⟩
section XI1
variable {h : xb_H}
theorem xr_below {x y : Int64} {a b : Nat} {Qr : Int32 → xb_H → Prop} (hx : x.toBitVec.toNat = a) (hy : y.toBitVec.toNat = b) (hQ : ∀ r : Int32, r = 0 ∨ r = 1 → (r = 1 ↔ a < b) → Qr r h) : w_Exact_below x y h Qr := by
  unfold w_Exact_below w_Exact_below_L19
  rw [Z_le, Z_flip hx, Z_flip hy]
  refine ⟨fun e => ⟨.inl rfl, hQ _ (.inl rfl) ⟨fun h9 => absurd h9 (by decide), fun _ => by omega⟩⟩, fun e => ⟨.inr rfl, hQ _ (.inr rfl) ⟨fun _ => by omega, fun _ => rfl⟩⟩⟩
theorem or_hi {a : Nat} (ha : a < 4294967296) : a ||| 18446744069414584320 = 18446744069414584320 + a := by
  have := Nat.two_pow_add_eq_or_of_lt (b := a) (i := 32) ha 4294967295
  rw [Nat.or_comm, show (18446744069414584320 : Nat) = 2 ^ 32 * 4294967295 from rfl]
  exact this.symm
theorem xr_withSign {x : Int64} {v : Int32} {w a : Nat} {Qr : Int64 → xb_H → Prop} (hv : v.toInt = w) (w6 : w = 32 ∨ w = 64) (hx : x.toBitVec.toNat = a) (ha : a < 2 ^ w) (hQ : ∀ r : Int64, r.toInt = sgn w a → Qr r h) : w_Exact_withSign x v h Qr := by
  have k64 : v = 64 ↔ w = 64 := by rw [z_eq, hv, show (64 : Int32).toInt = 64 from rfl]; omega
  unfold w_Exact_withSign w_Exact_withSign_L18 w_Exact_withSign_L29
  rw [k64]
  refine ⟨fun e => hQ _ ?_, fun e => ?_⟩
  · rw [e, sg64, hx]
  · have e32 : w = 32 := by omega
    subst e32
    have hv1 : (v - 1).toInt = (31 : Nat) := by
      rw [z_sub, hv, show (1 : Int32).toInt = 1 from rfl]
      decide
    obtain ⟨b1, b0⟩ := Z_bit01 hx hv1 (by decide)
    rw [b0]
    have p31 : (2 : Nat) ^ 31 = 2147483648 := by decide
    have p32 : (2 : Nat) ^ 32 = 4294967296 := by decide
    rw [p32] at ha
    rw [p31]
    refine ⟨fun e1 => hQ _ ?_, fun e1 => hQ _ ?_⟩
    · have n1 : (x ||| xb_lshl (-1) v).toBitVec.toNat = 18446744069414584320 + a := by
        rw [Z_or, hx, Z_shl hv (by decide), show (-1 : Int64).toBitVec.toNat * 2 ^ 32 % 18446744073709551616 = 18446744069414584320 from rfl, or_hi ha]
      rw [sg64, n1]
      unfold sgn
      rw [if_neg (by show ¬ (18446744069414584320 + a < 9223372036854775808); omega), if_neg (by show ¬ a < 2147483648; omega)]
      show ((18446744069414584320 + a : Nat) : Int) - (18446744073709551616 : Nat) = a - (4294967296 : Nat)
      omega
    · rw [sg64, hx]
      unfold sgn
      rw [if_pos (by show a < 9223372036854775808; omega), if_pos (by show a < 2147483648; omega)]
theorem xr_count {x : Int64} {v u : Int32} {w k a : Nat} {Qr : Int32 → xb_H → Prop} (hv : v.toInt = w) (w6 : w = 32 ∨ w = 64) (hu : u.toInt = k) (hk : k ≤ 2) (hx : x.toBitVec.toNat = a) (ha : a < 2 ^ w) (hQ : ∀ r : Int32, r.toInt = icn w k a → Qr r h) : w_Exact_count x v u h Qr := by
  have k0 : u = 0 ↔ k = 0 := by rw [z_eq, hu, show (0 : Int32).toInt = 0 from rfl]; omega
  have k1 : u = 1 ↔ k = 1 := by rw [z_eq, hu, show (1 : Int32).toInt = 1 from rfl]; omega
  have key : ∀ (m : Nat) (x5 x6 x7 x8 : Int32) (j : Nat), x8.toInt = j → j + m = w → x5.toInt = pcb j a → x6.toInt = clb w (a % 2 ^ j) → ((a % 2 ^ j = 0 ∧ x7.toInt = w) ∨ (a % 2 ^ j ≠ 0 ∧ x7.toInt = ctb w a ∧ ctb w a < w)) → w_Exact_count_L15 Qr (m + 1) x v u x5 x6 x7 x8 h := by
    intro m
    induction m with
    | zero =>
      intro x5 x6 x7 x8 j h1 h2 h3 h4 h5
      have ej : j = w := by omega
      subst ej
      rw [Nat.mod_eq_of_lt ha] at h4 h5
      unfold w_Exact_count_L15 w_Exact_count_L120
      rw [k0, k1]
      refine ⟨fun _ => ⟨fun c0 => ⟨fun c1 => hQ _ ?_, fun c1 => hQ _ ?_⟩, fun c0 => hQ _ ?_⟩, fun e => ?_⟩
      · unfold icn
        rw [if_neg c0, if_neg c1, h3]
      · unfold icn
        rw [if_neg c0, if_pos c1]
        rcases h5 with ⟨g1, g2⟩ | ⟨g1, g2, g3⟩
        · rw [g2, g1, ctb_0]
        · exact g2
      · unfold icn
        rw [if_pos c0, h4]
      · rw [z_le, hv, h1] at e
        omega
    | succ m ih =>
      intro x5 x6 x7 x8 j h1 h2 h3 h4 h5
      have hj : j < 64 := by omega
      obtain ⟨b1, b0⟩ := Z_bit01 hx h1 hj
      have mx := mod_nx a j
      have px := pcb_nx j a
      have hp := pcb_le j a
      have ih' := fun y5 y6 y7 => ih y5 y6 y7 (x8 + 1) (j + 1) (z_inc h1 (by omega)) (by omega)
      unfold w_Exact_count_L15 w_Exact_count_L37 w_Exact_count_L53 w_Exact_count_L71 w_Exact_count_L89 w_Exact_count_L91
      rw [b1]
      refine ⟨fun e => ?_, fun _ => ⟨fun c => ?_, fun c => ?_⟩⟩
      · rw [z_le, hv, h1] at e
        omega
      · have c0 : a / 2 ^ j % 2 = 0 := by omega
        rw [c0, Nat.mul_zero, Nat.zero_add] at mx
        rw [c0, Nat.add_zero] at px
        refine ⟨fun _ => ⟨fun _ => ⟨fun _ => ih' _ _ _ (by rw [px]; exact h3) (by rw [mx]; exact h4) (by rw [mx]; exact h5), fun g => absurd rfl g⟩, fun g => absurd rfl g⟩, fun g => absurd rfl g⟩
      · rw [c] at mx px
        have hr : a % 2 ^ j < 2 ^ j := Nat.mod_lt _ (Nat.pow_pos (by decide))
        have p5 : (x5 + 1).toInt = pcb (j + 1) a := by
          rw [px, z_add, h3, show (1 : Int32).toInt = 1 from rfl]
          omega
        have p6 : (v - 1 - x8).toInt = clb w (a % 2 ^ (j + 1)) := by
          rw [mx, clb_lo hr, z_sub, z_sub, hv, h1, show (1 : Int32).toInt = 1 from rfl]
          omega
        have hn : a % 2 ^ (j + 1) ≠ 0 := by
          rw [mx]
          have : 0 < 2 ^ j := Nat.pow_pos (by decide)
          omega
        refine ⟨fun g => absurd g (by decide), fun _ => ⟨fun g => absurd g (by decide), fun _ => ⟨fun g => absurd g (by decide), fun _ => ⟨fun g => ih' _ _ _ p5 p6 (.inr ⟨hn, ?_⟩), fun g => ih' _ _ _ p5 p6 (.inr ⟨hn, ?_⟩)⟩⟩⟩⟩
        · rcases h5 with ⟨g1, g2⟩ | ⟨g1, g2, g3⟩
          · exact absurd (z_eq.mpr (by rw [g2, hv])) g
          · exact ⟨g2, g3⟩
        · rcases h5 with ⟨g1, g2⟩ | ⟨g1, g2, g3⟩
          · have := ctb_of w j a g1 c (by omega)
            rw [this]
            exact ⟨h1, by omega⟩
          · rw [z_eq, g2, hv] at g
            omega
  unfold w_Exact_count
  refine ⟨w + 1, key w _ _ _ 0 0 rfl (by omega) rfl ?_ (.inl ⟨Nat.mod_one a, hv⟩)⟩
  rw [hv, Nat.pow_zero, Nat.mod_one]
  rfl
theorem dd_core {a b m q r : Nat} (hb : 0 < b) (h1 : a / 2 ^ (m + 1) = b * q + r) (hr : r < b) : a / 2 ^ m = b * (2 * q) + (2 * r + a / 2 ^ m % 2) := by
  have e1 : a / 2 ^ (m + 1) = a / 2 ^ m / 2 := by rw [Nat.pow_succ, Nat.div_div_eq_div_mul]
  rw [e1] at h1
  rw [Nat.mul_left_comm]
  generalize b * q = z at *
  omega
theorem dl_1 {r B b : Nat} (hr : r < b) (hB : B < 2) (hs : b ≤ 2 * r + B) : 2 * r + B - b < b := by omega
theorem dl_2 {r B b : Nat} (hr : r < b) (lb : b < 18446744073709551616) (hB : B < 2) (hs : b ≤ 2 * r + B) : (18446744073709551616 - b + (2 * r + B) % 18446744073709551616) % 18446744073709551616 = 2 * r + B - b := by omega
theorem dl_3 {A b q L : Nat} (hb : 0 < b) (h1 : A = b * (2 * q) + L) (h2 : b ≤ L) : A = b * (2 * q + 1) + (L - b) := by
  rw [Nat.mul_add, Nat.mul_one]
  generalize b * (2 * q) = z at *
  omega
theorem dl_4 {A b q L : Nat} (hb : 0 < b) (h1 : A = b * q + L) (hA : A < 18446744073709551616) : q < 18446744073709551616 := by
  have : q ≤ b * q := Nat.le_mul_of_pos_left _ hb
  generalize b * q = z at *
  omega
theorem dl_5 {r B : Nat} (hB : B < 2) : (2 * r % 18446744073709551616 + B) % 18446744073709551616 = (2 * r + B) % 18446744073709551616 := by omega
theorem dl_6 {x5 : Int64} {r : Nat} (h3 : x5.toBitVec.toNat = r) : (0 : Int64) ≤ x5 ↔ r < 9223372036854775808 := by
  rw [Z_le, show (0 : Int64).toInt = 0 from rfl]
  have c1 := Z_nat x5
  have c2 := Z_rg x5
  rw [h3] at c1
  omega
theorem dl_7 {r B b : Nat} (h1 : ¬ r < 9223372036854775808) (lb : b < 18446744073709551616) : b ≤ 2 * r + B := by omega
theorem dl_8 {r B : Nat} (h1 : r < 9223372036854775808) (hB : B < 2) : 2 * r + B < 18446744073709551616 := by omega
theorem dl_9 {x9 : Int32} {m : Nat} (h9 : x9.toInt = m) (hm : m ≤ 64) : (x9 + -1).toInt = (m : Int) - 1 := by
  rw [z_add, h9, show (-1 : Int32).toInt = -1 from rfl]
  omega
theorem dl_a {x9 : Int32} {m : Nat} (h9 : x9.toInt = m) : ¬ x9 < 0 := by
  rw [z_lt, h9, show (0 : Int32).toInt = 0 from rfl]
  omega
theorem dl_b {x9 : Int32} {m : Nat} (h1 : x9.toInt = ((m + 1 : Nat) : Int) - 1) : x9.toInt = m := by omega
section XID
variable {x y : Int64} {u : Int32} {a b : Nat} {Qr : Int64 → xb_H → Prop}
theorem xr_divL (hx : x.toBitVec.toNat = a) (hy : y.toBitVec.toNat = b) (hb : 0 < b) (hQ : ∀ r : Int64, r.toBitVec.toNat = (if u = 0 then a / b else a % b) → Qr r h) (la : a < 18446744073709551616) (lb : b < 18446744073709551616) : ∀ (m : Nat) (x5 x7 : Int64) (x9 : Int32) (q r : Nat), x9.toInt = (m : Int) - 1 → m ≤ 64 → x5.toBitVec.toNat = r → x7.toBitVec.toNat = q → r < b → a / 2 ^ m = b * q + r → w_Exact_divided_L10 Qr (m + 1) x y u x5 x7 x9 h := by
  intro m
  induction m with
  | zero =>
    intro x5 x7 x9 q r h1 h2 h3 h4 h5 h6
    rw [Nat.pow_zero, Nat.div_one] at h6
    unfold w_Exact_divided_L10 w_Exact_divided_L94
    refine ⟨fun _ => ⟨fun c => hQ _ ?_, fun c => hQ _ ?_⟩, fun e => ?_⟩
    · rw [if_pos c, h4, h6, Nat.mul_add_div hb, Nat.div_eq_of_lt h5, Nat.add_zero]
    · rw [if_neg c, h3, h6, Nat.mul_add_mod, Nat.mod_eq_of_lt h5]
    · rw [z_lt, h1, show (0 : Int32).toInt = 0 from rfl] at e
      exact absurd (by decide) e
  | succ m ih =>
    intro x5 x7 x9 q r h1 h2 h3 h4 h5 h6
    have h9 : x9.toInt = m := dl_b h1
    have hm : m ≤ 64 := Nat.le_of_succ_le h2
    have bt := Z_bit hx h9 h2
    have dc := dd_core hb h6 h5
    have hd := dl_9 h9 hm
    have lq : a / 2 ^ m < 18446744073709551616 := Nat.lt_of_le_of_lt (Nat.div_le_self _ _) la
    have hB2 : a / 2 ^ m % 2 < 2 := Nat.mod_lt _ (by decide)
    have ih' : ∀ (x5 x7 : Int64) (q r : Nat), x5.toBitVec.toNat = r → x7.toBitVec.toNat = q → r < b → a / 2 ^ m = b * q + r → w_Exact_divided_L10 Qr (m + 1) x y u x5 x7 (x9 + -1) h := fun x5 x7 q r g1 g2 g3 g4 => ih x5 x7 _ q r hd hm g1 g2 g3 g4
    clear ih h6 h1 h2 hm hd
    generalize a / 2 ^ m = A at *
    generalize A % 2 = B at *
    have K0 : ∀ v1 v2 : Int64, v1.toBitVec.toNat = 2 * r + B → v2.toBitVec.toNat = 2 * q → 2 * r + B < b → w_Exact_divided_L76 (w_Exact_divided_L10 Qr (m + 1)) Qr x y u v1 v2 x9 h := fun v1 v2 g1 g2 g3 => by
      unfold w_Exact_divided_L76
      exact ih' v1 v2 (2 * q) (2 * r + B) g1 g2 g3 dc
    have K1 : ∀ v1 v2 : Int64, v1.toBitVec.toNat = (2 * r + B) % 18446744073709551616 → v2.toBitVec.toNat = 2 * q → b ≤ 2 * r + B → w_Exact_divided_L64 (w_Exact_divided_L10 Qr (m + 1)) Qr x y u v1 v2 x9 h := fun v1 v2 g1 g2 g3 => by
      unfold w_Exact_divided_L64 w_Exact_divided_L76
      intro w1 f1 w2 f2
      have d3 := dl_3 hb dc g3
      refine ih' w1 w2 (2 * q + 1) (2 * r + B - b) ?_ ?_ (dl_1 h5 hB2 g3) d3
      · rw [f1, Z_subG, g1, hy]
        exact dl_2 h5 lb hB2 g3
      · rw [f2, Z_addN, g2, show (1 : Int64).toBitVec.toNat = 1 from rfl]
        exact Nat.mod_eq_of_lt (dl_4 hb d3 lq)
    have n1 : ∀ v1 : Int64, v1 = 2 * x5 + (xb_lshr x x9 &&& 1) → v1.toBitVec.toNat = (2 * r + B) % 18446744073709551616 := fun v1 e => by
      rw [e, Z_addN, Z_mulN, h3, bt, show (2 : Int64).toBitVec.toNat = 2 from rfl]
      exact dl_5 hB2
    have n2 : ∀ v2 : Int64, v2 = xb_lshl x7 1 → v2.toBitVec.toNat = 2 * q := fun v2 e => by
      rw [e, Z_shl (k := 1) rfl (by decide), h4, Nat.pow_one, Nat.mul_comm q 2]
      exact Nat.mod_eq_of_lt (dl_4 hb dc lq)
    unfold w_Exact_divided_L10 w_Exact_divided_L27
    rw [dl_6 h3]
    refine ⟨fun e => absurd e (dl_a h9), fun _ => ⟨fun s v1 e1 v2 e2 => ⟨fun g => absurd rfl g, fun _ => ?_⟩, fun s v1 e1 v2 e2 => ⟨fun _ => K1 v1 v2 (n1 v1 e1) (n2 v2 e2) (dl_7 s lb), fun g => absurd g (by decide)⟩⟩⟩
    have n3 : v1.toBitVec.toNat = 2 * r + B := by
      rw [n1 v1 e1]
      exact Nat.mod_eq_of_lt (dl_8 s hB2)
    refine xr_below n3 hy (fun r5 g1 g2 _ => ⟨fun g => K0 v1 v2 n3 (n2 v2 e2) ?_, fun g => K1 v1 v2 (n1 v1 e1) (n2 v2 e2) ?_⟩)
    · rw [z_b01 g1 g2] at g
      exact Classical.not_not.mp g
    · rw [z_b01 g1 g2] at g
      exact Nat.not_lt.mp g
theorem xr_divided (hx : x.toBitVec.toNat = a) (hy : y.toBitVec.toNat = b) (hb : 0 < b) (hQ : ∀ r : Int64, r.toBitVec.toNat = (if u = 0 then a / b else a % b) → Qr r h) : w_Exact_divided x y u h Qr := by
  have la : a < 18446744073709551616 := by rw [← hx]; exact x.toBitVec.isLt
  have lb : b < 18446744073709551616 := by rw [← hy]; exact y.toBitVec.isLt
  unfold w_Exact_divided
  refine ⟨65, xr_divL hx hy hb hQ la lb 64 0 0 63 0 0 rfl (Nat.le_refl _) rfl rfl hb ?_⟩
  rw [Nat.mul_zero, Nat.add_zero]
  exact Nat.div_eq_of_lt la
end XID
end XI1

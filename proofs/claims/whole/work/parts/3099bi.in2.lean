-- equality, whole numbers: the class counts bits
theorem pb2_lt : ∀ c, c < 256 → pb2 c < 256 := by decide +kernel
theorem pcb_by (n x : Nat) : pcb (8 * (n + 1)) x = pcb 8 (x % 256) + pcb (8 * n) (x / 256) := by
  rw [show 8 * (n + 1) = 8 * n + 8 by omega, pcb_add 8 (8 * n) x, ← pcb_mod 8 x]
theorem by_all (n x : Nat) : byF pb3 n (byF pb2 n (byF pb1 n x)) = byF (fun c => pb3 (pb2 (pb1 c))) n x := by
  rw [byF_c pb2 pb1 (fun c hc => (pb3_ok c hc).2.2.1) n x, byF_c pb3 (fun c => pb2 (pb1 c)) (fun c hc => (pb3_ok c hc).2.2.2.1) n x]
theorem dv_e {B Z w v : Nat} (hw : w < B) (h : v = B * Z + w) : v / B = Z := by
  rw [h, Nat.mul_add_div (by omega), Nat.div_eq_of_lt hw, Nat.add_zero]
theorem mo_e {R S v : Nat} (h : v = 256 * R + S) (hS : S ≤ 64) : v % 128 = S := by omega
theorem mo_f {R S v : Nat} (h : v = 256 * R + S) (hS : S ≤ 32) : v % 64 = S := by omega
theorem bc_4 {g0 g1 g2 g3 v v4 v5 : Nat} (h0 : g0 ≤ 8) (h1 : g1 ≤ 8) (h2 : g2 ≤ 8) (h3 : g3 ≤ 8) (hv : v = 256 * (256 * (256 * (256 * 0 + g3) + g2) + g1) + g0) (h4 : v4 = (v + v / 256) % 4294967296) (h5 : v5 = (v4 + v4 / 65536) % 4294967296) : v5 % 64 = g0 + g1 + g2 + g3 := by
  rw [dv_e (by omega) hv, Nat.mod_eq_of_lt (by omega)] at h4
  have k4 : v4 = 65536 * (256 * g3 + (g2 + g3)) + (256 * (g1 + g2) + (g0 + g1)) := by omega
  rw [dv_e (by omega) k4, Nat.mod_eq_of_lt (by omega)] at h5
  exact mo_f (R := 65536 * g3 + 256 * (g2 + g3) + (g1 + g2 + g3)) (by omega) (by omega)
theorem bc_8 {g0 g1 g2 g3 g4 g5 g6 g7 v v4 v5 v6 : Nat} (h0 : g0 ≤ 8) (h1 : g1 ≤ 8) (h2 : g2 ≤ 8) (h3 : g3 ≤ 8) (k0 : g4 ≤ 8) (k1 : g5 ≤ 8) (k2 : g6 ≤ 8) (k3 : g7 ≤ 8)
    (hv : v = 256 * (256 * (256 * (256 * (256 * (256 * (256 * (256 * 0 + g7) + g6) + g5) + g4) + g3) + g2) + g1) + g0) (h4 : v4 = (v + v / 256) % 18446744073709551616) (h5 : v5 = (v4 + v4 / 65536) % 18446744073709551616) (h6 : v6 = (v5 + v5 / 4294967296) % 18446744073709551616) : v6 % 128 = g0 + g1 + g2 + g3 + g4 + g5 + g6 + g7 := by
  rw [dv_e (by omega) hv, Nat.mod_eq_of_lt (by omega)] at h4
  have k4 : v4 = 65536 * (256 * (256 * (256 * (256 * (256 * g7 + (g6 + g7)) + (g5 + g6)) + (g4 + g5)) + (g3 + g4)) + (g2 + g3)) + (256 * (g1 + g2) + (g0 + g1)) := by omega
  clear hv h4
  rw [dv_e (by omega) k4, Nat.mod_eq_of_lt (by omega)] at h5
  have k5 : v5 = 4294967296 * (256 * (256 * (256 * g7 + (g6 + g7)) + (g5 + g6 + g7)) + (g4 + g5 + g6 + g7)) + (256 * (256 * (256 * (g3 + g4 + g5 + g6) + (g2 + g3 + g4 + g5)) + (g1 + g2 + g3 + g4)) + (g0 + g1 + g2 + g3)) := by omega
  clear k4 h5
  rw [dv_e (by omega) k5, Nat.mod_eq_of_lt (by omega)] at h6
  exact mo_e (R := 16777216 * (256 * (256 * (256 * g7 + (g6 + g7)) + (g5 + g6 + g7)) + (g4 + g5 + g6 + g7)) + (256 * (256 * (g3 + g4 + g5 + g6) + (g2 + g3 + g4 + g5)) + (g1 + g2 + g3 + g4)) + (256 * (256 * g7 + (g6 + g7)) + (g5 + g6 + g7))) (by omega) (by omega)
section INT2
variable {h : xb_H}
theorem ex_ibc {x : Int32} {a : Nat} {Qr : Int32 → xb_H → Prop} (hx : x.toBitVec.toNat = a) (hQ : ∀ r : Int32, r.toInt = pcb 32 a → Qr r h) : w_Integer_bitCount x h Qr := by
  have la : a < 256 ^ 4 := by rw [← hx]; exact x.toBitVec.isLt
  unfold w_Integer_bitCount
  intro v1 e1 v2 e2 v3 e3 v4 e4 v5 e5
  refine hQ _ ?_
  obtain ⟨b1, b2⟩ := by1 4 a la
  have n1 : v1.toBitVec.toNat = byF pb1 4 a := by
    rw [e1, z_sub32, z_and32, z_ushr32 (k := 1) rfl, hx, Nat.pow_one, ← b2]
    have : (1431655765 : Int32).toBitVec.toNat = byM 85 4 := rfl
    rw [this]
    generalize (a / 2 &&& byM 85 4) = m at *
    have : (256 : Nat) ^ 4 = 4294967296 := by decide
    omega
  have l2 := byF_lt pb2_lt 4 (byF pb1 4 a)
  have n2 : v2.toBitVec.toNat = byF pb2 4 (byF pb1 4 a) := by
    rw [e2, z_add32, z_and32, z_and32, z_ushr32 (k := 2) rfl, n1, ← by2 4, show (858993459 : Int32).toBitVec.toNat = byM 51 4 from rfl]
    refine Nat.mod_eq_of_lt ?_
    rw [← by2 4] at l2
    exact l2
  have sm : smB (byF pb2 4 (byF pb1 4 a)) 4 := by
    rw [byF_c pb2 pb1 (fun c hc => (pb3_ok c hc).2.2.1) 4 a]
    exact smB_2 4 a
  obtain ⟨c1, c2⟩ := by3 4 _ sm
  have n3 : v3.toBitVec.toNat = byF (fun c => pb3 (pb2 (pb1 c))) 4 a := by
    rw [e3, z_and32, z_add32, z_ushr32 (k := 4) rfl, n2, ← by_all, ← c1, show (252645135 : Int32).toBitVec.toNat = byM 15 4 from rfl, Nat.mod_eq_of_lt c2]
  have n4 : v4.toBitVec.toNat = (v3.toBitVec.toNat + v3.toBitVec.toNat / 256) % 4294967296 := by rw [e4, z_add32, z_ushr32 (k := 8) rfl]
  have n5 : v5.toBitVec.toNat = (v4.toBitVec.toNat + v4.toBitVec.toNat / 65536) % 4294967296 := by rw [e5, z_add32, z_ushr32 (k := 16) rfl]
  have q : ∀ c : Nat, pb3 (pb2 (pb1 (c % 256))) = pcb 8 (c % 256) ∧ pb3 (pb2 (pb1 (c % 256))) ≤ 8 := fun c => (pb3_ok (c % 256) (Nat.mod_lt _ (by decide))).2.2.2.2
  have s := bc_4 (q a).2 (q (a / 256)).2 (q (a / 256 / 256)).2 (q (a / 256 / 256 / 256)).2 n3 n4 n5
  have t : pcb 32 a = pcb 8 (a % 256) + pcb 8 (a / 256 % 256) + pcb 8 (a / 256 / 256 % 256) + pcb 8 (a / 256 / 256 / 256 % 256) := by
    rw [show (32 : Nat) = 8 * (3 + 1) from rfl, pcb_by, pcb_by, pcb_by, pcb_by]
    show _ + (_ + (_ + (_ + 0))) = _
    omega
  rw [(q a).1, (q _).1, (q _).1, (q _).1, ← t] at s
  rw [z_63]
  have := z_nat v5
  omega
theorem ex_lbc {x : Int64} {a : Nat} {Qr : Int32 → xb_H → Prop} (hx : x.toBitVec.toNat = a) (hQ : ∀ r : Int32, r.toInt = pcb 64 a → Qr r h) : w_Long_bitCount x h Qr := by
  have la : a < 256 ^ 8 := by rw [← hx]; exact x.toBitVec.isLt
  unfold w_Long_bitCount
  intro v1 e1 v2 e2 v3 e3 v4 e4 v5 e5 v6 e6
  refine hQ _ ?_
  obtain ⟨b1, b2⟩ := by1 8 a la
  have n1 : v1.toBitVec.toNat = byF pb1 8 a := by
    rw [e1, Z_subG, Z_and, Z_ushr (k := 1) rfl (by decide), hx, Nat.pow_one, ← b2]
    have : (6148914691236517205 : Int64).toBitVec.toNat = byM 85 8 := rfl
    rw [this]
    generalize (a / 2 &&& byM 85 8) = m at *
    have : (256 : Nat) ^ 8 = 18446744073709551616 := by decide
    omega
  have l2 := byF_lt pb2_lt 8 (byF pb1 8 a)
  have n2 : v2.toBitVec.toNat = byF pb2 8 (byF pb1 8 a) := by
    rw [e2, Z_addN, Z_and, Z_and, Z_ushr (k := 2) rfl (by decide), n1, ← by2 8, show (3689348814741910323 : Int64).toBitVec.toNat = byM 51 8 from rfl]
    refine Nat.mod_eq_of_lt ?_
    rw [← by2 8] at l2
    exact l2
  have sm : smB (byF pb2 8 (byF pb1 8 a)) 8 := by
    rw [byF_c pb2 pb1 (fun c hc => (pb3_ok c hc).2.2.1) 8 a]
    exact smB_2 8 a
  obtain ⟨c1, c2⟩ := by3 8 _ sm
  have n3 : v3.toBitVec.toNat = byF (fun c => pb3 (pb2 (pb1 c))) 8 a := by
    rw [e3, Z_and, Z_addN, Z_ushr (k := 4) rfl (by decide), n2, ← by_all, ← c1, show (1085102592571150095 : Int64).toBitVec.toNat = byM 15 8 from rfl, Nat.mod_eq_of_lt c2]
  have n4 : v4.toBitVec.toNat = (v3.toBitVec.toNat + v3.toBitVec.toNat / 256) % 18446744073709551616 := by rw [e4, Z_addN, Z_ushr (k := 8) rfl (by decide)]
  have n5 : v5.toBitVec.toNat = (v4.toBitVec.toNat + v4.toBitVec.toNat / 65536) % 18446744073709551616 := by rw [e5, Z_addN, Z_ushr (k := 16) rfl (by decide)]
  have n6 : v6.toBitVec.toNat = (v5.toBitVec.toNat + v5.toBitVec.toNat / 4294967296) % 18446744073709551616 := by rw [e6, Z_addN, Z_ushr (k := 32) rfl (by decide)]
  have q : ∀ c : Nat, pb3 (pb2 (pb1 (c % 256))) = pcb 8 (c % 256) ∧ pb3 (pb2 (pb1 (c % 256))) ≤ 8 := fun c => (pb3_ok (c % 256) (Nat.mod_lt _ (by decide))).2.2.2.2
  have s := bc_8 (q a).2 (q (a / 256)).2 (q (a / 256 / 256)).2 (q (a / 256 / 256 / 256)).2 (q (a / 256 / 256 / 256 / 256)).2 (q (a / 256 / 256 / 256 / 256 / 256)).2 (q (a / 256 / 256 / 256 / 256 / 256 / 256)).2 (q (a / 256 / 256 / 256 / 256 / 256 / 256 / 256)).2 n3 n4 n5 n6
  have t : pcb 64 a = pcb 8 (a % 256) + pcb 8 (a / 256 % 256) + pcb 8 (a / 256 / 256 % 256) + pcb 8 (a / 256 / 256 / 256 % 256) + pcb 8 (a / 256 / 256 / 256 / 256 % 256) + pcb 8 (a / 256 / 256 / 256 / 256 / 256 % 256) + pcb 8 (a / 256 / 256 / 256 / 256 / 256 / 256 % 256) + pcb 8 (a / 256 / 256 / 256 / 256 / 256 / 256 / 256 % 256) := by
    rw [show (64 : Nat) = 8 * (7 + 1) from rfl, pcb_by, pcb_by, pcb_by, pcb_by, pcb_by, pcb_by, pcb_by, pcb_by]
    show _ + (_ + (_ + (_ + (_ + (_ + (_ + (_ + 0))))))) = _
    omega
  rw [(q a).1, (q _).1, (q _).1, (q _).1, (q _).1, (q _).1, (q _).1, (q _).1, ← t] at s
  rw [z_127]
  have d1 := z_of64 v6
  have d2 := Z_nat v6
  omega
theorem za_0 {Qr : Int32 → xb_H → Prop} (hQ : Qr 64 h) : w_Whole_zerosAbove 0 h Qr := by
  have s0 : ∀ (x2 : Int64) (x4 : Int32), (0 : Int) ≤ x4.toInt → 0 ≤ x4.toInt → x4.toInt ≤ (63 : Nat) → w_Whole_zerosAbove_L9 Qr 1 0 x2 x4 0 h := by
    intro x2 x4 h1 h10 h2
    unfold w_Whole_zerosAbove_L9 w_Whole_zerosAbove_L60
    exact ⟨fun _ => ⟨fun h9 => absurd rfl h9, fun _ => hQ⟩, fun e => absurd (show (0 : Int32) ≤ 0 by decide) e⟩
  have s6 : ∀ (x2 : Int64) (x4 : Int32), (0 : Int) ≤ x4.toInt → 0 ≤ x4.toInt → x4.toInt ≤ (32 : Nat) → w_Whole_zerosAbove_L9 Qr 6 0 x2 x4 16 h :=
    za_step (c := 16) (b := 32) (x5' := 8) (by decide) (by decide) rfl (by omega) 0 (za_step (c := 8) (b := 48) (x5' := 4) (by decide) (by decide) rfl (by omega) 0 (za_step (c := 4) (b := 56) (x5' := 2) (by decide) (by decide) rfl (by omega) 0 (za_step (c := 2) (b := 60) (x5' := 1) (by decide) (by decide) rfl (by omega) 0 (za_step (c := 1) (b := 62) (x5' := 0) (by decide) (by decide) rfl (by omega) 0 s0))))
  unfold w_Whole_zerosAbove
  refine ⟨7, ?_⟩
  unfold w_Whole_zerosAbove_L9 w_Whole_zerosAbove_L38
  refine ⟨fun e => absurd e (by decide), fun _ => ⟨fun e v1 e1 => ?_, fun e v4 e4 v5 e5 v1 e1 => ?_⟩⟩
  · rw [e1]
    exact s6 0 0 (by decide) (by decide) (by decide)
  · rw [e1, e5]
    exact s6 v4 (0 + 32) (by decide) (by decide) (by decide)
theorem ex_za {x : Int64} {n : Nat} {Qr : Int32 → xb_H → Prop} (hx : x.toBitVec.toNat = n) (hQ : ∀ r : Int32, r.toInt = clb 64 n → Qr r h) : w_Whole_zerosAbove x h Qr := by
  rcases Nat.eq_zero_or_pos n with h0 | h0
  · have : x = 0 := Z_eqN.mpr (by rw [hx, h0]; rfl)
    rw [this]
    refine za_0 (hQ _ ?_)
    rw [h0]
    rfl
  · refine ex_zerosAbove hx h0 (fun r k e1 e2 e3 e4 => hQ r ?_)
    have lg : n.log2 = 63 - k := by
      have c1 : (9223372036854775808 : Nat) = 2 ^ (63 - k) * 2 ^ k := by rw [← Nat.pow_add, Nat.sub_add_cancel e2]
      have c2 : (18446744073709551616 : Nat) = 2 ^ (63 - k + 1) * 2 ^ k := by rw [← Nat.pow_add, show 63 - k + 1 + k = 64 by omega]
      have hp : 0 < 2 ^ k := Nat.pow_pos (by omega)
      exact log2_of (Nat.le_of_mul_le_mul_right (by rw [← c1]; exact e3) hp) (Nat.lt_of_mul_lt_mul_right (by rw [← c2]; exact e4))
    unfold clb
    rw [if_neg (by omega), lg, e1]
    omega
end INT2
theorem xor_pc {a m r s : Nat} (hr : r < 2) (hs : s < 2) : (2 * a + r) ^^^ (2 * m + s) = 2 * (a ^^^ m) + (r ^^^ s) := by
  have e1 : ((2 * a + r) ^^^ (2 * m + s)) / 2 ^ 1 = a ^^^ m := by
    rw [Nat.xor_div_two_pow, Nat.pow_one, show (2 * a + r) / 2 = a by omega, show (2 * m + s) / 2 = m by omega]
  have e2 : ((2 * a + r) ^^^ (2 * m + s)) % 2 ^ 1 = r ^^^ s := by
    rw [Nat.xor_mod_two_pow, Nat.pow_one, show (2 * a + r) % 2 = r by omega, show (2 * m + s) % 2 = s by omega]
  rw [Nat.pow_one] at e1 e2
  omega
theorem ct_z : ∀ (n y : Nat), y < 2 ^ n → (y ^^^ (2 ^ n - 1)) &&& y = 0
  | 0, y, h => by
    have : y = 0 := by rw [Nat.pow_zero] at h; omega
    rw [this]
    rfl
  | n + 1, y, h => by
    have hp : 0 < 2 ^ n := Nat.pow_pos (by decide)
    rw [Nat.pow_succ] at h ⊢
    have i := ct_z n (y / 2) (by omega)
    have hm : 2 ^ n * 2 - 1 = 2 * (2 ^ n - 1) + 1 := by omega
    have e := Nat.div_add_mod y 2
    have hr := Nat.mod_lt y (show 0 < 2 by decide)
    rw [hm, show y = 2 * (y / 2) + y % 2 by omega, xor_pc hr (by decide), and_pc (k := 1) rfl (by rcases (show y % 2 = 0 ∨ y % 2 = 1 by omega) with h9 | h9 <;> rw [h9] <;> decide) hr, i]
    rcases (show y % 2 = 0 ∨ y % 2 = 1 by omega) with h9 | h9 <;> rw [h9] <;> rfl
theorem pcb_0 : ∀ n : Nat, pcb n 0 = 0
  | 0 => rfl
  | n + 1 => by
    show 0 % 2 + pcb n (0 / 2) = 0
    rw [Nat.zero_mod, Nat.zero_div, pcb_0 n]
theorem ct_p : ∀ (n a : Nat), a < 2 ^ n → pcb n ((a ^^^ (2 ^ n - 1)) &&& ((2 ^ n - 1 + a) % 2 ^ n)) = ctb n a
  | 0, a, h => rfl
  | n + 1, a, h => by
    have hp : 0 < 2 ^ n := Nat.pow_pos (by decide)
    rw [Nat.pow_succ] at h ⊢
    have hm : 2 ^ n * 2 - 1 = 2 * (2 ^ n - 1) + 1 := by omega
    have e := Nat.div_add_mod a 2
    have hy : a / 2 < 2 ^ n := by omega
    rcases (show a % 2 = 1 ∨ a % 2 = 0 by omega) with h9 | h9
    · have e2 : (2 ^ n * 2 - 1 + a) % (2 ^ n * 2) = 2 * (a / 2) + 0 := by
        rw [show 2 ^ n * 2 - 1 + a = 2 ^ n * 2 + (a - 1) by omega, Nat.add_mod_left, Nat.mod_eq_of_lt (by omega)]
        omega
      have e3 : a ^^^ (2 ^ n * 2 - 1) = 2 * (a / 2 ^^^ (2 ^ n - 1)) + 0 := by
        rw [hm, show a = 2 * (a / 2) + 1 by omega, xor_pc (by decide) (by decide), show (2 * (a / 2) + 1) / 2 = a / 2 by omega]
        rfl
      rw [e2, e3, and_pc (k := 1) rfl (by decide) (by decide), ct_z n _ hy]
      show pcb (n + 1) (2 * 0 + (0 &&& 0)) = if a % 2 = 1 then 0 else _
      rw [if_pos h9]
      exact pcb_0 (n + 1)
    · have e2 : (2 ^ n * 2 - 1 + a) % (2 ^ n * 2) = 2 * ((2 ^ n - 1 + a / 2) % 2 ^ n) + 1 := by
        rw [show 2 ^ n * 2 - 1 + a = 2 * (2 ^ n - 1 + a / 2) + 1 by omega, Nat.mul_comm (2 ^ n) 2]
        generalize 2 ^ n - 1 + a / 2 = z
        generalize 2 ^ n = P at *
        have g1 := Nat.mul_mod_mul_left 2 z P
        rw [Nat.add_mod, g1, Nat.mod_eq_of_lt (show 1 < 2 * P by omega)]
        have := Nat.mod_lt z hp
        rw [Nat.mod_eq_of_lt (by omega)]
      have e3 : a ^^^ (2 ^ n * 2 - 1) = 2 * (a / 2 ^^^ (2 ^ n - 1)) + 1 := by
        rw [hm, show a = 2 * (a / 2) + 0 by omega, xor_pc (by decide) (by decide), show (2 * (a / 2) + 0) / 2 = a / 2 by omega]
        rfl
      rw [e2, e3, and_pc (k := 1) rfl (by decide) (by decide)]
      have i := ct_p n (a / 2) hy
      show (2 * _ + (1 &&& 1)) % 2 + pcb n ((2 * _ + (1 &&& 1)) / 2) = if a % 2 = 1 then 0 else 1 + ctb n (a / 2)
      rw [show (1 &&& 1) = 1 from rfl, show ∀ q : Nat, (2 * q + 1) / 2 = q from fun q => by omega, show ∀ q : Nat, (2 * q + 1) % 2 = 1 from fun q => by omega, i, if_neg (by omega)]

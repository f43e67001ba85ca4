-- equality, floating point: the reference rounds (its method)
section XF3
variable {ex rw_ p b a : Nat} {f : Nat → Nat} {h : xb_H} {τ : Int} {x : Int64}
theorem or_ad {A B k : Nat} (hB : B < 2 ^ k) : A * 2 ^ k ||| B = A * 2 ^ k + B := by
  rw [Nat.mul_comm]
  exact (Nat.two_pow_add_eq_or_of_lt hB A).symm
theorem xr_rdL200 {s x9 : Int32} {x5 : Int64} {K : Nat} {e : Int} {Qr : Int64 → xb_H → Prop} (k1 : xb_k h ex = 10) (hm : eP ex τ h) (hb : fpb τ p b) (hK : x5.toBitVec.toNat = K) (lK : K < 2 ^ p) (he : x9.toInt = e) (e0 : 0 ≤ e) (e1 : e ≤ 10000) (hQ : ∀ r : Int64, r.toBitVec.toNat = (if s = 0 then 0 else fS p b) ||| rdR p b K e → Qr r h) : w_Exact_rounded_L200 Qr ex s x5 x9 h := by
  have hp : (p = 24 ∧ b = 127) ∨ (p = 53 ∧ b = 1023) := by unfold fpb at hb; omega
  obtain ⟨n6, n7, -⟩ := hm.n hb
  have g1 : 2 ^ p ≤ 2 ^ 53 := Nat.pow_le_pow_right (by decide) (by omega)
  have lK2 : K < 9223372036854775808 := Nat.lt_of_lt_of_le lK (Nat.le_trans g1 (by decide))
  have s6 : (xb_lshr x5 (xb_i h ex 6)) = 0 ↔ K / 2 ^ (p - 1) = 0 := by
    rw [Z_eq, Z_sar n6 (by omega), Z_nn hK lK2, ← Int.natCast_ediv, show (0 : Int64).toInt = 0 from rfl]
    omega
  have p1 : (x9 + 1).toInt = e + 1 := by
    rw [z_add, he, show (1 : Int32).toInt = 1 from rfl]
    omega
  have p7 : (2 * xb_i h ex 7).toInt = 2 * b := by
    rw [z_mul, n7, show (2 : Int32).toInt = 2 from rfl]
    omega
  unfold w_Exact_rounded_L200 w_Exact_rounded_L268
  rw [s6, z_le, p1, p7]
  refine ⟨k1, fun c0 => ⟨fun c1 => xr_esigned k1 hm hb (n := rdR p b K e) ?_ (fun r hr _ => hQ r hr), fun c1 => xr_einfinite k1 hm hb (fun r hr _ => hQ r ?_)⟩, fun c0 => xr_esigned k1 hm hb (n := rdR p b K e) ?_ (fun r hr _ => hQ r hr)⟩
  · have hk : 0 < 2 ^ (p - 1) := Nat.pow_pos (by decide)
    have m1 : (xb_lshl 1 (xb_i h ex 6)).toBitVec.toNat = 2 ^ (p - 1) := by
      rw [Z_shl n6 (by omega), show (1 : Int64).toBitVec.toNat = 1 from rfl, Nat.one_mul]
      refine Nat.mod_eq_of_lt (Nat.lt_of_le_of_lt (Nat.pow_le_pow_right (by decide) (show p - 1 ≤ 52 by omega)) (by decide))
    have m2 : (x5 &&& (xb_lshl 1 (xb_i h ex 6) - 1)).toBitVec.toNat = K % 2 ^ (p - 1) := by
      rw [Z_and_mod _ (p - 1) (by rw [Z_subN _ _ (by rw [m1]; exact hk), m1]; rfl), hK]
    have m3 : (xb_lshl (Int32.toInt64 (x9 + 1)) (xb_i h ex 6)).toBitVec.toNat = (e + 1).toNat * 2 ^ (p - 1) := by
      rw [Z_shl n6 (by omega), Z_of32N (n := (e + 1).toNat) (by rw [p1]; omega)]
      refine Nat.mod_eq_of_lt ?_
      have h1 : (e + 1).toNat < 2048 := by omega
      have h2 : 2 ^ (p - 1) ≤ 2 ^ 52 := Nat.pow_le_pow_right (by decide) (by omega)
      exact Nat.lt_of_lt_of_le (Nat.mul_lt_mul_of_pos_right h1 hk) (Nat.le_trans (Nat.mul_le_mul_left 2048 h2) (by decide))
    unfold rdR
    rw [if_neg c0, if_pos c1, Z_or, m3, m2]
    exact or_ad (Nat.mod_lt _ hk)
  · unfold rdR at *
    rw [if_neg c0, if_neg c1]
    exact hr
  · unfold rdR
    rw [if_pos c0]
    exact hK
theorem xr_rdL169 {s x3 x4 : Int32} {y0 : Int64} {V ρ cut M : Nat} {Qr : Int64 → xb_H → Prop} (k1 : xb_k h ex = 10) (hm : eP ex τ h) (hb : fpb τ p b) (hV : 0 < V) (hρ : ρ ≤ 1) (hc : (V.log2 ≤ 2201 - b ∧ cut = 2202 - b - p) ∨ (2201 - b < V.log2 ∧ cut = V.log2 - (p - 1))) (ht : V.log2 < 4400) (hM : M = rnk (2 * V + ρ) (cut + 1)) (hM1 : V / 2 ^ cut ≤ M) (hM2 : M ≤ V / 2 ^ cut + 1) (h3 : x3.toInt = (2202 - b - p : Nat)) (h4 : x4.toInt = cut) (hy : y0.toBitVec.toNat = M) (hQ : ∀ r : Int64, r.toBitVec.toNat = (if s = 0 then 0 else fS p b) ||| rnF p b (2 * V + ρ) (-2201) → Qr r h) : w_Exact_rounded_L169 Qr ex s x3 x4 y0 h := by
  have hp : (p = 24 ∧ b = 127) ∨ (p = 53 ∧ b = 1023) := by unfold fpb at hb; omega
  obtain ⟨n6, n7, -⟩ := hm.n hb
  obtain ⟨r1, r2⟩ := rd_fin hb hV hρ hc hM hM1 hM2
  have g1 : 2 ^ p ≤ 2 ^ 53 := Nat.pow_le_pow_right (by decide) (by omega)
  have lM : M < 18014398509481984 := by
    by_cases h9 : M / 2 ^ (p - 1) = 2
    · have := (r2 h9).1
      have g2 : M / 2 < 9007199254740992 := Nat.lt_of_lt_of_le this g1
      omega
    · have g2 : M < 9007199254740992 := Nat.lt_of_lt_of_le (r1 h9).1 g1
      omega
  have s6 : (xb_lshr y0 (xb_i h ex 6)) = 2 ↔ M / 2 ^ (p - 1) = 2 := by
    rw [Z_eq, Z_sar n6 (by omega), Z_nn hy (by omega), ← Int.natCast_ediv, show (2 : Int64).toInt = 2 from rfl]
    omega
  clear hM hM1 hM2
  have c3 : 2202 - b - p ≤ cut := by omega
  have c4 : cut ≤ 4400 := by omega
  unfold w_Exact_rounded_L169
  rw [s6]
  intro v1 e1
  have n1 : v1.toInt = (cut : Int) - (2202 - b - p : Nat) := by
    rw [e1, z_sub, h3, h4]
    omega
  refine ⟨k1, fun e => ?_, fun e v4 e4 => ?_⟩
  · obtain ⟨q1, q2⟩ := r1 e
    exact xr_rdL200 k1 hm hb hy q1 n1 (by omega) (by omega) (fun r hr => hQ r (by rw [hr, q2]))
  · obtain ⟨q1, q2⟩ := r2 e
    have m4 : v4.toBitVec.toNat = M / 2 := by
      have c1 := Z_sar (x := y0) (y := 1) (k := 1) rfl (by decide)
      rw [← e4, Z_nn hy (by omega)] at c1
      have c2 := Z_nat v4
      omega
    refine xr_rdL200 k1 hm hb m4 q1 (e := (cut : Int) - (2202 - b - p : Nat) + 1) ?_ (by omega) (by omega) (fun r hr => hQ r (by rw [hr, q2]))
    rw [z_add, n1, show (1 : Int32).toInt = 1 from rfl]
    omega
theorem xr_rounded {s : Int32} {ρ : Nat} {Qr : Int64 → xb_H → Prop} (hk : eK ex rw_ f h) (hm : eP ex τ h) (hb : fpb τ p b) (hV : 0 < eU f 0 4400) (hρ : (xb_i h ex 4).toInt = ρ) (hQ : ∀ r : Int64, r.toBitVec.toNat = (if s = 0 then 0 else fS p b) ||| rnF p b (2 * eU f 0 4400 + ρ) (-2201) → Qr r h) : w_Exact_rounded ex s h Qr := by
  have hp : (p = 24 ∧ b = 127) ∨ (p = 53 ∧ b = 1023) := by unfold fpb at hb; omega
  obtain ⟨n6, n7, -⟩ := hm.n hb
  obtain ⟨k1, k2, lo, hi, k3, k4, k5, k6, k7, k8⟩ := id hk
  have f1 : ∀ j, f j ≤ 1 := fun j => (k7 j).2
  have hρ1 : ρ ≤ 1 := by
    rcases k2 with h9 | h9
    · rw [h9] at hρ
      have : (0 : Int32).toInt = 0 := rfl
      omega
    · rw [h9] at hρ
      have : (1 : Int32).toInt = 1 := rfl
      omega
  have bt : ∀ k, k < 4400 → eU f 0 4400 / 2 ^ k % 2 = f k := fun k hk => eU_bt f1 hk
  have dm : ∀ k, k ≤ 4400 → eU f 0 4400 % 2 ^ k = eU f 0 k := fun k hk => (eU_dv f1 hk).2
  generalize hVe : eU f 0 4400 = V at *
  obtain ⟨l1, l2⟩ := log2_b hV
  have main : ∀ (x3 x4 : Int32) (cut : Nat), (V.log2 ≤ 2201 - b ∧ cut = 2202 - b - p) ∨ (2201 - b < V.log2 ∧ cut = V.log2 - (p - 1)) → V.log2 < 4400 → x3.toInt = (2202 - b - p : Nat) → x4.toInt = cut → ∀ (m : Nat) (x5 : Int64) (x7 : Int32), (x7.toInt = ((cut + m : Nat) : Int) - 1 ∧ x5.toBitVec.toNat = V / 2 ^ (cut + m) ∧ cut + m ≤ 4400) ∨ (m = 0 ∧ x7.toInt < cut ∧ x5.toBitVec.toNat = V / 2 ^ cut) → w_Exact_rounded_L47 Qr (m + 1) ex s x3 x4 x5 x7 h := by
    intro x3 x4 cut hc ht h3 h4 m
    have c0 : 1 ≤ cut := by omega
    have cl : cut < 4400 := by omega
    obtain ⟨c, rfl⟩ : ∃ c, cut = c + 1 := ⟨cut - 1, by omega⟩
    have x41 : (x4 - 1).toInt = c := by
      rw [z_sub, h4, show (1 : Int32).toInt = 1 from rfl]
      omega
    have xc : (x4 - 1).toNatClampNeg = c := by rw [z_cl, x41]; rfl
    have vb : V / 2 ^ (c + 1) < 2 ^ p := by
      refine (Nat.div_lt_iff_lt_mul (Nat.pow_pos (by decide))).mpr ?_
      rw [← Nat.pow_add]
      exact Nat.lt_of_lt_of_le l2 (Nat.pow_le_pow_right (by decide) (by omega))
    have g1 : 2 ^ p ≤ 2 ^ 53 := Nat.pow_le_pow_right (by decide) (by omega)
    have vb2 : V / 2 ^ (c + 1) < 9007199254740992 := Nat.lt_of_lt_of_le vb g1
    have up := rk_up (V := V) (c := c) hρ1
    rw [bt c (by omega), dm c (by omega)] at up
    have k1' := k1.1
    -- the bits that are kept, rounded
    have fin : ∀ (x5 y : Int64) (u : Nat), x5.toBitVec.toNat = V / 2 ^ (c + 1) → y.toBitVec.toNat = V / 2 ^ (c + 1) + u → u ≤ 1 → (if f c = 1 ∧ ((ρ = 1 ∨ eU f 0 c ≠ 0) ∨ V / 2 ^ (c + 1) % 2 = 1) then 1 else 0) = u → w_Exact_rounded_L169 Qr ex s x3 x4 y h := by
      intro x5 y u g1 g2 g3 g4
      rw [g4] at up
      refine xr_rdL169 k1' hm hb hV hρ1 hc ht up.symm (by omega) (by omega) h3 h4 g2 hQ
    have noup : ∀ x5 : Int64, x5.toBitVec.toNat = V / 2 ^ (c + 1) → ¬ (f c = 1 ∧ ((ρ = 1 ∨ eU f 0 c ≠ 0) ∨ V / 2 ^ (c + 1) % 2 = 1)) → w_Exact_rounded_L153 Qr ex s x3 x4 x5 0 h := by
      intro x5 g1 g2
      unfold w_Exact_rounded_L153
      exact ⟨fun _ => fin x5 x5 0 g1 (g1.trans (Nat.add_zero _).symm) (by omega) (if_neg g2), fun h9 => absurd rfl h9⟩
    have isup : ∀ x5 : Int64, x5.toBitVec.toNat = V / 2 ^ (c + 1) → (f c = 1 ∧ ((ρ = 1 ∨ eU f 0 c ≠ 0) ∨ V / 2 ^ (c + 1) % 2 = 1)) → w_Exact_rounded_L153 Qr ex s x3 x4 x5 1 h := by
      intro x5 g1 g2
      unfold w_Exact_rounded_L153
      refine ⟨fun h9 => absurd h9 (by decide), fun _ => fin x5 (x5 + 1) 1 g1 ?_ (by omega) (if_pos g2)⟩
      rw [Z_addN, g1, show (1 : Int64).toBitVec.toNat = 1 from rfl]
      exact Nat.mod_eq_of_lt (by omega)
    have L120 : ∀ x5 : Int64, x5.toBitVec.toNat = V / 2 ^ (c + 1) → f c = 0 → w_Exact_rounded_L120 Qr ex s x3 x4 x5 h := by
      intro x5 g1 g2
      unfold w_Exact_rounded_L120 w_Exact_rounded_L121 w_Exact_rounded_L152
      exact ⟨fun _ => noup x5 g1 (fun h9 => by omega), fun h9 => absurd rfl h9⟩
    have L121 : ∀ x5 : Int64, x5.toBitVec.toNat = V / 2 ^ (c + 1) → f c = 1 → w_Exact_rounded_L121 Qr ex s x3 x4 x5 1 h := by
      intro x5 g1 g2
      have odd : (x5 &&& 1) = 1 ↔ V / 2 ^ (c + 1) % 2 = 1 := by
        rw [Z_eqN, Z_and, g1, show (1 : Int64).toBitVec.toNat = 1 from rfl, Nat.and_one_is_mod]
      unfold w_Exact_rounded_L121 w_Exact_rounded_L148 w_Exact_rounded_L152
      rw [odd]
      refine ⟨fun h9 => absurd h9 (by decide), fun _ => ⟨k1', xr_eisBelow hk hρ x41 (fun r4 c4 _ => ⟨fun e4 => isup x5 g1 ⟨g2, .inl ?_⟩, fun e4 => ⟨fun e5 => noup x5 g1 (fun h9 => ?_), fun e5 => isup x5 g1 ⟨g2, .inr e5⟩⟩⟩)⟩⟩
      · refine Classical.byContradiction fun h9 => e4 (c4.mpr ⟨?_, ?_⟩)
        · exact Classical.byContradiction fun h8 => h9 (.inl (by omega))
        · exact Classical.byContradiction fun h8 => h9 (.inr h8)
      · obtain ⟨q1, q2⟩ := c4.mp e4
        rcases h9.2 with (h8 | h8) | h8
        · omega
        · exact h8 q2
        · exact e5 h8
    have low : ∀ x5 : Int64, x5.toBitVec.toNat = V / 2 ^ (c + 1) → (x4 ≤ 0 → w_Exact_rounded_L120 Qr ex s x3 x4 x5 h) ∧ (¬ x4 ≤ 0 → xb_k h ex = 10 ∧ (((xb_i h ex 3) < (x4 - 1) → w_Exact_rounded_L120 Qr ex s x3 x4 x5 h) ∧ (¬ (xb_i h ex 3) < (x4 - 1) → (((x4 - 1) < (xb_i h ex 2) → w_Exact_rounded_L120 Qr ex s x3 x4 x5 h) ∧ (¬ (x4 - 1) < (xb_i h ex 2) → ∃ b6 : Nat, (xb_r h ex 1) = some b6 ∧ xb_k h b6 = 100 ∧ vp_in (x4 - 1) (xb_n h b6) ∧ (((xb_i h b6 (Int32.toNatClampNeg (x4 - 1))) = (0 : Int32) → w_Exact_rounded_L120 Qr ex s x3 x4 x5 h) ∧ (¬ (xb_i h b6 (Int32.toNatClampNeg (x4 - 1))) = (0 : Int32) → w_Exact_rounded_L121 Qr ex s x3 x4 x5 1 h))))))) := by
      intro x5 g1
      rw [z_le, h4, z_lt, z_lt, k3, k4, x41]
      refine ⟨fun e => absurd e (by show ¬ ((c + 1 : Nat) : Int) ≤ 0; omega), fun _ => ⟨k1', fun e => L120 x5 g1 (k8 c (.inr (by omega))), fun e => ⟨fun e2 => L120 x5 g1 (k8 c (.inl (by omega))), fun e2 => ⟨rw_, k1.2.1, k1.2.2.1, by rw [z_in, x41, k1.2.2.2]; omega, fun e3 => L120 x5 g1 ?_, fun e3 => L121 x5 g1 ?_⟩⟩⟩⟩
      · rw [xc, z_eq, (k7 c).1, show (0 : Int32).toInt = 0 from rfl] at e3
        omega
      · rw [xc, z_eq, (k7 c).1, show (0 : Int32).toInt = 0 from rfl] at e3
        have := f1 c
        omega
    induction m with
    | zero =>
      intro x5 x7 hx
      unfold w_Exact_rounded_L47
      rcases hx with ⟨e1, e2, e3⟩ | ⟨e0, e1, e2⟩
      · refine ⟨fun _ => low x5 e2, fun e => ?_⟩
        rw [z_lt, h4, e1] at e
        omega
      · refine ⟨fun _ => low x5 e2, fun e => ?_⟩
        rw [z_lt, h4] at e
        omega
    | succ m ih =>
      intro x5 x7 hx
      rcases hx with ⟨e1, e2, e3⟩ | ⟨e0, e1, e2⟩
      · have x7i : x7.toInt = (c + 1 + m : Nat) := by omega
        have x7c : x7.toNatClampNeg = c + 1 + m := by rw [z_cl, x7i]; rfl
        unfold w_Exact_rounded_L47
        rw [z_lt, h4, x7i]
        refine ⟨fun e => absurd e (by omega), fun e => ⟨k1', rw_, k1.2.1, k1.2.2.1, by rw [z_in, x7i, k1.2.2.2]; omega, fun v14 e14 => ih v14 (x7 + -1) (.inl ⟨?_, ?_, by omega⟩)⟩⟩
        · rw [z_add, x7i, show (-1 : Int32).toInt = -1 from rfl]
          omega
        · have b1 := bt (c + 1 + m) (by omega)
          have e4 : V / 2 ^ (c + 1 + m) / 2 = V / 2 ^ (c + 1 + (m + 1)) := by rw [Nat.div_div_eq_div_mul, ← Nat.pow_succ]; rfl
          have e5 : V / 2 ^ (c + 1 + m) ≤ V / 2 ^ (c + 1) := Nat.div_le_div_left (Nat.pow_le_pow_right (by decide) (by omega)) (Nat.pow_pos (by decide))
          rw [e14, Z_addN, Z_mulN, e2, x7c, Z_of32N (n := f (c + 1 + m)) (k7 _).1, show (2 : Int64).toBitVec.toNat = 2 from rfl, ← e4]
          have := f1 (c + 1 + m)
          generalize V / 2 ^ (c + 1 + m) = A at *
          generalize V / 2 ^ (c + 1) = B at *
          omega
      · omega
  unfold w_Exact_rounded w_Exact_rounded_L39
  refine ⟨k1.1, xr_ehighest hk (by rw [hVe]; exact hV) (fun r3 g1 g2 _ v4 e4 => ?_)⟩
  rw [hVe] at g1 g2
  have n4 : v4.toInt = (2202 - b - p : Nat) := by
    rw [e4, z_sub, z_sub, n6, n7, show (2201 : Int32).toInt = 2201 from rfl]
    omega
  have e9 : (r3 - xb_i h ex 6).toInt = (V.log2 : Int) - (p - 1 : Nat) := by
    rw [z_sub, g1, n6]
    omega
  rw [z_le, e9, n4]
  refine ⟨fun e => ?_, fun e => ?_⟩
  · by_cases h9 : V.log2 + 1 < 2202 - b - p
    · refine ⟨0 + 1, main v4 v4 (2202 - b - p) (.inl ⟨by omega, rfl⟩) g2 n4 n4 0 0 r3 (.inr ⟨rfl, by omega, ?_⟩)⟩
      rw [Nat.div_eq_of_lt (Nat.lt_of_lt_of_le l2 (Nat.pow_le_pow_right (by decide) (by omega)))]
      rfl
    · refine ⟨_ + 1, main v4 v4 (2202 - b - p) (.inl ⟨by omega, rfl⟩) g2 n4 n4 (V.log2 + 1 - (2202 - b - p)) 0 r3 (.inl ⟨by omega, ?_, by omega⟩)⟩
      rw [show 2202 - b - p + (V.log2 + 1 - (2202 - b - p)) = V.log2 + 1 by omega, Nat.div_eq_of_lt l2]
      rfl
  · refine ⟨p + 1, main v4 _ (V.log2 - (p - 1)) (.inr ⟨by omega, rfl⟩) g2 n4 (by rw [e9]; omega) p 0 r3 (.inl ⟨by omega, ?_, by omega⟩)⟩
    rw [show V.log2 - (p - 1) + p = V.log2 + 1 by omega, Nat.div_eq_of_lt l2]
    rfl
end XF3

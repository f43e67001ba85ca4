-- equality, whole numbers: the reference's Exact divides with signs, reckons
theorem td_p {x y : Int} (h : x < 0 ↔ y < 0) : Int.tdiv x y = (x.natAbs / y.natAbs : Nat) := by
  rcases Int.lt_or_le x 0 with h1 | h1
  · have h2 := h.mp h1
    obtain ⟨X, hX⟩ := Int.eq_ofNat_of_zero_le (show 0 ≤ -x by omega)
    obtain ⟨Y, hY⟩ := Int.eq_ofNat_of_zero_le (show 0 ≤ -y by omega)
    have ex : x = -(X : Int) := by omega
    have ey : y = -(Y : Int) := by omega
    rw [ex, ey, Int.neg_tdiv, Int.tdiv_neg, Int.neg_neg, Int.natAbs_neg, Int.natAbs_neg]
    exact (Int.ofNat_tdiv X Y).symm
  · have h2 : 0 ≤ y := by omega
    obtain ⟨X, hX⟩ := Int.eq_ofNat_of_zero_le h1
    obtain ⟨Y, hY⟩ := Int.eq_ofNat_of_zero_le h2
    rw [hX, hY]
    exact (Int.ofNat_tdiv X Y).symm
theorem td_n {x y : Int} (h : ¬ (x < 0 ↔ y < 0)) : Int.tdiv x y = -((x.natAbs / y.natAbs : Nat) : Int) := by
  rcases Int.lt_or_le x 0 with h1 | h1
  · have h2 : 0 ≤ y := by omega
    obtain ⟨X, hX⟩ := Int.eq_ofNat_of_zero_le (show 0 ≤ -x by omega)
    obtain ⟨Y, hY⟩ := Int.eq_ofNat_of_zero_le h2
    have ex : x = -(X : Int) := by omega
    rw [ex, hY, Int.neg_tdiv, Int.natAbs_neg]
    exact congrArg _ (Int.ofNat_tdiv X Y).symm
  · obtain ⟨X, hX⟩ := Int.eq_ofNat_of_zero_le h1
    obtain ⟨Y, hY⟩ := Int.eq_ofNat_of_zero_le (show 0 ≤ -y by omega)
    have ey : y = -(Y : Int) := by omega
    rw [hX, ey, Int.tdiv_neg, Int.natAbs_neg]
    exact congrArg _ (Int.ofNat_tdiv X Y).symm
theorem tm_p {x y : Int} (h : ¬ x < 0) : Int.tmod x y = (x.natAbs % y.natAbs : Nat) := by
  obtain ⟨X, hX⟩ := Int.eq_ofNat_of_zero_le (show 0 ≤ x by omega)
  rcases Int.lt_or_le y 0 with h1 | h1
  · obtain ⟨Y, hY⟩ := Int.eq_ofNat_of_zero_le (show 0 ≤ -y by omega)
    have ey : y = -(Y : Int) := by omega
    rw [hX, ey, Int.tmod_neg, Int.natAbs_neg]
    exact (Int.ofNat_tmod X Y).symm
  · obtain ⟨Y, hY⟩ := Int.eq_ofNat_of_zero_le h1
    rw [hX, hY]
    exact (Int.ofNat_tmod X Y).symm
theorem tm_n {x y : Int} (h : x < 0) : Int.tmod x y = -((x.natAbs % y.natAbs : Nat) : Int) := by
  have := tm_p (x := -x) (y := y) (by omega)
  rw [Int.neg_tmod, Int.natAbs_neg] at this
  omega
/-- a number without its sign -/
theorem Z_ab {x : Int64} : (0 ≤ x.toInt → x.toBitVec.toNat = x.toInt.natAbs) ∧ (¬ 0 ≤ x.toInt → (-x).toBitVec.toNat = x.toInt.natAbs) := by
  have c1 := Z_nat x
  have c2 := Z_rg x
  refine ⟨fun _ => by omega, fun _ => ?_⟩
  rw [show -x = 0 - x from (Int64.zero_sub x).symm, Z_subG, show (0 : Int64).toBitVec.toNat = 0 from rfl]
  omega
theorem ng_m {r : Int64} {N w : Nat} (w6 : w = 32 ∨ w = 64) (hr : r.toBitVec.toNat = N) : (-r).toBitVec.toNat % 2 ^ w = ((-(N : Int)) % (2 ^ w : Nat)).toNat := by
  have l := r.toBitVec.isLt
  rw [hr] at l
  rw [show -r = 0 - r from (Int64.zero_sub r).symm, Z_subG, hr, show (0 : Int64).toBitVec.toNat = 0 from rfl]
  rcases w6 with e | e <;> subst e
  · show _ % 4294967296 = (_ % ((4294967296 : Nat) : Int)).toNat
    omega
  · show _ % 18446744073709551616 = (_ % ((18446744073709551616 : Nat) : Int)).toNat
    omega
theorem ps_m {r : Int64} {N w : Nat} (w6 : w = 32 ∨ w = 64) (hr : r.toBitVec.toNat = N) : r.toBitVec.toNat % 2 ^ w = (((N : Int)) % (2 ^ w : Nat)).toNat := by
  rw [hr, ← Int.natCast_emod]
  rfl
theorem sgn_rg {w a : Nat} (w6 : w = 32 ∨ w = 64) (ha : a < 2 ^ w) : (sgn w a).natAbs ≤ 2 ^ (w - 1) ∧ (sgn w a = 0 ↔ a = 0) ∧ ((sgn w a).natAbs = 2 ^ (w - 1) ↔ a = 2 ^ (w - 1)) ∧ (sgn w a < 0 ↔ 2 ^ (w - 1) ≤ a) ∧ (sgn w a = -1 ↔ a = 2 ^ w - 1) := by
  unfold sgn
  rcases w6 with e | e <;> subst e
  · have p1 : (2 : Nat) ^ (32 - 1) = 2147483648 := by decide
    have p2 : (2 : Nat) ^ 32 = 4294967296 := by decide
    rw [p1, p2] at *
    split <;> omega
  · have p1 : (2 : Nat) ^ (64 - 1) = 9223372036854775808 := by decide
    have p2 : (2 : Nat) ^ 64 = 18446744073709551616 := by decide
    rw [p1, p2] at *
    split <;> omega
theorem dq_h {X Y M : Nat} (hX : X ≤ M) (hY : 0 < Y) (hM : 0 < M) : X / Y = M ↔ X = M ∧ Y = 1 := by
  constructor
  · intro e
    have h1 : X / Y * Y ≤ X := Nat.div_mul_le_self X Y
    rw [e] at h1
    have h2 : M * 1 ≤ M * Y := Nat.mul_le_mul_left M hY
    have h3 : X = M := by omega
    refine ⟨h3, ?_⟩
    refine Classical.byContradiction fun h9 => ?_
    have : M * 2 ≤ M * Y := Nat.mul_le_mul_left M (by omega)
    omega
  · rintro ⟨e1, e2⟩
    rw [e1, e2, Nat.div_one]
section XI3
variable {ex rw_ : Nat} {f : Nat → Nat} {h : xb_H}
theorem xr_byDivision {x y : Int64} {u v : Int32} {w k a b : Nat} {Qr : Int64 → xb_H → Prop} (hk1 : xb_k h ex = 10) (hu : u.toInt = k) (k6 : 6 ≤ k) (k9 : k ≤ 9) (hv : v.toInt = w) (w6 : w = 32 ∨ w = 64) (hx : x.toBitVec.toNat = a) (hy : y.toBitVec.toNat = b) (ha : a < 2 ^ w) (hb : b < 2 ^ w)
    (hQ : ∀ r : Int64, itr w (k - 3) a b = 0 → r.toBitVec.toNat % 2 ^ w = iop w (k - 3) a b → Qr r h)
    (hT : ∀ c : Int32, (c.toInt + 1 = itr w (k - 3) a b) → itr w (k - 3) a b ≠ 0 → Qr 0 (xb_I h ex 0 c)) : w_Exact_byDivision ex u v x y h Qr := by
  have cc : ∀ (z : Int32) (j : Nat), z.toInt = j → (u = z ↔ k = j) := fun z j e => by rw [z_eq, hu, e]; omega
  have hv1 : (v - 1).toInt = (w - 1 : Nat) := by
    rw [z_sub, hv, show (1 : Int32).toInt = 1 from rfl]
    omega
  have s1 : (xb_lshl 1 (v - 1)).toBitVec.toNat = 2 ^ (w - 1) := by
    rw [Z_shl hv1 (by omega), show (1 : Int64).toBitVec.toNat = 1 from rfl, Nat.one_mul]
    refine Nat.mod_eq_of_lt ?_
    have : 2 ^ (w - 1) ≤ 2 ^ 63 := Nat.pow_le_pow_right (by decide) (by omega)
    exact Nat.lt_of_le_of_lt this (by decide)
  obtain ⟨a1, a2, a3, a4, a5⟩ := sgn_rg w6 ha
  obtain ⟨b1, b2, b3, b4, b5⟩ := sgn_rg w6 hb
  have M0 : 0 < 2 ^ (w - 1) := Nat.pow_pos (by decide)
  have M2 : 2 ^ w = 2 ^ (w - 1) * 2 := by rw [← Nat.pow_succ, show (w - 1).succ = w by omega]
  -- the end of a division with signs
  have L194 : ∀ (r : Int64) (c : Int32) (N : Nat) (t : Int), r.toBitVec.toNat = N → (c = 0 → t = N) → (c ≠ 0 → t = -(N : Int)) → itr w (k - 3) a b = 0 → iop w (k - 3) a b = (t % (2 ^ w : Nat)).toNat → w_Exact_byDivision_L194 Qr r c h := by
    intro r c N t h1 h2 h3 h4 h5
    unfold w_Exact_byDivision_L194 w_Exact_byDivision_L207
    refine ⟨fun e => hQ _ h4 ?_, fun e => hQ _ h4 ?_⟩
    · rw [h5, ps_m w6 h1, h2 e]
    · rw [h5, ng_m w6 h1, h3 e]
  have hit : b ≠ 0 → k ≠ 6 → itr w (k - 3) a b = 0 := fun h1 h2 => by
    unfold itr
    rw [if_neg (fun h9 => h1 h9.2.2), if_neg (fun h9 => h2 (by omega))]
  have L164q : k = 6 → b ≠ 0 → ∀ (r : Int64) (c : Int32), r.toBitVec.toNat = (sgn w a).natAbs / (sgn w b).natAbs → (c = 0 ↔ (sgn w a < 0 ↔ sgn w b < 0)) → w_Exact_byDivision_L164 Qr ex v 0 r c h := by
    intro e6 hb0 r c h1 h2
    have yb : 0 < (sgn w b).natAbs := by omega
    have dh := dq_h a1 yb M0
    have op : iop w (k - 3) a b = (Int.tdiv (sgn w a) (sgn w b) % (2 ^ w : Nat)).toNat := by subst e6; rfl
    have g2 : c = 0 → Int.tdiv (sgn w a) (sgn w b) = ((sgn w a).natAbs / (sgn w b).natAbs : Nat) := fun e => td_p (h2.mp e)
    have g3 : c ≠ 0 → Int.tdiv (sgn w a) (sgn w b) = -(((sgn w a).natAbs / (sgn w b).natAbs : Nat) : Int) := fun e => td_n (fun h9 => e (h2.mpr h9))
    have nt : ¬ (c = 0 ∧ r.toBitVec.toNat = 2 ^ (w - 1)) → itr w (k - 3) a b = 0 := fun h9 => by
      unfold itr
      rw [if_neg (fun h8 => hb0 h8.2.2), if_neg (fun h8 => h9 ?_)]
      obtain ⟨_, p1, p2⟩ := h8
      have q1 : sgn w b = -1 := b5.mpr p2
      have q2 : sgn w a < 0 := a4.mpr (by omega)
      refine ⟨h2.mpr ⟨fun _ => by omega, fun _ => q2⟩, ?_⟩
      rw [h1]
      exact dh.mpr ⟨a3.mpr p1, by omega⟩
    unfold w_Exact_byDivision_L164
    refine ⟨fun e => absurd rfl e, fun _ => ⟨fun e => L194 r c _ _ h1 g2 g3 (nt (fun h9 => e h9.1)) op, fun e => ⟨fun e1 => L194 r c _ _ h1 g2 g3 (nt (fun h9 => e1 (Z_eqN.mpr (by rw [s1]; exact h9.2)))) op, fun e1 => ⟨hk1, fun h5 e5 => ?_⟩⟩⟩⟩
    have r1 : r.toBitVec.toNat = 2 ^ (w - 1) := by rw [e1, s1]
    obtain ⟨p1, p2⟩ := dh.mp (h1 ▸ r1)
    have p3 := a3.mp p1
    have p4 : sgn w b < 0 := (h2.mp e).mp (a4.mpr (by omega))
    have p5 := b5.mp (by omega)
    have it : itr w (k - 3) a b = 4 := by
      unfold itr
      rw [if_neg (fun h8 => hb0 h8.2.2), if_pos ⟨by omega, p3, p5⟩]
    rw [e5]
    exact hT 3 (by rw [it]; rfl) (by rw [it]; decide)
  have L164r : k = 8 → b ≠ 0 → ∀ (r : Int64) (c : Int32), r.toBitVec.toNat = (sgn w a).natAbs % (sgn w b).natAbs → (c = 0 ↔ ¬ sgn w a < 0) → w_Exact_byDivision_L164 Qr ex v 1 r c h := by
    intro e8 hb0 r c h1 h2
    have op : iop w (k - 3) a b = (Int.tmod (sgn w a) (sgn w b) % (2 ^ w : Nat)).toNat := by subst e8; rfl
    unfold w_Exact_byDivision_L164
    exact ⟨fun _ => L194 r c _ _ h1 (fun e => tm_p (h2.mp e)) (fun e => tm_n (Classical.not_not.mp fun h9 => e (h2.mpr h9))) (hit hb0 (by omega)) op, fun e => absurd e (by decide)⟩
  have L105 : ∀ (x8 : Int32) (x9 x11 y0 y1 : Int64), b ≠ 0 → (k = 6 ∧ x8 = 0) ∨ (k = 8 ∧ x8 = 1) → x9.toInt = sgn w a → x11.toInt = sgn w b → y1.toBitVec.toNat = (sgn w a).natAbs → y0.toBitVec.toNat = (sgn w b).natAbs → w_Exact_byDivision_L105 Qr ex v x8 x9 x11 y0 y1 h := by
    intro x8 x9 x11 y0 y1 hb0 h8 h9 h11 g1 g0
    have yb : 0 < (sgn w b).natAbs := by omega
    have p9 : (0 : Int64) ≤ x9 ↔ 0 ≤ sgn w a := by rw [Z_le, h9]; rfl
    have p11 : (0 : Int64) ≤ x11 ↔ 0 ≤ sgn w b := by rw [Z_le, h11]; rfl
    unfold w_Exact_byDivision_L105
    refine xr_divided g1 g0 yb (fun r hr _ => ?_)
    unfold w_Exact_byDivision_L144 w_Exact_byDivision_L156
    rw [p9, p11]
    rcases h8 with ⟨e6, e8⟩ | ⟨e6, e8⟩ <;> subst e8
    · rw [if_pos rfl] at hr
      have q := L164q e6 hb0 r
      refine ⟨fun _ => ⟨fun s => ⟨fun t => ⟨fun _ => q 0 hr ?_, fun e => absurd rfl e⟩, fun t => ⟨fun e => absurd e (by decide), fun _ => q 1 hr ?_⟩⟩, fun s => ⟨fun t => ⟨fun e => absurd e (by decide), fun _ => q 1 hr ?_⟩, fun t => ⟨fun _ => q 0 hr ?_, fun e => absurd rfl e⟩⟩⟩, fun e => absurd rfl e⟩
      · exact ⟨fun _ => ⟨fun h9 => absurd h9 (by omega), fun h9 => absurd h9 (by omega)⟩, fun _ => rfl⟩
      · exact ⟨fun h9 => absurd h9 (by decide), fun h9 => absurd (h9.mpr (by omega)) (by omega)⟩
      · exact ⟨fun h9 => absurd h9 (by decide), fun h9 => absurd (h9.mp (by omega)) (by omega)⟩
      · exact ⟨fun _ => ⟨fun _ => by omega, fun _ => by omega⟩, fun _ => rfl⟩
    · rw [if_neg (by decide)] at hr
      have q := L164r e6 hb0 r
      refine ⟨fun e => absurd e (by decide), fun _ => ⟨fun s => q 0 hr ⟨fun _ => by omega, fun _ => rfl⟩, fun s => q 1 hr ⟨fun h9 => absurd h9 (by decide), fun h9 => absurd h9 (by omega)⟩⟩⟩
  have L30 : ∀ (x7 y0 : Int32), ((k = 6 ∧ x7 = 1 ∧ y0 = 0) ∨ (k = 7 ∧ x7 = 0 ∧ y0 = 0) ∨ (k = 8 ∧ x7 = 1 ∧ y0 = 1) ∨ (k = 9 ∧ x7 = 0 ∧ y0 = 1)) → w_Exact_byDivision_L30 Qr ex v x y x7 y0 h := by
    intro x7 y0 hc
    have yz : y = 0 ↔ b = 0 := by rw [Z_eqN, hy]; rfl
    unfold w_Exact_byDivision_L30 w_Exact_byDivision_L90
    rw [yz]
    refine ⟨fun hb0 => ⟨fun e7 => ?_, fun e7 => ?_⟩, fun e => ⟨hk1, fun h11 e11 => ?_⟩⟩
    · have hc2 : (k = 6 ∧ y0 = 0) ∨ (k = 8 ∧ y0 = 1) := by
        rcases hc with h9 | h9 | h9 | h9
        · exact .inl ⟨h9.1, h9.2.2⟩
        · exact absurd h9.2.1 e7
        · exact .inr ⟨h9.1, h9.2.2⟩
        · exact absurd h9.2.1 e7
      refine xr_withSign hv w6 hx ha (fun r4 g4 _ => xr_withSign hv w6 hy hb (fun r6 g6 _ => ?_))
      obtain ⟨m1, m2⟩ := Z_ab (x := r4)
      obtain ⟨m3, m4⟩ := Z_ab (x := r6)
      have p4 : (0 : Int64) ≤ r4 ↔ 0 ≤ r4.toInt := Z_le
      have p6 : (0 : Int64) ≤ r6 ↔ 0 ≤ r6.toInt := Z_le
      rw [p4, p6]
      refine ⟨fun s => ⟨fun t => L105 _ _ _ _ _ hb0 hc2 g4 g6 ?_ ?_, fun t => L105 _ _ _ _ _ hb0 hc2 g4 g6 ?_ ?_⟩, fun s => ⟨fun t => L105 _ _ _ _ _ hb0 hc2 g4 g6 ?_ ?_, fun t => L105 _ _ _ _ _ hb0 hc2 g4 g6 ?_ ?_⟩⟩
      · rw [m1 s, g4]
      · rw [m3 t, g6]
      · rw [m1 s, g4]
      · rw [m4 t, g6]
      · rw [m2 s, g4]
      · rw [m3 t, g6]
      · rw [m2 s, g4]
      · rw [m4 t, g6]
    · refine xr_divided hx hy (Nat.pos_of_ne_zero hb0) (fun r hr _ => ?_)
      rcases hc with h9 | h9 | h9 | h9
      · rw [h9.2.1] at e7
        exact absurd e7 (by decide)
      · obtain ⟨e1, e2, e3⟩ := h9
        rw [if_pos e3] at hr
        refine hQ r (hit hb0 (by omega)) ?_
        subst e1
        show _ = a / b
        rw [hr]
        exact Nat.mod_eq_of_lt (Nat.lt_of_le_of_lt (Nat.div_le_self _ _) ha)
      · rw [h9.2.1] at e7
        exact absurd e7 (by decide)
      · obtain ⟨e1, e2, e3⟩ := h9
        rw [if_neg (by rw [e3]; decide)] at hr
        refine hQ r (hit hb0 (by omega)) ?_
        subst e1
        show _ = a % b
        rw [hr]
        exact Nat.mod_eq_of_lt (Nat.lt_of_le_of_lt (Nat.mod_le _ _) ha)
    · rw [e11]
      have it : itr w (k - 3) a b = 3 := by
        unfold itr
        rw [if_pos ⟨by omega, by omega, e⟩]
      exact hT 2 (by rw [it]; rfl) (by rw [it]; decide)
  have l7 : u ≤ 7 ↔ k ≤ 7 := by rw [z_le, hu, show (7 : Int32).toInt = 7 from rfl]; omega
  unfold w_Exact_byDivision w_Exact_byDivision_L12 w_Exact_byDivision_L17
  rw [cc 6 6 rfl, cc 8 8 rfl, l7]
  refine ⟨fun e => ⟨fun _ => L30 _ _ (.inl ⟨e, rfl, rfl⟩), fun g => absurd g (by omega)⟩, fun e => ⟨fun e2 => ⟨fun g => L30 _ _ (.inr (.inl ⟨by omega, rfl, rfl⟩)), fun g => L30 _ _ (.inr (.inr (.inr ⟨by omega, rfl, rfl⟩)))⟩, fun e2 => ⟨fun g => absurd g (by omega), fun g => L30 _ _ (.inr (.inr (.inl ⟨e2, rfl, rfl⟩)))⟩⟩⟩
theorem xr_isSo {x y : Int64} {u v : Int32} {w k a b : Nat} {Qr : Int32 → xb_H → Prop} (hu : u.toInt = k) (k9 : k ≤ 9) (hv : v.toInt = w) (w6 : w = 32 ∨ w = 64) (hx : x.toBitVec.toNat = a) (hy : y.toBitVec.toNat = b) (ha : a < 2 ^ w) (hb : b < 2 ^ w) (hQ : ∀ r : Int32, r = 0 ∨ r = 1 → (r = 1 ↔ icm w k a b) → Qr r h) : w_Exact_isSo u v x y h Qr := by
  have c : ∀ (z : Int32) (j : Nat), z.toInt = j → (u = z ↔ k = j) := fun z j e => by rw [z_eq, hu, e]; omega
  have n0 : ∀ P : Prop, ¬ P → ((0 : Int32) = 1 ↔ P) := fun P hP => ⟨fun h9 => absurd h9 (by decide), fun h9 => absurd h9 hP⟩
  have n1 : ∀ P : Prop, P → ((1 : Int32) = 1 ↔ P) := fun P hP => ⟨fun _ => hP, fun _ => rfl⟩
  have q0 : ¬ icm w k a b → ((0 : Int32) = 0 ∨ (0 : Int32) = 1) ∧ Qr 0 h := fun hP => ⟨.inl rfl, hQ 0 (.inl rfl) (n0 _ hP)⟩
  have q1 : icm w k a b → ((1 : Int32) = 0 ∨ (1 : Int32) = 1) ∧ Qr 1 h := fun hP => ⟨.inr rfl, hQ 1 (.inr rfl) (n1 _ hP)⟩
  have t : x = y ↔ a = b := by rw [Z_eqN, hx, hy]
  unfold w_Exact_isSo w_Exact_isSo_L80 w_Exact_isSo_L93 w_Exact_isSo_L107 w_Exact_isSo_L128 w_Exact_isSo_L149 w_Exact_isSo_L164 w_Exact_isSo_L178 w_Exact_isSo_L193
  refine xr_withSign hv w6 hx ha (fun r2 f2 _ => xr_withSign hv w6 hy hb (fun r4 f4 _ => ?_))
  rw [c 0 0 rfl, c 1 1 rfl, c 2 2 rfl, c 3 3 rfl, c 4 4 rfl, c 5 5 rfl, c 6 6 rfl, c 7 7 rfl, c 8 8 rfl, t, Z_le, Z_le, Z_lt, Z_lt, f2, f4]
  refine ⟨fun e => ⟨fun g => q0 ?_, fun g => q1 ?_⟩, fun e => ⟨fun g => q0 ?_, fun g => q1 ?_⟩, fun e => ⟨fun g => q0 ?_, fun g => q1 ?_⟩, fun e => xr_below hx hy (fun r g1 g2 _ => ⟨g1, hQ r g1 (g2.trans ?_)⟩), fun e => ⟨fun g => q0 ?_, fun g => q1 ?_⟩, fun e => xr_below hy hx (fun r g1 g2 _ => ⟨g1, hQ r g1 (g2.trans ?_)⟩), fun e => ⟨fun g => q0 ?_, fun g => q1 ?_⟩, fun e => xr_below hy hx (fun r g1 g2 _ => ⟨fun g => q0 ?_, fun g => q1 ?_⟩), fun e => ⟨fun g => q0 ?_, fun g => q1 ?_⟩, fun j0 j1 j2 j3 j4 j5 j6 j7 j8 => xr_below hx hy (fun r g1 g2 _ => ⟨fun g => q0 ?_, fun g => q1 ?_⟩)⟩
  · unfold icm; omega
  · unfold icm; omega
  · unfold icm; omega
  · unfold icm; omega
  · unfold icm; omega
  · unfold icm; omega
  · unfold icm; omega
  · unfold icm; omega
  · unfold icm; omega
  · unfold icm; omega
  · unfold icm; omega
  · unfold icm; omega
  · rw [z_b01 g1 g2] at g
    unfold icm; omega
  · rw [z_b01 g1 g2] at g
    unfold icm; omega
  · unfold icm; omega
  · unfold icm; omega
  · rw [z_b01 g1 g2] at g
    unfold icm; omega
  · rw [z_b01 g1 g2] at g
    unfold icm; omega
theorem bw_m {w b : Nat} (w6 : w = 32 ∨ w = 64) {y : Int64} {v v1 : Int32} (hv : v.toInt = w) (hy : y.toBitVec.toNat = b) (e1 : v1 = Int64.toInt32 (y &&& Int32.toInt64 (v - 1))) : v1.toInt = (b % w : Nat) := by
  rcases w6 with e | e <;> subst e
  · have hv2 : v = 32 := z_eq.mpr hv
    subst hv2
    have e2 : (y &&& Int32.toInt64 (32 - 1)).toInt = y.toInt % (2 ^ 5 : Nat) := Z_mask y 5 rfl (by omega)
    rw [e1, z_of64, e2]
    have c1 := Z_nat y
    omega
  · have hv2 : v = 64 := z_eq.mpr hv
    subst hv2
    have e2 : (y &&& Int32.toInt64 (64 - 1)).toInt = y.toInt % (2 ^ 6 : Nat) := Z_mask y 6 rfl (by omega)
    rw [e1, z_of64, e2]
    have c1 := Z_nat y
    omega
theorem rw_m {w n : Nat} (w6 : w = 32 ∨ w = 64) {v v1 : Int32} (hv : v.toInt = w) (h1 : v1.toInt = n) (hn : n < w) : ((v - v1) - (v - v1) / v * v).toInt = ((w - n) % w : Nat) := by
  have y1 : (v - v1).toInt = (w - n : Nat) := by
    rw [z_sub, hv, h1]
    omega
  have y2 : ((v - v1) / v).toInt = ((w - n) / w : Nat) := by
    rw [Int32.toInt_div_of_ne_right _ _ (fun e => by rw [e] at hv; rcases w6 with h9 | h9 <;> rw [h9] at hv <;> exact absurd hv (by decide)), y1, hv]
    exact (Int.ofNat_tdiv _ _).symm
  have := Nat.div_add_mod (w - n) w
  rcases w6 with e | e <;> subst e
  · rw [z_sub, z_mul, y1, y2, hv]
    omega
  · rw [z_sub, z_mul, y1, y2, hv]
    omega
theorem mod_w {w m : Nat} (w6 : w = 32 ∨ w = 64) : m % 18446744073709551616 % 2 ^ w = m % 2 ^ w := by
  rcases w6 with e | e <;> subst e
  · exact Nat.mod_mod_of_dvd _ (show (2 ^ 32 : Nat) ∣ 18446744073709551616 from ⟨4294967296, by decide⟩)
  · exact Nat.mod_mod _ _
theorem sub_w {w a b : Nat} (w6 : w = 32 ∨ w = 64) (ha : a < 2 ^ w) (hb : b < 2 ^ w) : (18446744073709551616 - b + a) % 18446744073709551616 % 2 ^ w = (2 ^ w - b + a) % 2 ^ w := by
  rw [mod_w w6]
  rcases w6 with e | e <;> subst e
  · have p2 : (2 : Nat) ^ 32 = 4294967296 := by decide
    rw [p2] at *
    omega
  · rfl
theorem xr_reckoned {x y : Int64} {u v : Int32} {w k a b : Nat} {Qr : Int64 → xb_H → Prop} (hk1 : xb_k h ex = 10) (hu : u.toInt = k) (k17 : k ≤ 17) (hv : v.toInt = w) (w6 : w = 32 ∨ w = 64) (hx : x.toBitVec.toNat = a) (hy : y.toBitVec.toNat = b) (ha : a < 2 ^ w) (hb : b < 2 ^ w)
    (hQ : ∀ r : Int64, (3 ≤ k → itr w (k - 3) a b = 0) → r.toBitVec.toNat % 2 ^ w = (if k < 3 then icn w k a else iop w (k - 3) a b) → Qr r h)
    (hT : 3 ≤ k → ∀ c : Int32, (c.toInt + 1 = itr w (k - 3) a b) → itr w (k - 3) a b ≠ 0 → Qr 0 (xb_I h ex 0 c)) : w_Exact_reckoned ex u v x y h Qr := by
  have c : ∀ (z : Int32) (j : Nat), z.toInt = j → (u = z ↔ k = j) := fun z j e => by rw [z_eq, hu, e]; omega
  have hop : 3 ≤ k → ¬ (6 ≤ k ∧ k ≤ 9) → ∀ r : Int64, r.toBitVec.toNat % 2 ^ w = iop w (k - 3) a b → Qr r h := fun g1 g2 r hr => hQ r (fun _ => by
    unfold itr
    rw [if_neg (by omega), if_neg (by omega)]) (by rw [if_neg (by omega)]; exact hr)
  unfold w_Exact_reckoned
  intro v1 e1
  have n1 := bw_m w6 hv hy e1
  have nw : b % w < w := Nat.mod_lt _ (by omega)
  have L92 : k < 3 → w_Exact_reckoned_L92 Qr u v x h := fun g => by
    unfold w_Exact_reckoned_L92
    refine xr_count hv w6 hu (by omega) hx ha (fun r hr _ => hQ _ (fun h9 => absurd h9 (by omega)) ?_)
    have e2 : (Int32.toInt64 r).toBitVec.toNat = icn w k a := by
      have c1 := Z_nat (Int32.toInt64 r)
      have c2 := z_rg r
      rw [Z_of32, hr] at c1
      omega
    rw [if_pos g, e2]
    refine Nat.mod_eq_of_lt ?_
    have c2 := z_rg r
    rw [hr] at c2
    rcases w6 with h9 | h9 <;> subst h9
    · have p2 : (2 : Nat) ^ 32 = 4294967296 := by decide
      omega
    · have p2 : (2 : Nat) ^ 64 = 18446744073709551616 := by decide
      omega
  have L115 : 6 ≤ k → k ≤ 9 → w_Exact_reckoned_L115 Qr ex u v x y h := fun g1 g2 => by
    unfold w_Exact_reckoned_L115
    exact ⟨hk1, xr_byDivision hk1 hu g1 g2 hv w6 hx hy ha hb (fun r f1 f2 _ => hQ r (fun _ => f1) (by rw [if_neg (by omega)]; exact f2)) (fun c f1 f2 _ => hT (by omega) c f1 f2)⟩
  have L140 : 13 ≤ k → k ≤ 15 → w_Exact_reckoned_L140 Qr u v x v1 h := fun g1 g2 => by
    unfold w_Exact_reckoned_L140
    exact xr_moved hu g1 g2 hv w6 n1 rfl hx ha (fun r hr _ => hop (by omega) (by omega) r hr)
  rw [c 0 0 rfl, c 1 1 rfl, c 2 2 rfl, c 3 3 rfl, c 4 4 rfl, c 5 5 rfl, c 6 6 rfl, c 7 7 rfl, c 8 8 rfl, c 9 9 rfl, c 10 10 rfl, c 11 11 rfl, c 12 12 rfl, c 13 13 rfl, c 14 14 rfl, c 15 15 rfl, c 16 16 rfl]
  refine ⟨fun e => L92 (by omega), fun e => L92 (by omega), fun e => L92 (by omega), fun e => hop (by omega) (by omega) _ ?_, fun e => hop (by omega) (by omega) _ ?_, fun e => hop (by omega) (by omega) _ ?_, fun e => L115 (by omega) (by omega), fun e => L115 (by omega) (by omega), fun e => L115 (by omega) (by omega), fun e => L115 (by omega) (by omega), fun e => hop (by omega) (by omega) _ ?_, fun e => hop (by omega) (by omega) _ ?_, fun e => hop (by omega) (by omega) _ ?_, fun e => L140 (by omega) (by omega), fun e => L140 (by omega) (by omega), fun e => L140 (by omega) (by omega), fun e => xr_turned hv w6 n1 nw hx ha (fun r hr _ => hop (by omega) (by omega) r ?_), fun g0 g1 g2 g3 g4 g5 g6 g7 g8 g9 ga gb gc gd ge gf gg => ⟨?_, xr_turned hv w6 (rw_m w6 hv n1 nw) (Nat.mod_lt _ (by omega)) hx ha (fun r hr _ => hop (by omega) (by omega) r ?_)⟩⟩
  · subst e
    show _ = (a + b) % 2 ^ w
    rw [Z_addN, hx, hy, mod_w w6]
  · subst e
    show _ = (2 ^ w - b + a) % 2 ^ w
    rw [Z_subG, hx, hy, sub_w w6 ha hb]
  · subst e
    show _ = a * b % 2 ^ w
    rw [Z_mulN, hx, hy, mod_w w6]
  · subst e
    show _ = a &&& b
    rw [Z_and, hx, hy]
    exact Nat.mod_eq_of_lt (Nat.lt_of_le_of_lt Nat.and_le_left ha)
  · subst e
    show _ = a ||| b
    rw [Z_or, hx, hy]
    exact Nat.mod_eq_of_lt (Nat.or_lt_two_pow ha hb)
  · subst e
    show _ = a ^^^ b
    rw [Z_xor, hx, hy]
    exact Nat.mod_eq_of_lt (Nat.xor_lt_two_pow ha hb)
  · subst e
    show _ = a * 2 ^ (b % w) % 2 ^ w ||| a / 2 ^ ((w - b % w) % w)
    rw [hr]
    exact Nat.mod_eq_of_lt (Nat.or_lt_two_pow (Nat.mod_lt _ (Nat.pow_pos (by decide))) (Nat.lt_of_le_of_lt (Nat.div_le_self _ _) ha))
  · intro e9
    rw [e9] at hv
    have : (0 : Int32).toInt = 0 := rfl
    omega
  · have e : k = 17 := by omega
    subst e
    show _ = a / 2 ^ (b % w) ||| a * 2 ^ ((w - b % w) % w) % 2 ^ w
    rw [hr]
    have l : ∀ m : Nat, (a * 2 ^ m % 2 ^ w ||| a / 2 ^ (b % w)) % 2 ^ w = (a / 2 ^ (b % w) ||| a * 2 ^ m % 2 ^ w) := fun m => by
      rw [Nat.or_comm]
      exact Nat.mod_eq_of_lt (Nat.or_lt_two_pow (Nat.lt_of_le_of_lt (Nat.div_le_self _ _) ha) (Nat.mod_lt _ (Nat.pow_pos (by decide))))
    rcases Nat.eq_zero_or_pos (b % w) with h9 | h9
    · rw [h9, Nat.sub_zero, Nat.mod_self, Nat.sub_zero, Nat.mod_self]
      have := l 0
      rw [h9] at this
      exact this
    · rw [Nat.mod_eq_of_lt (show w - b % w < w by omega), show w - (w - b % w) = b % w by omega, Nat.mod_eq_of_lt nw]
      exact l (w - b % w)
end XI3

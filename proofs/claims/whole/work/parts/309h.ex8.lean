-- the reference's exact numbers: root, sum, and all of them
section EX8
variable {ex rw_ : Nat} {f g : Nat → Nat} {h h' h2 : xb_H} {F F2 : List Nat}
theorem sp_erootL {Qr : Int64 → xb_H → Prop} {P0 : Nat} (hP1 : 30 ≤ P0) (hP2 : P0 ≤ 4300) (h0 : xb_H) (hP : 2200 + ((xb_i h0 ex 10) / 2).toInt = P0) (hQ : ∀ (r : Int64) (h' : xb_H) (f' : Nat → Nat), eF ex rw_ [2, 3, 4] h0 h' → eK ex rw_ f' h' → Qr r h') : ∀ (m : Nat) (x3 x5 : Int64) (x7 : Int32) (f : Nat → Nat) (h : xb_H), x7.toInt = (m : Int) - 31 → m ≤ 57 → eK ex rw_ f h → eM ex h → (∀ j, j + 31 ≤ P0 + m → f j = 0) → eF ex rw_ [2, 3] h0 h → w_Exact_root_L115 Qr (m + 1) ex x3 x5 x7 h := by
  intro m
  have L225 : ∀ (f : Nat → Nat) (h : xb_H), eK ex rw_ f h → eM ex h → eF ex rw_ [2, 3] h0 h → ∀ v : Int32, (v = 0 ∨ v = 1) → w_Exact_root_L217 Qr ex v ex h := by
    intro f h hk hm hF v hv
    unfold w_Exact_root_L217
    refine ⟨hk.1.1, hv, fun h3 e3 => ?_⟩
    have k3 : eK ex rw_ f h3 := by rw [e3]; exact hk.rs hv
    have f3 : eF ex rw_ [4] h h3 := by rw [e3]; exact eF.I hk.1
    exact ⟨k3.1.1, sp_erounded k3 (hm.fr f3 (by decide)) (fun r _ => hQ r h3 f ((hF.tr f3).mono (by decide)) k3)⟩
  induction m with
  | zero =>
    intro x3 x5 x7 f h e1 e2 hk hm hz hF
    unfold w_Exact_root_L115
    refine ⟨fun _ => ⟨fun _ => L225 f h hk hm hF 0 (.inl rfl), fun _ => L225 f h hk hm hF 1 (.inr rfl)⟩, fun e => ?_⟩
    rw [z_lt, show (-30 : Int32).toInt = -30 from rfl] at e
    omega
  | succ m ih =>
    intro x3 x5 x7 f h e1 e2 hk hm hz hF
    have e3 : (x7 + -1).toInt = (m : Int) - 31 := by
      rw [z_add, show (-1 : Int32).toInt = -1 from rfl]
      omega
    have L149 : ∀ a b, w_Exact_root_L149 (w_Exact_root_L115 Qr (m + 1)) Qr ex x5 x7 a b h := by
      intro a b
      unfold w_Exact_root_L149 w_Exact_root_L199
      refine fun v1 _ v2 _ v3 _ => ⟨fun _ => ih _ _ _ f h e3 (by omega) hk hm (fun j hj => hz j (by omega)) hF, fun _ v5 _ v6 _ => ⟨hk.1.1, ?_⟩⟩
      refine sp_eadd1 hk (p := P0 + m - 30) ?_ (by omega) (hz _ (by omega)) (fun f' h' g1 g2 g3 _ => ih _ _ _ f' h' e3 (by omega) g2 (hm.fr g1 (by decide)) (fun j hj => ?_) ((hF.tr g1).mono (by decide)))
      · rw [hF.2.2.2.2.2.1 10 (by decide), z_add]
        omega
      · rw [g3 j (by omega)]
        exact hz j (by omega)
    unfold w_Exact_root_L115
    exact ⟨fun _ => ⟨fun _ => L225 f h hk hm hF 0 (.inl rfl), fun _ => L225 f h hk hm hF 1 (.inr rfl)⟩, fun e => ⟨fun _ => ⟨hk.1.1, L149 _ _⟩, fun _ => L149 _ _⟩⟩
theorem z_half (x : Int32) : x.toInt - 1 ≤ 2 * (x / 2).toInt ∧ 2 * (x / 2).toInt ≤ x.toInt + 1 := by
  have e1 : (x / 2).toInt = x.toInt.tdiv 2 := by
    rw [Int32.toInt_div_of_ne_right _ _ (by decide)]
    rfl
  rw [e1]
  rcases Int.lt_or_le x.toInt 0 with h1 | h1
  · have e2 : x.toInt.tdiv 2 = -((-x.toInt).tdiv 2) := by rw [Int.neg_tdiv, Int.neg_neg]
    rw [e2, Int.tdiv_eq_ediv_of_nonneg (by omega)]
    omega
  · rw [Int.tdiv_eq_ediv_of_nonneg h1]
    omega
theorem sp_eroot {x : Int64} {Qr : Int64 → xb_H → Prop} (hk : eK ex rw_ f h) (hm : eM ex h) (hQ : ∀ (r : Int64) (h' : xb_H) (f' : Nat → Nat), eF ex rw_ eFA h h' → eK ex rw_ f' h' → Qr r h') : w_Exact_root ex x h Qr := by
  have k1 := hk.1
  have same : ∀ r, Qr r h := fun r => hQ r h f eF.rf hk
  have L67 : ∀ (m a : Nat) (h2 : xb_H), (xb_l h2 ex 9).toBitVec.toNat = a → a < 2 ^ 54 → 2 ^ 52 ≤ a * 4 ^ m → -1400 + 2 * (m : Int) ≤ (xb_i h2 ex 10).toInt → (xb_i h2 ex 10).toInt ≤ 1000 → eK ex rw_ f h2 → eM ex h2 → eF ex rw_ [8, 9, 10] h h2 → w_Exact_root_L67 Qr (m + 1) ex h2 := by
    intro m
    induction m with
    | zero =>
      intro a h2 e1 e2 e3 w1 w2 k2 m2 f2
      have i1 : (xb_l h2 ex 9).toInt = a := by
        have := Z_nat (xb_l h2 ex 9)
        have := Z_rg (xb_l h2 ex 9)
        omega
      have i2 : (xb_lshr (xb_l h2 ex 9) 52).toInt = (a / 2 ^ 52 : Nat) := by
        rw [Z_sar (k := 52) rfl (by omega), i1]
        omega
      unfold w_Exact_root_L67
      refine ⟨k2.1.1, fun _ => sp_eclear k2 (fun h3 f3 k3 _ => ⟨57 + 1, ?_⟩), fun e => ?_⟩
      · have i9 : xb_i h3 ex 10 = xb_i h2 ex 10 := f3.2.2.2.2.2.1 10 (by decide)
        have i8 := z_half (xb_i h2 ex 10)
        refine sp_erootL (P0 := (2200 + (xb_i h2 ex 10 / 2).toInt).toNat) (by omega) (by omega) h3 (by rw [i9]; omega) (fun r h' f' g1 g2 => hQ r h' f' (((f2.tr f3).tr g1).mono (by decide)) g2) 57 0 0 26 _ h3 rfl (by omega) k3 (m2.fr f3 (by decide)) (fun _ _ => rfl) eF.rf
      · rw [Z_eq, i2, show (0 : Int64).toInt = 0 from rfl] at e
        omega
    | succ m ih =>
      intro a h2 e1 e2 e3 w1 w2 k2 m2 f2
      have i1 : (xb_l h2 ex 9).toInt = a := by
        have := Z_nat (xb_l h2 ex 9)
        have := Z_rg (xb_l h2 ex 9)
        omega
      have i2 : (xb_lshr (xb_l h2 ex 9) 52).toInt = (a / 2 ^ 52 : Nat) := by
        rw [Z_sar (k := 52) rfl (by omega), i1]
        omega
      unfold w_Exact_root_L67
      refine ⟨k2.1.1, fun _ => sp_eclear k2 (fun h3 f3 k3 _ => ⟨57 + 1, ?_⟩), fun e h5 e5 h6 e6 => ?_⟩
      · have i9 : xb_i h3 ex 10 = xb_i h2 ex 10 := f3.2.2.2.2.2.1 10 (by decide)
        have i8 := z_half (xb_i h2 ex 10)
        refine sp_erootL (P0 := (2200 + (xb_i h2 ex 10 / 2).toInt).toNat) (by omega) (by omega) h3 (by rw [i9]; omega) (fun r h' f' g1 g2 => hQ r h' f' (((f2.tr f3).tr g1).mono (by decide)) g2) 57 0 0 26 _ h3 rfl (by omega) k3 (m2.fr f3 (by decide)) (fun _ _ => rfl) eF.rf
      · rw [Z_eq, i2, show (0 : Int64).toInt = 0 from rfl] at e
        have f5 : eF ex rw_ [9] h2 h5 := by rw [e5]; exact eF.Lx k2.1
        have k5 : eK ex rw_ f h5 := by rw [e5]; exact k2.Lx
        have f6 : eF ex rw_ [10] h5 h6 := by rw [e6]; exact eF.I k5.1
        have k6 : eK ex rw_ f h6 := by rw [e6]; exact k5.I (by omega) (by omega) (by omega)
        have w5 : xb_i h5 ex 10 = xb_i h2 ex 10 := f5.2.2.2.2.2.1 10 (by decide)
        have w6 : (xb_i h6 ex 10).toInt = (xb_i h2 ex 10).toInt - 2 := by
          rw [e6, xh_iI, if_pos rfl, xh_up, if_pos rfl, w5, z_sub, show (2 : Int32).toInt = 2 from rfl]
          omega
        refine ih (a * 4) h6 ?_ (by omega) (by rw [Nat.mul_assoc, ← Nat.pow_succ']; exact e3) (by omega) (by omega) k6 ((m2.fr f5 (by decide)).fr f6 (by decide)) (((f2.tr f5).tr f6).mono (by decide))
        rw [e6, xh_lI, e5, xh_lL, if_pos rfl, xh_up, if_pos rfl, Z_shl (k := 2) rfl (by omega), e1]
        omega
  unfold w_Exact_root
  refine ⟨k1.1, sp_eisZero k1.1 (fun r3 h3 _ => ⟨fun e3 => sp_eisMinus k1.1 (fun r6 _ _ => ⟨fun _ => sp_eisInfinite k1.1 (fun r9 _ => ⟨fun _ => ?_, fun _ => same _⟩), fun _ => sp_enoNumber k1.1 (fun r _ => same r)⟩), fun _ => same _⟩)⟩
  have hx : x &&& ((xb_lshl 1 ((xb_i h ex 5) - 1)) - 1) ≠ 0 := by
    rcases h3 with h3 | h3
    · exact h3.2
    · rw [h3] at e3
      exact absurd e3 (by decide)
  refine sp_esplit2 hk hm (fun h11 p p1 p2 f11 k11 m11 a11 n11 w11 _ => ⟨fun _ => ⟨27 + 1, L67 27 _ h11 rfl (by omega) ?_ (by omega) (by omega) k11 m11 f11⟩, fun _ h14 e14 h15 e15 => ⟨27 + 1, ?_⟩⟩)
  · have := n11 hx
    omega
  · have n11' := n11 hx
    have f5 : eF ex rw_ [9] h11 h14 := by rw [e14]; exact eF.Lx k11.1
    have k5 : eK ex rw_ f h14 := by rw [e14]; exact k11.Lx
    have f6 : eF ex rw_ [10] h14 h15 := by rw [e15]; exact eF.I k5.1
    have k6 : eK ex rw_ f h15 := by rw [e15]; exact k5.I (by omega) (by omega) (by omega)
    have w5 : xb_i h14 ex 10 = xb_i h11 ex 10 := f5.2.2.2.2.2.1 10 (by decide)
    have w6 : (xb_i h15 ex 10).toInt = (xb_i h11 ex 10).toInt - 1 := by
      rw [e15, xh_iI, if_pos rfl, xh_up, if_pos rfl, w5, z_sub, show (1 : Int32).toInt = 1 from rfl]
      omega
    refine L67 27 ((xb_l h11 ex 9).toBitVec.toNat * 2) h15 ?_ (by omega) (by omega) (by omega) (by omega) k6 ((m11.fr f5 (by decide)).fr f6 (by decide)) (((f11.tr f5).tr f6).mono (by decide))
    rw [e15, xh_lI, e14, xh_lL, if_pos rfl, xh_up, if_pos rfl, Z_shl (k := 1) rfl (by omega)]
    omega
theorem eWt_mono {fr s t : Nat} (h : t ≤ s) : eWt fr t ≤ eWt fr s := by
  unfold eWt
  have : t / 2 ^ fr ≤ s / 2 ^ fr := Nat.div_le_div_right h
  split <;> split <;> omega
theorem sp_esumT {a b : Int64} {t : Int32} {Qr : Int64 → xb_H → Prop} (hk : eK ex rw_ f h) (hm : eM ex h) (hab : (b &&& ((xb_lshl 1 ((xb_i h ex 5) - 1)) - 1)).toBitVec.toNat ≤ (a &&& ((xb_lshl 1 ((xb_i h ex 5) - 1)) - 1)).toBitVec.toNat) (hQ : ∀ (r : Int64) (h' : xb_H) (f' : Nat → Nat), eF ex rw_ eFA h h' → eK ex rw_ f' h' → Qr r h') : w_Exact_clear ex h (fun (h5 : xb_H) => xb_ext h h5 → w_Exact_split ex a h5 (fun (h7 : xb_H) => xb_ext h5 h7 → ∀ v9 : Int32, v9 = (xb_i h7 ex 8) → w_Exact_add ex (xb_l h7 ex 9) (xb_i h7 ex 10) h7 (fun (h10 : xb_H) => xb_ext h7 h10 → w_Exact_split ex b h10 (fun (h12 : xb_H) => xb_ext h10 h12 → ((t = (0 : Int32) → w_Exact_add ex (xb_l h12 ex 9) (xb_i h12 ex 10) h12 (fun (h15 : xb_H) => xb_ext h12 h15 → w_Exact_sum_L245 Qr ex v9 h15)) ∧ (¬ t = (0 : Int32) → w_Exact_take ex (xb_l h12 ex 9) (xb_i h12 ex 10) h12 (fun (h17 : xb_H) => xb_ext h12 h17 → w_Exact_sum_L245 Qr ex v9 h17))))))) := by
  refine sp_eclear hk (fun h5 f5 k5 _ => ?_)
  have m5 := hm.fr f5 (by decide)
  have i5 : xb_i h5 ex 5 = xb_i h ex 5 := f5.2.2.2.2.2.1 5 (by decide)
  refine sp_esplit k5 m5 (fun h7 fr bi s c1 c2 c3 f7 k7 m7 a7 w7 _ v9 _ => ?_)
  rw [i5] at c2
  have lt7 := eAm_lt c1
  have hp : (-1074 : Int) ≤ (eWt fr s : Int) - bi - fr ∧ (eWt fr s : Int) - bi - fr ≤ 1000 := by
    rcases c1 with ⟨q1, q2, q3⟩ | ⟨q1, q2, q3⟩ <;> omega
  obtain ⟨P, hP⟩ : ∃ P : Nat, (P : Int) = 2200 + ((eWt fr s : Int) - bi - fr) := ⟨(2200 + ((eWt fr s : Int) - bi - fr)).toNat, by omega⟩
  have big : 2 ^ 60 ≤ 2 ^ (4400 - P) := Nat.pow_le_pow_right (by omega) (by omega)
  refine sp_eadd k7 (p := P) (by rw [w7]; omega) (by omega) (by rw [eU_zero, a7]; omega) (fun f10 h10 f10' k10 g3 g4 _ => ?_)
  rw [eU_zero, a7, Nat.zero_add] at g4
  have m10 := m7.fr f10' (by decide)
  have i10 : xb_i h10 ex 5 = xb_i h ex 5 := by rw [f10'.2.2.2.2.2.1 5 (by decide), f7.2.2.2.2.2.1 5 (by decide), i5]
  have j10 : xb_i h10 ex 6 = xb_i h5 ex 6 := by rw [f10'.2.2.2.2.2.1 6 (by decide), f7.2.2.2.2.2.1 6 (by decide)]
  refine sp_esplit k10 m10 (fun h12 fr2 bi2 s2 d1 d2 d3 f12 k12 m12 a12 w12 _ => ?_)
  rw [i10] at d2
  rw [j10] at d3
  have efr : fr2 = fr := by omega
  subst efr
  have ebi : bi2 = bi := by omega
  subst ebi
  have hs : s2 ≤ s := by omega
  have lt12 := eAm_lt d1
  have mono := eAm_mono (fr := fr2) hs
  have wm := eWt_mono (fr := fr2) hs
  have hq : (-1074 : Int) ≤ (eWt fr2 s2 : Int) - bi2 - fr2 := by
    rcases d1 with ⟨q1, q2, q3⟩ | ⟨q1, q2, q3⟩ <;> omega
  obtain ⟨p, hp'⟩ : ∃ p : Nat, (p : Int) = 2200 + ((eWt fr2 s2 : Int) - bi2 - fr2) := ⟨(2200 + ((eWt fr2 s2 : Int) - bi2 - fr2)).toNat, by omega⟩
  obtain ⟨d, hd⟩ : ∃ d, P = p + d := ⟨P - p, by omega⟩
  have hd2 : eWt fr2 s = eWt fr2 s2 + d := by omega
  obtain ⟨n, hn⟩ : ∃ n, 4400 - P = n := ⟨_, rfl⟩
  have hn2 : 4400 - p = d + n := by omega
  have U1 : eU f10 p (4400 - p) = 2 ^ d * eAm fr2 s := by
    rw [hn2, eU_sp, eU_cg (f := fun _ => 0) (g := f10) (fun j _ hj => g3 j (by omega)), eU_zero, ← hd, ← hn, g4, Nat.zero_add]
  have mono2 : eAm fr2 s2 ≤ 2 ^ d * eAm fr2 s := by
    rw [hd2, Nat.pow_add, Nat.mul_comm (2 ^ eWt fr2 s2), ← Nat.mul_assoc] at mono
    have := Nat.le_of_mul_le_mul_right mono (Nat.pos_of_ne_zero (by simp))
    rw [Nat.mul_comm]
    exact this
  have FA := (((f5.tr f7).tr f10').tr f12)
  refine ⟨fun _ => sp_eadd k12 (p := p) (by rw [w12]; omega) (by omega) ?_ (fun f' h' g1 g2 _ _ _ => ?_), fun _ => sp_etake k12 (p := p) (by rw [w12]; omega) (by omega) ?_ (fun f' h' g1 g2 _ => ?_)⟩
  · rw [U1, a12, hn2, Nat.pow_add]
    have e1 : 2 ^ d * eAm fr2 s + eAm fr2 s2 ≤ 2 ^ d * (2 * eAm fr2 s) := by
      rw [Nat.mul_left_comm]
      omega
    refine Nat.lt_of_le_of_lt e1 (Nat.mul_lt_mul_of_pos_left ?_ (Nat.pos_of_ne_zero (by simp)))
    rw [← hn]
    omega
  · unfold w_Exact_sum_L245
    exact ⟨g2.1.1, sp_erounded g2 (m12.fr g1 (by decide)) (fun r _ => hQ r h' f' ((FA.tr g1).mono (by decide)) g2)⟩
  · rw [U1, a12]
    exact mono2
  · unfold w_Exact_sum_L245
    exact ⟨g2.1.1, sp_erounded g2 (m12.fr g1 (by decide)) (fun r _ => hQ r h' f' ((FA.tr g1).mono (by decide)) g2)⟩
theorem sp_esum {x y : Int64} {Qr : Int64 → xb_H → Prop} (hk : eK ex rw_ f h) (hm : eM ex h) (hQ : ∀ (r : Int64) (h' : xb_H) (f' : Nat → Nat), eF ex rw_ eFA h h' → eK ex rw_ f' h' → Qr r h') : w_Exact_sum ex x y h Qr := by
  have k1 := hk.1
  have same : ∀ r, Qr r h := fun r => hQ r h f eF.rf hk
  have L45 : w_Exact_sum_L45 Qr ex x y h := by
    unfold w_Exact_sum_L45 w_Exact_sum_L58
    exact ⟨k1.1, sp_eisInfinite k1.1 (fun r _ => ⟨fun _ => same _, fun _ => same _⟩)⟩
  have L16 : w_Exact_sum_L16 Qr ex x y h := by
    unfold w_Exact_sum_L16 w_Exact_sum_L58
    exact ⟨k1.1, sp_eisInfinite k1.1 (fun r3 _ => ⟨fun _ => L45, fun _ => sp_eisInfinite k1.1 (fun r6 _ => ⟨fun _ => L45, fun _ => ⟨fun _ => L45, fun _ => sp_enoNumber k1.1 (fun r _ => same r)⟩⟩)⟩)⟩
  have L175 : ∀ a b, w_Exact_sum_L175 Qr a b ex h := fun a b => by
    unfold w_Exact_sum_L175
    exact ⟨k1.1, sp_esigned k1.1 (fun r _ => same r)⟩
  have L152 : w_Exact_sum_L152 Qr ex x y h := by
    unfold w_Exact_sum_L152 w_Exact_sum_L174
    exact ⟨k1.1, sp_eisMinus k1.1 (fun r3 _ _ => ⟨fun _ => L175 _ _, fun _ => sp_eisMinus k1.1 (fun r6 _ _ => ⟨fun _ => L175 _ _, fun _ => L175 _ _⟩)⟩)⟩
  have L102 : ∀ a b : Int64, (b &&& ((xb_lshl 1 ((xb_i h ex 5) - 1)) - 1)).toBitVec.toNat ≤ (a &&& ((xb_lshl 1 ((xb_i h ex 5) - 1)) - 1)).toBitVec.toNat → w_Exact_sum_L102 Qr ex x y a b h := by
    intro a b hab
    have L143 : ∀ t, w_Exact_sum_L143 Qr ex x y a b t h := fun t => by
      unfold w_Exact_sum_L143
      exact ⟨k1.1, sp_eisZero k1.1 (fun r3 _ _ => ⟨fun _ => sp_esumT hk hm hab hQ, fun _ => L152⟩)⟩
    have L122 : ∀ t, w_Exact_sum_L122 Qr ex x y a b t h := fun t => by
      unfold w_Exact_sum_L122
      exact ⟨k1.1, sp_esize k1.1 (fun r3 _ _ => sp_esize k1.1 (fun r5 _ _ => ⟨fun _ => L143 t, fun _ => ⟨fun _ => L152, fun _ => L143 t⟩⟩))⟩
    unfold w_Exact_sum_L102
    exact ⟨k1.1, sp_eisMinus k1.1 (fun r3 _ _ => sp_eisMinus k1.1 (fun r5 _ _ => ⟨fun _ => L122 _, fun _ => L122 _⟩))⟩
  have sz : ∀ z : Int64, (z &&& ((xb_lshl 1 ((xb_i h ex 5) - 1)) - 1)).toBitVec.toNat < 2 ^ 63 := by
    intro z
    rcases hm with ⟨m1, m2, m3⟩ | ⟨m1, m2, m3⟩
    · rw [m1, Z_and_mod z 31 (by decide)]
      omega
    · rw [m1, Z_and_mod z 63 (by decide)]
      omega
  unfold w_Exact_sum
  refine ⟨k1.1, sp_eisInfinite k1.1 (fun r3 _ => ⟨fun _ => L16, fun _ => sp_eisInfinite k1.1 (fun r6 _ => ⟨fun _ => ?_, fun _ => L16⟩)⟩)⟩
  refine sp_esize k1.1 (fun r9 e9 _ => sp_esize k1.1 (fun r11 e11 _ => ?_))
  have s1 := sz x
  have s2 := sz y
  rw [← e11] at s1
  rw [← e9] at s2
  have i1 := Z_nat r11
  have i2 := Z_rg r11
  have i3 := Z_nat r9
  have i4 := Z_rg r9
  unfold w_Exact_sum_L78 w_Exact_sum_L90
  refine ⟨fun e => ?_, fun e => ?_⟩
  · rw [Z_le] at e
    have : w_Exact_sum_L102 Qr ex x y x y h := L102 x y (by rw [← e11, ← e9]; omega)
    exact ⟨fun _ => ⟨fun _ => this, fun h9 => absurd rfl h9⟩, fun h9 => absurd rfl h9⟩
  · rw [Z_le] at e
    have : w_Exact_sum_L102 Qr ex x y y x h := L102 y x (by rw [← e11, ← e9]; omega)
    exact ⟨fun h9 => absurd h9 (by decide), fun _ => ⟨fun h9 => absurd h9 (by decide), fun _ => this⟩⟩
theorem sp_efloated {w : Int32} {x y : Int64} {Qr : Int64 → xb_H → Prop} (hk : eK ex rw_ f h) (hm : eM ex h) (hQ : ∀ (r : Int64) (h' : xb_H) (f' : Nat → Nat), eF ex rw_ eFA h h' → eK ex rw_ f' h' → Qr r h') : w_Exact_floated ex w x y h Qr := by
  have k1 := hk.1
  have same : ∀ r, Qr r h := fun r => hQ r h f eF.rf hk
  have L236 : ∀ a, w_Exact_floated_L236 Qr x y a ex h := fun a => by
    unfold w_Exact_floated_L236
    exact ⟨k1.1, sp_elesser k1.1 (fun r _ => same r)⟩
  have L92 : w_Exact_floated_L92 Qr ex h := by
    unfold w_Exact_floated_L92
    exact ⟨k1.1, sp_enoNumber k1.1 (fun r _ => same r)⟩
  have L97 : w_Exact_floated_L97 Qr ex w x y h := by
    unfold w_Exact_floated_L97
    have W : ∀ a, xb_k h ex = 10 ∧ w_Exact_whole ex a x h (fun r4 h3 => xb_ext h h3 → Qr r4 h3) := fun a => ⟨k1.1, sp_ewhole hk hm (fun r h' f' g1 g2 _ => hQ r h' f' g1 g2)⟩
    have S : ∀ z, xb_k h ex = 10 ∧ w_Exact_sum ex x z h (fun r4 h3 => xb_ext h h3 → Qr r4 h3) := fun z => ⟨k1.1, sp_esum hk hm (fun r h' f' g1 g2 _ => hQ r h' f' g1 g2)⟩
    exact ⟨fun _ => W _, fun _ => W _, fun _ => W _, fun _ => W _, fun _ => ⟨k1.1, sp_eroot hk hm (fun r h' f' g1 g2 _ => hQ r h' f' g1 g2)⟩, fun _ => S _, fun _ => S _, fun _ => ⟨k1.1, sp_eproduct hk hm (fun r h' f' g1 g2 _ => hQ r h' f' g1 g2)⟩, fun _ => ⟨k1.1, sp_equotient hk hm (fun r h' f' g1 g2 _ => hQ r h' f' g1 g2)⟩, fun _ _ _ _ _ _ _ _ _ => ⟨fun _ => L236 _, fun _ => L236 _⟩⟩
  unfold w_Exact_floated
  exact ⟨fun _ => ⟨k1.1, sp_esize k1.1 (fun r _ _ => same r)⟩, fun _ => ⟨k1.1, same _⟩, fun _ => ⟨k1.1, sp_esize k1.1 (fun r _ _ => sp_eisMinus k1.1 (fun r2 _ _ => sp_esigned k1.1 (fun r3 _ => same r3)))⟩, fun _ _ _ => ⟨k1.1, sp_eisNone k1.1 (fun r _ => ⟨fun _ => L92, fun _ => ⟨fun _ => L97, fun _ => sp_eisNone k1.1 (fun r2 _ => ⟨fun _ => L97, fun _ => L92⟩)⟩⟩)⟩⟩
theorem sp_eturnedInto {x1 : Int32} {o : Nat} {x : Int64} {Qr : Int64 → xb_H → Prop} (hx : x1.toInt = o) (h1 : 69 ≤ o) (h2' : o < 192) (hk : eK ex rw_ f h) (hQ : ∀ (r : Int64) (h' : xb_H) (f' : Nat → Nat), eF ex rw_ eFA h h' → eK ex rw_ f' h' → Qr r h') : w_Exact_turnedInto ex x1 x h Qr := by
  have k1 := hk.1
  have same : ∀ r, Qr r h := fun r => hQ r h f eF.rf hk
  have L264 : ∀ v : Int32, (v = 32 ∨ v = 64) → w_Exact_turnedInto_L264 Qr ex x1 x v ex h := fun v hv => by
    unfold w_Exact_turnedInto_L264 w_Exact_turnedInto_L283
    refine ⟨k1.1, sp_eformat hk hv (fun h2 f2 k2 m2 _ => ?_)⟩
    have R : ∀ w : Int32, (w = 32 ∨ w = 64) → xb_k h2 ex = 10 ∧ w_Exact_reformed ex x w h2 (fun r3 h3 => xb_ext h2 h3 → Qr r3 h3) := fun w hw => ⟨k2.1.1, sp_ereformed k2 m2 hw (fun r h' f' g1 g2 _ => hQ r h' f' ((f2.tr g1).mono (by decide)) g2)⟩
    exact ⟨fun _ => R 64 (.inr rfl), fun _ => R 32 (.inl rfl)⟩
  have L249 : w_Exact_turnedInto_L249 Qr ex x1 x h := by
    unfold w_Exact_turnedInto_L249
    exact ⟨fun _ => L264 _ (.inl rfl), fun _ => L264 _ (.inr rfl)⟩
  have L211 : ∀ t, w_Exact_turnedInto_L211 Qr ex x1 x t h := fun t => by
    unfold w_Exact_turnedInto_L211
    refine ⟨k1.1, sp_eformat hk (.inr rfl) (fun h2 f2 k2 m2 _ => ?_)⟩
    have R : ∀ w : Int64, w_Exact_turnedInto_L235 Qr t w ex h2 := fun w => by
      unfold w_Exact_turnedInto_L235 w_Exact_turnedInto_L245
      exact ⟨fun _ => ⟨k2.1.1, sp_efloating k2 m2 (fun r h' f' g1 g2 _ => hQ r h' f' ((f2.tr g1).mono (by decide)) g2)⟩, fun _ => ⟨k2.1.1, sp_efloating k2 m2 (fun r h' f' g1 g2 _ => hQ r h' f' ((f2.tr g1).mono (by decide)) g2)⟩⟩
    exact ⟨fun _ => R _, fun _ => sp_ewithSign (fun r _ => R r)⟩
  have L176 : ∀ t, w_Exact_turnedInto_L176 Qr ex x1 x t h := fun t => by
    unfold w_Exact_turnedInto_L176 w_Exact_turnedInto_L204
    refine ⟨k1.1, sp_eformat hk (.inl rfl) (fun h2 f2 k2 m2 _ => ?_)⟩
    have R : ∀ w : Int64, w_Exact_turnedInto_L205 Qr t w ex h2 := fun w => by
      unfold w_Exact_turnedInto_L205
      exact ⟨k2.1.1, sp_efloating k2 m2 (fun r h' f' g1 g2 _ => hQ r h' f' ((f2.tr g1).mono (by decide)) g2)⟩
    exact ⟨fun _ => R _, fun _ => ⟨fun _ => R _, fun _ => sp_ewithSign (fun r _ => R r)⟩⟩
  have L160 : ∀ t, w_Exact_turnedInto_L160 Qr x t h := fun t => by
    unfold w_Exact_turnedInto_L160 w_Exact_turnedInto_L175
    exact ⟨fun _ => same _, fun _ => sp_ewithSign (fun r _ => same r)⟩
  have L82 : ∀ t, w_Exact_turnedInto_L82 Qr ex x1 x t h := fun t => by
    unfold w_Exact_turnedInto_L82 w_Exact_turnedInto_L287
    exact ⟨fun _ => L160 t, fun _ => L160 t, fun _ => same _, fun _ => same _, fun _ => same _, fun _ => same _, fun _ => L176 t, fun _ => L176 t, fun _ => L176 t, fun _ => L176 t, fun _ => L249, fun _ => L211 t, fun _ => L211 t, fun _ => L211 t, fun _ => L211 t, fun _ => L249, fun _ _ _ _ _ _ _ _ _ _ _ _ _ _ _ _ => same _⟩
  have L57 : ∀ (t v : Int32), (v = 32 ∨ v = 64) → w_Exact_turnedInto_L57 Qr ex x1 x t v ex h := fun t v hv => by
    unfold w_Exact_turnedInto_L57 w_Exact_turnedInto_L76
    refine ⟨k1.1, sp_eformat hk hv (fun h2 f2 k2 m2 _ => ?_)⟩
    have R : ∀ w : Int32, xb_k h2 ex = 10 ∧ w_Exact_cut ex x w t h2 (fun r3 h3 => xb_ext h2 h3 → Qr r3 h3) := fun w => ⟨k2.1.1, sp_ecut k2 m2 (fun r h' f' g1 g2 _ => hQ r h' f' ((f2.tr g1).mono (by decide)) g2)⟩
    exact ⟨fun _ => R 64, fun _ => R 32⟩
  have L41 : ∀ t, w_Exact_turnedInto_L41 Qr ex x1 x t h := fun t => by
    unfold w_Exact_turnedInto_L41
    exact sp_efirst hx h1 h2' (fun r _ _ => ⟨fun _ => L57 t _ (.inr rfl), fun _ => L57 t _ (.inl rfl)⟩)
  have L27 : ∀ t, w_Exact_turnedInto_L27 Qr ex x1 x t h := fun t => by
    unfold w_Exact_turnedInto_L27
    exact ⟨fun _ => L82 t, fun _ => ⟨fun _ => L82 t, fun _ => L41 t⟩⟩
  have L11 : ∀ t, w_Exact_turnedInto_L11 Qr ex x1 x t h := fun t => by
    unfold w_Exact_turnedInto_L11
    exact ⟨fun _ => L27 t, fun _ => ⟨fun _ => L41 t, fun _ => L27 t⟩⟩
  unfold w_Exact_turnedInto
  exact ⟨fun _ => L11 _, fun _ => L11 _⟩
theorem sp_eanswer {x1 : Int32} {o : Nat} {x y : Int64} {Qr : Int64 → xb_H → Prop} (hx : x1.toInt = o) (h1 : 69 ≤ o) (h2' : o < 192) (hk : eK ex rw_ f h) (hQ : ∀ (r : Int64) (h' : xb_H) (f' : Nat → Nat), eF ex rw_ eFA h h' → eK ex rw_ f' h' → Qr r h') : w_Exact_answer ex x1 x y h Qr := by
  have k1 := hk.1
  have same : ∀ r, Qr r h := fun r => hQ r h f eF.rf hk
  have L173 : w_Exact_answer_L173 Qr x h := by
    unfold w_Exact_answer_L173 w_Exact_answer_L184
    exact ⟨fun _ => same _, fun _ => same _⟩
  have L199 : ∀ a b, w_Exact_answer_L199 Qr x1 x y a b h := fun a b => by
    have R : ∀ c d, w_Exact_answer_L213 Qr x y c d h := fun c d => by
      unfold w_Exact_answer_L213 w_Exact_answer_L227
      exact sp_eisSo (fun r _ => ⟨fun _ => same _, fun _ => same _⟩)
    unfold w_Exact_answer_L199
    exact ⟨fun _ => R _ _, fun _ => R _ _⟩
  have L127 : ∀ v : Int32, (v = 32 ∨ v = 64) → w_Exact_answer_L127 Qr ex x1 x y v ex h := fun v hv => by
    unfold w_Exact_answer_L127
    refine ⟨k1.1, sp_eformat hk hv (fun h2 f2 k2 m2 _ => ?_)⟩
    have R : ∀ c d, w_Exact_answer_L145 Qr x y c d ex h2 := fun c d => by
      unfold w_Exact_answer_L145 w_Exact_answer_L160
      exact ⟨k2.1.1, sp_ecompared k2.1.1 (fun r _ => ⟨fun _ => hQ _ h2 f (f2.mono (by decide)) k2, fun _ => hQ _ h2 f (f2.mono (by decide)) k2⟩)⟩
    exact ⟨fun _ => R _ _, fun _ => R _ _⟩
  have L36 : ∀ v : Int32, (v = 32 ∨ v = 64) → w_Exact_answer_L36 Qr ex x1 x y v ex h := fun v hv => by
    unfold w_Exact_answer_L36
    refine ⟨k1.1, sp_eformat hk hv (fun h2 f2 k2 m2 _ => ?_)⟩
    have R : ∀ c d, w_Exact_answer_L57 Qr x y c d ex h2 := fun c d => by
      unfold w_Exact_answer_L57
      exact ⟨k2.1.1, sp_efloated k2 m2 (fun r h' f' g1 g2 _ => hQ r h' f' ((f2.tr g1).mono (by decide)) g2)⟩
    exact ⟨fun _ => R _ _, fun _ => R _ _⟩
  have RC : ∀ (a w : Int32), (w = 32 ∨ w = 64) → xb_k h ex = 10 ∧ w_Exact_reckoned ex a w x y h (fun r12 h11 => xb_ext h h11 → w_Exact_answer_L106 Qr r12 h11) := fun a w hw => by
    unfold w_Exact_answer_L106
    exact ⟨k1.1, sp_ereckoned hk hw (fun r h' g1 g2 _ => hQ r h' f (g1.mono (by decide)) g2)⟩
  unfold w_Exact_answer
  exact ⟨fun _ => ⟨fun _ => ⟨fun _ => ⟨fun _ => ⟨fun _ => L173, fun _ => ⟨fun _ => ⟨fun _ => L199 _ _, fun _ => L199 _ _⟩, fun _ => L173⟩⟩, fun _ => ⟨fun _ => L127 _ (.inr rfl), fun _ => L127 _ (.inl rfl)⟩⟩, fun _ => ⟨fun _ => RC _ _ (.inr rfl), fun _ => RC _ _ (.inl rfl)⟩⟩, fun _ => ⟨fun _ => L36 _ (.inr rfl), fun _ => L36 _ (.inl rfl)⟩⟩, fun _ => ⟨k1.1, sp_eturnedInto hx h1 h2' hk (fun r h' f' g1 g2 _ => hQ r h' f' g1 g2)⟩⟩
theorem sp_erun {x1 : Int32} {o : Nat} {x y : Int64} {Qr : Int64 → xb_H → Prop} (hx : x1.toInt = o) (h1 : 69 ≤ o) (h2' : o < 192) (hk : eK ex rw_ f h) (hQ : ∀ (r : Int64) (h' : xb_H) (f' : Nat → Nat), eF ex rw_ eFA h h' → eK ex rw_ f' h' → Qr r h') : w_Exact_run ex x1 x y h Qr := by
  have L18 : ∀ v : Int32, w_Exact_run_L18 Qr ex x1 x y v ex h := fun v => by
    unfold w_Exact_run_L18
    refine ⟨hk.1.1, fun h2 e2 => ?_⟩
    have f2 : eF ex rw_ [0] h h2 := by rw [e2]; exact eF.I hk.1
    have k2 : eK ex rw_ f h2 := by rw [e2]; exact hk.I (by omega) (by omega) (by omega)
    have L70 : ∀ a b, w_Exact_run_L70 Qr ex x1 a b h2 := fun a b => by
      unfold w_Exact_run_L70 w_Exact_run_L112
      refine ⟨k2.1.1, sp_eanswer hx h1 h2' k2 (fun r h' f' g1 g2 _ => ?_)⟩
      have fin : ∀ z, Qr z h' := fun z => hQ z h' f' ((f2.tr g1).mono (by decide)) g2
      exact ⟨fun _ => sp_eresult hx h1 h2' (fun r6 _ _ => ⟨fun _ => fin _, fun _ => fin _⟩), fun _ => fin _⟩
    have L48 : ∀ a b, w_Exact_run_L48 Qr ex x1 a b h2 := fun a b => by
      unfold w_Exact_run_L48
      exact sp_efirst hx h1 h2' (fun r _ _ => ⟨fun _ => L70 _ _, fun _ => L70 _ _⟩)
    exact ⟨k2.1.1, fun _ => sp_efirst hx h1 h2' (fun r _ _ => ⟨fun _ => L48 _ _, fun _ => L48 _ _⟩), fun _ => hQ 0 h2 f (f2.mono (by decide)) k2⟩
  unfold w_Exact_run
  exact sp_eisIn (fun r _ _ => ⟨fun _ => L18 _, fun _ => L18 _⟩)
end EX8

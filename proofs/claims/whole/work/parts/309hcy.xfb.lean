-- equality, floating point: the reference's root (its method)
section XFB
variable {ex rw_ p b a : Nat} {f : Nat → Nat} {h h' : xb_H} {F : List Nat} {τ : Int} {x y : Int64}
theorem sq_big {Z n : Nat} (h : 2 ^ n * 2 ^ n ≤ Z) : 2 ^ (n + 1) ≤ sqS Z := by
  have h1 := (isq_s Z).2
  have h2 : 2 ^ n ≤ isq Z := Nat.le_of_lt_succ (sq_lt (Nat.lt_of_le_of_lt h h1))
  unfold sqS
  rw [Nat.pow_succ]
  omega
theorem pw_44 (n : Nat) : 4 ^ n = 2 ^ n * 2 ^ n := by rw [← Nat.mul_pow]
theorem rt_e {R A j : Nat} {u : Int} (hb : fpb τ p b) (hA : A = R * 4 ^ j) (hA1 : 2 ^ 52 ≤ A) (R0 : 0 < R) : rnF p b (sqS (A * 4 ^ 30)) (u - j - 31) = rnF p b (sqS (R * (2 ^ 57 * 2 ^ 57))) (u - 58) := by
  have hp : (p = 24 ∧ b = 127) ∨ (p = 53 ∧ b = 1023) := by unfold fpb at hb; omega
  have e1 : A * 4 ^ 30 = R * (2 ^ (j + 30) * 2 ^ (j + 30)) := by rw [hA, Nat.mul_assoc, ← Nat.pow_add, pw_44]
  have pl : ∀ n, 54 ≤ n → 2 ^ (p + 2) ≤ 2 ^ (n + 1) := fun n hn => Nat.pow_le_pow_right (by decide) (by omega)
  have b1 : 2 ^ (p + 2) ≤ sqS (R * (2 ^ (j + 30) * 2 ^ (j + 30))) := by
    refine Nat.le_trans (pl 56 (by decide)) (sq_big ?_)
    rw [← e1]
    exact Nat.le_trans (by decide) (Nat.mul_le_mul_right (4 ^ 30) hA1)
  have b2 : 2 ^ (p + 2) ≤ sqS (R * (2 ^ 57 * 2 ^ 57)) := Nat.le_trans (pl 57 (by decide)) (sq_big (Nat.le_mul_of_pos_left _ R0))
  have k := rnF_sq (w := u) hb b1 b2
  rw [e1, show u - (j : Int) - 31 = u - ((j + 30 : Nat) : Int) - 1 by omega, k, show u - ((57 : Nat) : Int) - 1 = u - 58 by omega]
theorem rt_w {x : Int32} {u : Int} {j m : Nat} (h1 : x.toInt = 2 * u - 2 * j) (h2 : -1400 + 2 * (m : Int) ≤ x.toInt) (h3 : x.toInt ≤ 1000) : ∃ P0 : Nat, 2200 + (x / 2).toInt = P0 ∧ 1000 ≤ P0 ∧ P0 ≤ 3000 ∧ u - j - 31 = (P0 : Int) - 2231 := by
  have i8 := z_half x
  exact ⟨(2200 + (x / 2).toInt).toNat, by omega, by omega, by omega, by omega⟩
theorem rt_i {x : Int64} {A : Nat} (hx : x.toBitVec.toNat = A) (hA : A < 2 ^ 54) : (xb_lshr x 52 = 0 ↔ A < 2 ^ 52) ∧ (xb_lshl x 2).toBitVec.toNat = A * 4 % 18446744073709551616 := by
  have p54 : (2 : Nat) ^ 54 = 18014398509481984 := by decide
  have p52 : (2 : Nat) ^ 52 = 4503599627370496 := by decide
  refine ⟨?_, by rw [Z_shl (k := 2) rfl (by decide), hx]⟩
  rw [Z_eq, Z_sar (k := 52) rfl (by decide), Z_nn hx (by omega), show (0 : Int64).toInt = 0 from rfl]
  omega
theorem rt_4 {A : Nat} (h : A < 2 ^ 52) : A * 4 % 18446744073709551616 = A * 4 ∧ A * 4 < 2 ^ 54 := by
  have p54 : (2 : Nat) ^ 54 = 18014398509481984 := by decide
  have p52 : (2 : Nat) ^ 52 = 4503599627370496 := by decide
  omega
theorem xr_eroot67 {R : Nat} {u : Int} {Qr : Int64 → xb_H → Prop} (hb : fpb τ p b) (R0 : 0 < R) (h : xb_H) (hQ : ∀ (r : Int64) (h' : xb_H) (f' : Nat → Nat), eF ex rw_ eFB h h' → eK ex rw_ f' h' → r.toBitVec.toNat = rnF p b (sqS (R * (2 ^ 57 * 2 ^ 57))) (u - 58) → Qr r h') :
    ∀ (m A j : Nat) (h2 : xb_H), (xb_l h2 ex 9).toBitVec.toNat = A → A = R * 4 ^ j → A < 2 ^ 54 → 2 ^ 52 ≤ A * 4 ^ m → (xb_i h2 ex 10).toInt = 2 * u - 2 * j → -1400 + 2 * (m : Int) ≤ (xb_i h2 ex 10).toInt → (xb_i h2 ex 10).toInt ≤ 1000 → eK ex rw_ f h2 → eP ex τ h2 → eF ex rw_ [8, 9, 10] h h2 → w_Exact_root_L67 Qr (m + 1) ex h2 := by
  have fin : ∀ (m A j : Nat) (h2 : xb_H), (xb_l h2 ex 9).toBitVec.toNat = A → A = R * 4 ^ j → A < 2 ^ 54 → 2 ^ 52 ≤ A → (xb_i h2 ex 10).toInt = 2 * u - 2 * j → -1400 + 2 * (m : Int) ≤ (xb_i h2 ex 10).toInt → (xb_i h2 ex 10).toInt ≤ 1000 → eK ex rw_ f h2 → eP ex τ h2 → eF ex rw_ [8, 9, 10] h h2 → w_Exact_clear ex h2 (fun (h3 : xb_H) => xb_ext h2 h3 → (∃ n8 : Nat, w_Exact_root_L115 Qr n8 ex 0 0 26 h3)) := by
    intro m A j h2 e1 e4 e2 e3 w1 w2 w3 k2 m2 f2
    obtain ⟨P0, q1, q2, q3, q4⟩ := rt_w w1 w2 w3
    refine xr_eclear k2 (fun h3 f3 k3 z3 _ => ⟨57 + 1, ?_⟩)
    have i9 : xb_i h3 ex 10 = xb_i h2 ex 10 := f3.2.2.2.2.2.1 10 (by decide)
    have z0 : A * 4 ^ 30 / 4 ^ 57 = 0 * 0 + 0 := by
      have h1 : A * 4 ^ 30 < 2 ^ 54 * 4 ^ 30 := Nat.mul_lt_mul_of_pos_right e2 (Nat.pow_pos (by decide))
      exact Nat.div_eq_of_lt (Nat.lt_of_lt_of_le h1 (by decide))
    refine xr_erootL (A := A) (e := u - j - 31) hb q2 q3 h3 (by rw [i9]; exact q1) e3 e2 q4 (fun r h' f' g1 g2 g3 => hQ r h' f' (((f2.tr f3).tr g1).mono (by decide)) g2 ?_) 57 0 0 26 0 0 _ h3 rfl (Nat.le_refl _) rfl rfl (Nat.le_refl _) z0 k3 (m2.fr f3 (by decide)) ?_ eU_zero eF.rf
    · rw [g3, rt_e hb e4 e3 R0]
    · rw [f3.2.2.2.2.2.2 (by decide)]
      exact e1
  intro m
  induction m with
  | zero =>
    intro A j h2 e1 e4 e2 e3 w1 w2 w3 k2 m2 f2
    rw [Nat.pow_zero, Nat.mul_one] at e3
    obtain ⟨i1, i2⟩ := rt_i e1 e2
    unfold w_Exact_root_L67
    rw [i1]
    exact ⟨k2.1.1, fun _ => fin 0 A j h2 e1 e4 e2 e3 w1 w2 w3 k2 m2 f2, fun e => absurd e3 (Nat.not_le.mpr e)⟩
  | succ m ih =>
    intro A j h2 e1 e4 e2 e3 w1 w2 w3 k2 m2 f2
    obtain ⟨i1, i2⟩ := rt_i e1 e2
    unfold w_Exact_root_L67
    rw [i1]
    refine ⟨k2.1.1, fun e => fin (m + 1) A j h2 e1 e4 e2 (Nat.not_lt.mp e) w1 w2 w3 k2 m2 f2, fun e h5 e5 h6 e6 => ?_⟩
    obtain ⟨t1, t2⟩ := rt_4 e
    have f5 : eF ex rw_ [9] h2 h5 := by rw [e5]; exact eF.Lx k2.1
    have k5 : eK ex rw_ f h5 := by rw [e5]; exact k2.Lx
    have f6 : eF ex rw_ [10] h5 h6 := by rw [e6]; exact eF.I k5.1
    have k6 : eK ex rw_ f h6 := by rw [e6]; exact k5.I (by decide) (by decide) (by decide)
    have w5 : xb_i h5 ex 10 = xb_i h2 ex 10 := f5.2.2.2.2.2.1 10 (by decide)
    have w6 : (xb_i h6 ex 10).toInt = (xb_i h2 ex 10).toInt - 2 := by
      rw [e6, xh_iI, if_pos rfl, xh_up, if_pos rfl, w5, z_sub, show (2 : Int32).toInt = 2 from rfl]
      clear e3 e2 e
      omega
    refine ih (A * 4) (j + 1) h6 ?_ (by rw [e4, Nat.pow_succ, Nat.mul_assoc]) t2 (by rw [Nat.mul_assoc, ← Nat.pow_succ']; exact e3) ?_ ?_ ?_ k6 ((m2.fr f5 (by decide)).fr f6 (by decide)) (((f2.tr f5).tr f6).mono (by decide))
    · rw [e6, xh_lI, e5, xh_lL, if_pos rfl, xh_up, if_pos rfl, i2, t1]
    · clear e3 e2 e t2
      omega
    · clear e3 e2 e t2
      omega
    · clear e3 e2 e t2
      omega
theorem xr_eroot {Qr : Int64 → xb_H → Prop} (hk : eK ex rw_ f h) (hm : eP ex τ h) (hb : fpb τ p b) (hx : x.toBitVec.toNat = a) (wx : fW p b a) (nx : fmg p b a ≤ fI_ p b)
    (hQ : ∀ (r : Int64) (h' : xb_H) (f' : Nat → Nat), eF ex rw_ eFB h h' → eK ex rw_ f' h' → r.toBitVec.toNat = frt p b a → Qr r h') : w_Exact_root ex x h Qr := by
  have k1 := hk.1.1
  have same : ∀ r : Int64, r.toBitVec.toNat = frt p b a → Qr r h := fun r => hQ r h f eF.rf hk
  unfold w_Exact_root
  refine ⟨k1, xr_eisZero k1 hm hb hx (fun r3 _ c3 _ => ⟨fun e3 => xr_eisMinus k1 hm hb hx wx (fun r6 _ c6 _ => ⟨fun e6 => xr_eisInfinite k1 hm hb hx (fun r9 _ c9 _ => ⟨fun e9 => ?_, fun e9 => same _ ?_⟩), fun e6 => xr_enoNumber k1 hm hb (fun r hr _ => same r ?_)⟩), fun e3 => same _ ?_⟩)⟩
  · have z := c3.mp e3
    have pos := c6.mp e6
    have ni := c9.mp e9
    have val : frt p b a = rnF p b (sqS (fra p b a * (2 ^ 57 * 2 ^ 57))) (fwt p b a / 2 - 58) := by
      unfold frt
      rw [if_neg z, if_neg (fun h9 => h9.elim (fun h8 => absurd nx (Nat.not_le.mpr h8)) (fun h8 => absurd pos (Nat.not_lt.mpr h8))), if_neg ni]
    have R0 : 0 < fra p b a := Nat.mul_pos (fam_p hb z).1 (Nat.pow_pos (by decide))
    have rA := fwt_r (a := a) hb
    have q67 := xr_eroot67 (ex := ex) (rw_ := rw_) (f := f) (R := fra p b a) (u := fwt p b a / 2) (Qr := Qr) hb R0 h (fun r h' f' g1 g2 g3 => hQ r h' f' g1 g2 (by rw [val]; exact g3))
    have f53 := fam_53 hb z
    have fp := (fam_p hb z).1
    refine xr_esplit hk hm hb hx wx (fun h11 f11 k11 m11 a11 w11 _ _ _ => ?_)
    have od : (xb_i h11 ex 10 &&& 1) = 0 ↔ fwt p b a % 2 = 0 := by
      rw [z_eq, z_mask _ 1 rfl (by decide), w11, show (0 : Int32).toInt = 0 from rfl]
      exact Iff.rfl
    rw [od]
    refine ⟨fun e => ⟨27 + 1, q67 27 (fam p b a) 0 h11 a11 ?_ (Nat.lt_trans f53 (by decide)) ?_ ?_ ?_ ?_ k11 m11 f11⟩, fun e h14 e14 h15 e15 => ⟨27 + 1, ?_⟩⟩
    · unfold fra
      rw [e]
      show _ = fam p b a * 1 * 1
      rw [Nat.mul_one, Nat.mul_one]
    · exact Nat.le_trans (by decide) (Nat.mul_le_mul_right (4 ^ 27) fp)
    · rw [w11]
      clear f53 fp
      omega
    · rw [w11]
      clear f53 fp
      omega
    · rw [w11]
      clear f53 fp
      omega
    · have f5 : eF ex rw_ [9] h11 h14 := by rw [e14]; exact eF.Lx k11.1
      have k5 : eK ex rw_ f h14 := by rw [e14]; exact k11.Lx
      have f6 : eF ex rw_ [10] h14 h15 := by rw [e15]; exact eF.I k5.1
      have k6 : eK ex rw_ f h15 := by rw [e15]; exact k5.I (by decide) (by decide) (by decide)
      have w5 : xb_i h14 ex 10 = xb_i h11 ex 10 := f5.2.2.2.2.2.1 10 (by decide)
      have w6 : (xb_i h15 ex 10).toInt = fwt p b a - 1 := by
        rw [e15, xh_iI, if_pos rfl, xh_up, if_pos rfl, w5, z_sub, w11, show (1 : Int32).toInt = 1 from rfl]
        clear f53 fp
        omega
      have e1 : fwt p b a % 2 = 1 := by
        clear f53 fp
        omega
      have l2 : fam p b a * 2 < 2 ^ 54 := by
        have p54 : (2 : Nat) ^ 54 = 2 ^ 53 * 2 := by decide
        rw [p54]
        exact Nat.mul_lt_mul_of_pos_right f53 (by decide)
      refine q67 27 (fam p b a * 2) 0 h15 ?_ ?_ l2 ?_ ?_ ?_ ?_ k6 ((m11.fr f5 (by decide)).fr f6 (by decide)) (((f11.tr f5).tr f6).mono (by decide))
      · rw [e15, xh_lI, e14, xh_lL, if_pos rfl, xh_up, if_pos rfl, Z_shl (k := 1) rfl (by decide), a11]
        exact Nat.mod_eq_of_lt (Nat.lt_trans l2 (by decide))
      · unfold fra
        rw [e1]
        show _ = fam p b a * 2 ^ 1 * 1
        rw [Nat.mul_one, Nat.pow_one]
      · exact Nat.le_trans (by decide) (Nat.mul_le_mul_right (4 ^ 27) (Nat.mul_pos fp (show 0 < 2 by decide)))
      · rw [w6]
        clear f53 fp l2
        omega
      · rw [w6]
        clear f53 fp l2
        omega
      · rw [w6]
        clear f53 fp l2
        omega
  · have z := c3.mp e3
    have pos := c6.mp e6
    have inf : fmg p b a = fI_ p b := Classical.byContradiction fun h9 => e9 (c9.mpr h9)
    unfold frt
    rw [if_neg z, if_neg (fun h9 => h9.elim (fun h8 => absurd nx (Nat.not_le.mpr h8)) (fun h8 => absurd pos (Nat.not_lt.mpr h8))), if_pos inf]
    exact hx
  · have z := c3.mp e3
    unfold frt
    rw [if_neg z, if_pos (.inr (Nat.not_lt.mp fun h9 => e6 (c6.mpr h9)))]
    exact hr
  · have z : fmg p b a = 0 := Classical.byContradiction fun h9 => e3 (c3.mpr h9)
    unfold frt
    rw [if_pos z]
    exact hx
end XFB

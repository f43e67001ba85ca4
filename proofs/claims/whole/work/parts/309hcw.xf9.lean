-- equality, floating point: the reference's quotient (its method)
section XF9
variable {ex rw_ p b a ax ay A B : Nat} {f : Nat → Nat} {h h' : xb_H} {F : List Nat} {τ : Int} {x y : Int64}
theorem qt_p {wx wy : Int} (h1 : -1074 ≤ wx ∧ wx ≤ 980) (h2 : -1074 ≤ wy ∧ wy ≤ 980) : ∃ P0 : Nat, (2200 : Int) + (wx - wy) = P0 ∧ 111 ≤ P0 ∧ P0 ≤ 4300 ∧ wx - wy - 111 = (P0 : Int) - 2311 := ⟨(2200 + (wx - wy)).toNat, by omega, by omega, by omega, by omega⟩
theorem qt_w {v17 v20 u : Int32} {wx wy : Int} {P0 : Nat} (h1 : -1074 ≤ wx ∧ wx ≤ 980) (h2 : -1074 ≤ wy ∧ wy ≤ 980) (hP : (2200 : Int) + (wx - wy) = P0) (e1 : v17.toInt = wy) (e2 : u.toInt = wx) (e3 : v20 = -v17 + u) : 2200 + v20.toInt = (P0 : Int) := by
  have : (-v17).toInt = -wy := by
    rw [z_neg, e1]
    omega
  rw [e3, z_add, this, e2]
  omega
theorem qt_z {X : Nat} {c : Nat} (hX : X < 2 ^ 53) : X * 2 ^ 110 / 2 ^ 163 = c * 0 + 0 := by
  have h1 : X * 2 ^ 110 < 2 ^ 53 * 2 ^ 110 := Nat.mul_lt_mul_of_pos_right hX (Nat.pow_pos (by decide))
  rw [← Nat.pow_add] at h1
  exact Nat.div_eq_of_lt h1
theorem qt_u {i : Nat} : eU (fun _ => 0) 0 4400 = 2 ^ i * (2 ^ 163 * 0) := by
  exact eU_zero
theorem xr_equotient {Qr : Int64 → xb_H → Prop} (hk : eK ex rw_ f h) (hm : eP ex τ h) (hb : fpb τ p b) (hx : x.toBitVec.toNat = ax) (hy : y.toBitVec.toNat = ay) (wx : fW p b ax) (wy : fW p b ay)
    (hQ : ∀ (r : Int64) (h' : xb_H) (f' : Nat → Nat), eF ex rw_ eFB h h' → eK ex rw_ f' h' → r.toBitVec.toNat = fdv p b ax ay → Qr r h') : w_Exact_quotient ex x y h Qr := by
  have k1 := hk.1.1
  have same : ∀ r : Int64, r.toBitVec.toNat = fdv p b ax ay → Qr r h := fun r => hQ r h f eF.rf hk
  have L52 : ((fmg p b ax = fI_ p b ∧ fmg p b ay = fI_ p b) ∨ (fmg p b ax = 0 ∧ fmg p b ay = 0)) → w_Exact_quotient_L52 Qr ex h := fun c1 => by
    unfold w_Exact_quotient_L52
    refine ⟨k1, xr_enoNumber k1 hm hb (fun r hr _ => same r ?_)⟩
    unfold fdv
    rw [if_pos c1]
    exact hr
  have L18 : ∀ s : Int32, (s = 0 ↔ fsg p b ax = fsg p b ay) → w_Exact_quotient_L18 Qr ex x y s h := fun s hs => by
    have L96 : ¬ ((fmg p b ax = fI_ p b ∧ fmg p b ay = fI_ p b) ∨ (fmg p b ax = 0 ∧ fmg p b ay = 0)) → ¬ (fmg p b ax = fI_ p b ∨ fmg p b ay = 0) → (fmg p b ax = 0 ∨ fmg p b ay = fI_ p b) → w_Exact_quotient_L96 Qr ex s h := fun c0 c1 c2 => by
      unfold w_Exact_quotient_L96
      refine ⟨k1, xr_esigned k1 hm hb (n := 0) rfl (fun r hr _ => same r ?_)⟩
      unfold fdv
      rw [if_neg c0, if_neg c1, if_pos c2, hr, Nat.or_zero, sg_fsp hs]
    have L73 : ¬ ((fmg p b ax = fI_ p b ∧ fmg p b ay = fI_ p b) ∨ (fmg p b ax = 0 ∧ fmg p b ay = 0)) → (fmg p b ax = fI_ p b ∨ fmg p b ay = 0) → w_Exact_quotient_L73 Qr ex s h := fun c0 c1 => by
      unfold w_Exact_quotient_L73
      refine ⟨k1, xr_einfinite k1 hm hb (fun r hr _ => same r ?_)⟩
      unfold fdv
      rw [if_neg c0, if_pos c1, hr, sg_fsp hs]
    have L57 : ¬ ((fmg p b ax = fI_ p b ∧ fmg p b ay = fI_ p b) ∨ (fmg p b ax = 0 ∧ fmg p b ay = 0)) → w_Exact_quotient_L57 Qr ex x y s h := fun c0 => by
      unfold w_Exact_quotient_L57
      refine ⟨k1, xr_eisInfinite k1 hm hb hx (fun r3 _ c3 _ => ⟨fun e => L73 c0 (.inl (Classical.byContradiction fun h9 => e (c3.mpr h9))), fun e3 => xr_eisZero k1 hm hb hy (fun r6 _ c6 _ => ⟨fun e6 => ?_, fun e => L73 c0 (.inr (Classical.byContradiction fun h9 => e (c6.mpr h9)))⟩)⟩)⟩
      have n1 : ¬ (fmg p b ax = fI_ p b ∨ fmg p b ay = 0) := fun h9 => h9.elim (c3.mp e3) (c6.mp e6)
      refine xr_eisInfinite k1 hm hb hy (fun r9 _ c9 _ => ⟨fun e => L96 c0 n1 (.inr (Classical.byContradiction fun h9 => e (c9.mpr h9))), fun e9 => xr_eisZero k1 hm hb hx (fun r12 _ c12 _ => ⟨fun e12 => ?_, fun e => L96 c0 n1 (.inl (Classical.byContradiction fun h9 => e (c12.mpr h9)))⟩)⟩)
      have zx := c12.mp e12
      have zy := c6.mp e6
      refine xr_esplit hk hm hb hy wy (fun h14 f14 k14 m14 a14 w14 _ _ _ v16 e16 v17 e17 => ?_)
      refine xr_esplit k14 m14 hb hx wx (fun h18 f18 k18 m18 a18 w18 _ _ _ v20 e20 => ?_)
      refine xr_eclear k18 (fun h21 f21 k21 z21 _ => ⟨163 + 1, ?_⟩)
      have rA := fwt_r (a := ax) hb
      have rB := fwt_r (a := ay) hb
      obtain ⟨P0, hP0, P1, P2, P3⟩ := qt_p rA rB
      have pw := qt_w (v20 := v20) rA rB hP0 w14 w18 (by rw [e20, e17])
      refine xr_equotientL (X := fam p b ax) (c := fam p b ay) (e := fwt p b ax - fwt p b ay - 111) hb pw P1 P2 (by rw [e16]; exact a14) (fam_53 hb zy) (fam_p hb zy).1 (Nat.lt_trans (fam_53 hb zx) (by decide)) (fam_p hb zx).1 P3 h21 (fun r h' f' g1 g2 g3 => hQ r h' f' ((((f14.tr f18).tr f21).tr g1).mono (by decide)) g2 ?_) 163 0 52 0 0 _ h21 rfl (Nat.le_refl _) rfl (fam_p hb zy).1 (qt_z (fam_53 hb zx)) k21 (m18.fr f21 (by decide)) ?_ qt_u eF.rf
      · unfold fdv
        rw [if_neg c0, if_neg n1, if_neg (fun h9 => h9.elim zx (c9.mp e9)), g3, sg_fsp hs]
      · rw [f21.2.2.2.2.2.2 (by decide)]
        exact a18
    have L36 : ¬ (fmg p b ax = fI_ p b ∧ fmg p b ay = fI_ p b) → w_Exact_quotient_L36 Qr ex x y s h := fun ci => by
      unfold w_Exact_quotient_L36
      refine ⟨k1, xr_eisZero k1 hm hb hx (fun r3 _ c3 _ => ⟨fun e => L57 (fun h9 => h9.elim ci (fun h8 => c3.mp e h8.1)), fun e => xr_eisZero k1 hm hb hy (fun r6 _ c6 _ => ⟨fun e2 => L57 (fun h9 => h9.elim ci (fun h8 => c6.mp e2 h8.2)), fun e2 => L52 (.inr ⟨Classical.byContradiction fun h9 => e (c3.mpr h9), Classical.byContradiction fun h9 => e2 (c6.mpr h9)⟩)⟩)⟩)⟩
    unfold w_Exact_quotient_L18
    refine ⟨k1, xr_eisInfinite k1 hm hb hx (fun r3 _ c3 _ => ⟨fun e => L36 (fun h9 => c3.mp e h9.1), fun e => xr_eisInfinite k1 hm hb hy (fun r6 _ c6 _ => ⟨fun e2 => L52 (.inl ⟨Classical.byContradiction fun h9 => e (c3.mpr h9), Classical.byContradiction fun h9 => e2 (c6.mpr h9)⟩), fun e2 => L36 (fun h9 => c6.mp e2 h9.2)⟩)⟩)⟩
  unfold w_Exact_quotient
  refine ⟨k1, xr_eisMinus k1 hm hb hx wx (fun r3 d3 c3 _ => xr_eisMinus k1 hm hb hy wy (fun r5 d5 c5 _ => ?_))⟩
  rw [b01_ne d3 d5 c3 c5, ← fsg_c hb]
  exact ⟨fun e => L18 0 ⟨fun _ => e, fun _ => rfl⟩, fun e => L18 1 ⟨fun h9 => absurd h9 (by decide), fun h9 => absurd h9 e⟩⟩
end XF9

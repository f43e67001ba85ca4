-- equality, floating point: the reference's other conversions
section XFD
variable {ex rw_ p b p2 b2 a ax ay : Nat} {f : Nat → Nat} {h h' : xb_H} {F : List Nat} {τ τ2 : Int} {x y : Int64}
theorem xr_eformat {w : Int32} {Qr : xb_H → Prop} (hk : eK ex rw_ f h) (hw : (w = 32 ∧ τ = 125) ∨ (w = 64 ∧ τ = 124)) (hQ : ∀ h' : xb_H, eF ex rw_ [5, 6, 7] h h' → eK ex rw_ f h' → eP ex τ h' → Qr h') : w_Exact_format ex w h Qr := by
  unfold w_Exact_format w_Exact_format_L19 w_Exact_format_L37
  refine ⟨hk.1.1, fun h2 e2 => ?_⟩
  have fin : ∀ (y z : Int32), (τ = 125 ∧ w = 32 ∧ y = 23 ∧ z = 127) ∨ (τ = 124 ∧ w = 64 ∧ y = 52 ∧ z = 1023) → ∀ h3 : xb_H, h3 = xb_I h2 ex 6 y → ∀ h4 : xb_H, h4 = xb_I h3 ex 7 z → Qr h4 := by
    intro y z hyz h3 e3 h4 e4
    have f2 : eF ex rw_ [5] h h2 := by rw [e2]; exact eF.I hk.1
    have k2 : eK ex rw_ f h2 := by rw [e2]; exact hk.I (by decide) (by decide) (by decide)
    have f3 : eF ex rw_ [6] h2 h3 := by rw [e3]; exact eF.I k2.1
    have k3 : eK ex rw_ f h3 := by rw [e3]; exact k2.I (by decide) (by decide) (by decide)
    have f4 : eF ex rw_ [7] h3 h4 := by rw [e4]; exact eF.I k3.1
    have k4 : eK ex rw_ f h4 := by rw [e4]; exact k3.I (by decide) (by decide) (by decide)
    refine hQ h4 ((f2.tr (f3.tr f4)).mono (by decide)) k4 ?_
    have i5 : xb_i h4 ex 5 = w := by rw [f4.2.2.2.2.2.1 5 (by decide), f3.2.2.2.2.2.1 5 (by decide), e2, xh_iI, if_pos rfl, xh_up, if_pos rfl]
    have i6 : xb_i h4 ex 6 = y := by rw [f4.2.2.2.2.2.1 6 (by decide), e3, xh_iI, if_pos rfl, xh_up, if_pos rfl]
    have i7 : xb_i h4 ex 7 = z := by rw [e4, xh_iI, if_pos rfl, xh_up, if_pos rfl]
    unfold eP
    rw [i5, i6, i7]
    exact hyz
  have k2 : xb_k h2 ex = 10 := by rw [e2, xh_kI]; exact hk.1.1
  rcases hw with ⟨e, t⟩ | ⟨e, t⟩ <;> subst e
  · exact ⟨fun e => absurd rfl e, fun _ => ⟨k2, fun h3 e3 => ⟨fun e => absurd rfl e, fun _ => ⟨by rw [e3, xh_kI]; exact k2, fun h4 e4 => fin 23 127 (.inl ⟨t, rfl, rfl, rfl⟩) h3 e3 h4 e4⟩⟩⟩⟩
  · exact ⟨fun _ => ⟨k2, fun h3 e3 => ⟨fun _ => ⟨by rw [e3, xh_kI]; exact k2, fun h4 e4 => fin 52 1023 (.inr ⟨t, rfl, rfl, rfl⟩) h3 e3 h4 e4⟩, fun e => absurd e (by decide)⟩⟩, fun e => absurd e (by decide)⟩
theorem xr_efloating {s : Int32} {Qr : Int64 → xb_H → Prop} (hk : eK ex rw_ f h) (hm : eP ex τ h) (hb : fpb τ p b)
    (hQ : ∀ (r : Int64) (h' : xb_H) (f' : Nat → Nat), eF ex rw_ eFB h h' → eK ex rw_ f' h' → r.toBitVec.toNat = (if s = 0 then fow p b False x.toBitVec.toNat else fow p b (x.toInt < 0) x.toInt.natAbs) → Qr r h') : w_Exact_floating ex x s h Qr := by
  have c1 := Z_nat x
  have c2 := Z_rg x
  have zx : x = 0 ↔ x.toInt = 0 := by rw [Z_eq]; rfl
  have L23 : ∀ (y : Int32) (n : Nat), 0 < n → (y = 0 → x.toBitVec.toNat = n) → (y ≠ 0 → (-x).toBitVec.toNat = n) → (if s = 0 then fow p b False x.toBitVec.toNat else fow p b (x.toInt < 0) x.toInt.natAbs) = (if y = 0 then 0 else fS p b) ||| rnF p b n 0 → w_Exact_floating_L23 Qr ex x y h := fun y n n0 h1 h2 hv => by
    unfold w_Exact_floating_L23 w_Exact_floating_L41
    refine ⟨hk.1.1, xr_eclear hk (fun h4 f4 k4 z4 _ => ?_)⟩
    have g : ∀ z : Int64, z.toBitVec.toNat = n → xb_k h4 ex = 10 ∧ w_Exact_add ex z 0 h4 (fun h6 => xb_ext h4 h6 → xb_k h6 ex = 10 ∧ w_Exact_rounded ex y h6 (fun r9 h8 => xb_ext h6 h8 → Qr r9 h8)) := fun z hz => ⟨k4.1.1, xr_eclad (P := 2200) (e := 0) k4 (hm.fr f4 (by decide)) hb z4 rfl (by decide) hz n0 rfl (fun r h' f' g1 g2 g3 => hQ r h' f' ((f4.tr g1).mono (by decide)) g2 (by rw [hv]; exact g3))⟩
    exact ⟨fun e => g _ (h1 e), fun e => g _ (h2 e)⟩
  unfold w_Exact_floating w_Exact_floating_L22
  have ge : (0 : Int64) ≤ x ↔ 0 ≤ x.toInt := Z_le
  rw [zx, ge]
  refine ⟨fun nz => ⟨fun e => L23 0 _ (by omega) (fun _ => rfl) (fun h9 => absurd rfl h9) ?_, fun e => ⟨fun g => L23 0 _ (by omega) (fun _ => rfl) (fun h9 => absurd rfl h9) ?_, fun g => L23 1 x.toInt.natAbs (by omega) (fun h9 => absurd h9 (by decide)) (fun _ => (Z_ab (x := x)).2 g) ?_⟩⟩, fun z => hQ 0 h f eF.rf hk ?_⟩
  · rw [if_pos e, if_pos rfl]
    unfold fow
    rw [if_neg (by omega), if_neg (by intro h9; exact h9)]
  · have e1 : x.toInt.natAbs = x.toBitVec.toNat := ((Z_ab (x := x)).1 g).symm
    rw [if_neg e, if_pos rfl, e1]
    unfold fow
    rw [if_neg (by omega), if_neg (by omega)]
  · rw [if_neg e, if_neg (by decide)]
    unfold fow
    rw [if_neg (by omega), if_pos (by omega)]
  · have e1 : x.toBitVec.toNat = 0 := by omega
    have e2 : x.toInt.natAbs = 0 := by omega
    rw [e1, e2]
    unfold fow
    rw [if_pos rfl, if_pos rfl, ite_self]
    rfl
theorem xr_ereformed {w : Int32} {Qr : Int64 → xb_H → Prop} (hk : eK ex rw_ f h) (hm : eP ex τ h) (hb : fpb τ p b) (hb2 : fpb τ2 p2 b2) (hw : (w = 32 ∧ τ2 = 125) ∨ (w = 64 ∧ τ2 = 124)) (hx : x.toBitVec.toNat = a) (wx : fW p b a)
    (hQ : ∀ (r : Int64) (h' : xb_H) (f' : Nat → Nat), eF ex rw_ eFB h h' → eK ex rw_ f' h' → r.toBitVec.toNat = fcv p b p2 b2 a → Qr r h') : w_Exact_reformed ex x w h Qr := by
  have k1 := hk.1.1
  have rA := fwt_r (a := a) hb
  obtain ⟨P, P1, P2, P3, P4⟩ := P_of rA.1 rA.2
  have L48 : ∀ (h8 : xb_H) (c3 c5 c7 c9 : Int32), eF ex rw_ [8, 9, 10] h h8 → eK ex rw_ f h8 → (c3 = 0 ↔ fmg p b a ≤ fI_ p b) → (c5 = 0 ↔ fmg p b a ≠ fI_ p b) → (c7 = 0 ↔ fmg p b a ≠ 0) → (c9 = 0 ↔ a < fS p b) → (c3 = 0 → c5 = 0 → c7 = 0 → (xb_l h8 ex 9).toBitVec.toNat = fam p b a ∧ (xb_i h8 ex 10).toInt = fwt p b a) → w_Exact_reformed_L48 Qr ex w c3 c5 c7 c9 h8 := by
    intro h8 c3 c5 c7 c9 f8 k8 i3 i5 i7 i9 hp
    have sg : (if c9 = 0 then 0 else fS p2 b2) = if a < fS p b then 0 else fS p2 b2 := by
      by_cases h9 : c9 = 0
      · rw [if_pos h9, if_pos (i9.mp h9)]
      · rw [if_neg h9, if_neg (fun h8 => h9 (i9.mpr h8))]
    unfold w_Exact_reformed_L48
    refine ⟨k8.1.1, xr_eformat k8 hw (fun h2 f2 k2 m2 _ => ?_)⟩
    have fin : ∀ r : Int64, r.toBitVec.toNat = fcv p b p2 b2 a → Qr r h2 := fun r => hQ r h2 f ((f8.tr f2).mono (by decide)) k2
    have L73 : c3 = 0 → (c5 ≠ 0 ∨ c7 ≠ 0) → w_Exact_reformed_L73 Qr ex c5 c9 h2 := fun e3 hc => by
      unfold w_Exact_reformed_L73 w_Exact_reformed_L94
      refine ⟨fun e5 => ⟨k2.1.1, xr_esigned k2.1.1 m2 hb2 (n := 0) rfl (fun r hr _ => fin r ?_)⟩, fun e5 => ⟨k2.1.1, xr_einfinite k2.1.1 m2 hb2 (fun r hr _ => fin r ?_)⟩⟩
      · have z : fmg p b a = 0 := Classical.byContradiction fun h9 => hc.elim (fun h8 => h8 e5) (fun h8 => h8 (i7.mpr h9))
        unfold fcv
        rw [if_neg (Nat.not_lt.mpr (i3.mp e3)), if_neg (i5.mp e5), if_pos z, hr, sg]
      · unfold fcv
        rw [if_neg (Nat.not_lt.mpr (i3.mp e3)), if_pos (Classical.byContradiction fun h9 => e5 (i5.mpr h9)), hr, sg]
    refine ⟨fun e1 => ⟨fun e2 => L73 e1 (.inl e2), fun e2 => ⟨fun e3 => ?_, fun e3 => L73 e1 (.inr e3)⟩⟩, fun e1 => xr_enoNumber k2.1.1 m2 hb2 (fun r hr _ => fin r ?_)⟩
    · obtain ⟨q1, q2⟩ := hp e1 e2 e3
      have z := i7.mp e3
      have n54 := Nat.lt_of_lt_of_le (fam_54 (a := a) hb) (show 2 ^ 54 ≤ 2 ^ 64 by decide)
      refine xr_eclear k2 (fun h4 f4 k4 z4 _ => ?_)
      have l4 : (xb_l h4 ex 9).toBitVec.toNat = fam p b a := by rw [f4.2.2.2.2.2.2 (by decide), f2.2.2.2.2.2.2 (by decide)]; exact q1
      have w4 : (xb_i h4 ex 10).toInt = fwt p b a := by rw [f4.2.2.2.2.2.1 10 (by decide), f2.2.2.2.2.2.1 10 (by decide)]; exact q2
      refine xr_eadd k4 (by rw [w4]; exact P1) P3 (by rw [l4, eU_zero]; exact pw_0 (pw_1 P2 n54)) (fun f' h' g1 g2 g3 _ => ?_)
      rw [eU_zero, Nat.zero_add, l4] at g3
      have N0 := (fam_p hb z).1
      refine xr_rounded g2 ((m2.fr f4 (by decide)).fr g1 (by decide)) hb2 (by rw [g3]; exact Nat.mul_pos (Nat.pow_pos (by decide)) N0) (ρ := 0) (by rw [g1.2.2.2.2.2.1 4 (by decide), z4]; rfl) (fun r hr _ => hQ r h' f' ((((f8.tr f2).tr f4).tr g1).mono (by decide)) g2 ?_)
      unfold fcv
      rw [if_neg (Nat.not_lt.mpr (i3.mp e1)), if_neg (i5.mp e2), if_neg z, hr, g3, rf_v (e := fwt p b a) N0 (by omega), sg]
    · unfold fcv
      rw [if_pos (Nat.not_le.mp fun h9 => e1 (i3.mpr h9))]
      exact hr
  unfold w_Exact_reformed
  refine ⟨k1, xr_eisNone k1 hm hb hx (fun r3 _ c3 _ => xr_eisInfinite k1 hm hb hx (fun r5 _ c5 _ => xr_eisZero k1 hm hb hx (fun r7 _ c7 _ => xr_eisMinus k1 hm hb hx wx (fun r9 _ c9 _ => ?_))))⟩
  refine ⟨fun e1 => L48 h _ _ _ _ eF.rf hk c3 c5 c7 c9 (fun e2 => absurd e2 e1), fun _ => ⟨fun e1 => L48 h _ _ _ _ eF.rf hk c3 c5 c7 c9 (fun _ e2 => absurd e2 e1), fun _ => ⟨fun e1 => L48 h _ _ _ _ eF.rf hk c3 c5 c7 c9 (fun _ _ e2 => absurd e2 e1), fun _ => ?_⟩⟩⟩
  exact xr_esplit hk hm hb hx wx (fun h8 f8 k8 m8 a8 w8 _ _ _ => L48 h8 _ _ _ _ f8 k8 c3 c5 c7 c9 (fun _ _ _ => ⟨a8, w8⟩))
theorem fz_or (hb : fpb τ p b) (wx : fW p b ax) (wy : fW p b ay) (zx : fmg p b ax = 0) (zy : fmg p b ay = 0) : ax ||| ay = if ¬ ax < fS p b ∨ ¬ ay < fS p b then fS p b else 0 := by
  have d1 := fW.d wx
  have d2 := fW.d wy
  rw [zx, Nat.zero_add] at d1
  rw [zy, Nat.zero_add] at d2
  by_cases h1 : ax < fS p b
  · rw [if_pos h1] at d1
    by_cases h2 : ay < fS p b
    · rw [if_pos h2] at d2
      rw [if_neg (fun h9 => h9.elim (fun h8 => h8 h1) (fun h8 => h8 h2)), d1, d2]
      rfl
    · rw [if_neg h2] at d2
      rw [if_pos (.inr h2), d1, d2, Nat.zero_or]
  · rw [if_neg h1] at d1
    by_cases h2 : ay < fS p b
    · rw [if_pos h2] at d2
      rw [if_pos (.inl h1), d1, d2, Nat.or_zero]
    · rw [if_neg h2] at d2
      rw [if_pos (.inl h1), d1, d2, Nat.or_self]
theorem ford_e (hb : fpb τ p b) (wx : fW p b ax) (wy : fW p b ay) (h : ford p b ax = ford p b ay) (hz : ¬ (fmg p b ax = 0 ∧ fmg p b ay = 0)) : ax = ay := by
  have d1 := fW.d wx
  have d2 := fW.d wy
  unfold ford at h
  by_cases h1 : ax < fS p b <;> by_cases h2 : ay < fS p b
  · rw [if_pos h1] at h d1
    rw [if_pos h2] at h d2
    omega
  · rw [if_pos h1] at h d1
    rw [if_neg h2] at h d2
    omega
  · rw [if_neg h1] at h d1
    rw [if_pos h2] at h d2
    omega
  · rw [if_neg h1] at h d1
    rw [if_neg h2] at h d2
    omega
theorem ford_z (hx : fmg p b ax = 0) : ford p b ax = 0 := by
  unfold ford
  rw [hx]
  split <;> rfl
theorem xr_elesser {g : Int32} {Qr : Int64 → xb_H → Prop} (k1 : xb_k h ex = 10) (hm : eP ex τ h) (hb : fpb τ p b) (hg : g = 0 ∨ g = 1) (hx : x.toBitVec.toNat = ax) (hy : y.toBitVec.toNat = ay) (wx : fW p b ax) (wy : fW p b ay) (hQ : ∀ r : Int64, r.toBitVec.toNat = (if g = 0 then flo p b ax ay else fgr p b ax ay) → Qr r h) : w_Exact_lesser ex g x y h Qr := by
  have L79 : ¬ (fmg p b ax = 0 ∧ fmg p b ay = 0) → w_Exact_lesser_L79 Qr ex g x y h := fun hz => by
    unfold w_Exact_lesser_L79 w_Exact_lesser_L97
    refine ⟨k1, xr_eless k1 hm hb hx hy wx wy (fun r3 d3 c3 _ => ?_)⟩
    have o1 : (1 : Int32) ≠ 0 := by decide
    have le : r3 = 0 ↔ ¬ ford p b ax ≤ ford p b ay := c3.trans (not_congr ⟨fun h9 => h9.elim (fun h8 => by omega) (fun h8 => by omega), fun h9 => by
      rcases Int.lt_or_eq_of_le h9 with h8 | h8
      · exact .inl h8
      · exact .inr ⟨o1, h8⟩⟩)
    have fe := ford_e hb wx wy
    rcases hg with e | e <;> subst e
    · refine ⟨fun e3 => hQ _ ?_, fun e3 => hQ _ ?_⟩
      · have := le.mp e3
        rw [if_pos rfl]
        unfold flo
        rw [if_neg (by omega), if_neg (by omega)]
        exact hy
      · have : ford p b ax ≤ ford p b ay := Classical.byContradiction fun h9 => e3 (le.mpr h9)
        rw [if_pos rfl]
        unfold flo
        by_cases h9 : ford p b ax = ford p b ay
        · rw [if_pos h9, ← fe h9 hz, Nat.or_self]
          exact hx
        · rw [if_neg h9, if_pos (by omega)]
          exact hx
    · have e31 : r3 = 1 ↔ ford p b ax ≤ ford p b ay := by
        rcases d3 with h9 | h9
        · have := le.mp h9
          rw [h9]
          exact ⟨fun h8 => absurd h8 (by decide), fun h8 => absurd h8 this⟩
        · have : ford p b ax ≤ ford p b ay := Classical.byContradiction fun h8 => by
            have := le.mpr h8
            rw [h9] at this
            exact absurd this (by decide)
          exact ⟨fun _ => this, fun _ => h9⟩
      rw [e31]
      refine ⟨fun e3 => hQ _ ?_, fun e3 => hQ _ ?_⟩
      · rw [if_neg (by decide)]
        unfold fgr
        by_cases h9 : ford p b ax = ford p b ay
        · rw [if_pos h9, fe h9 hz, Nat.and_self]
          exact hy
        · rw [if_neg h9, if_neg (by omega)]
          exact hy
      · rw [if_neg (by decide)]
        unfold fgr
        rw [if_neg (by omega), if_pos (by omega)]
        exact hx
  have zz : fmg p b ax = 0 → fmg p b ay = 0 → ford p b ax = ford p b ay := fun h1 h2 => by rw [ford_z h1, ford_z h2]
  unfold w_Exact_lesser w_Exact_lesser_L44 w_Exact_lesser_L70
  refine ⟨k1, xr_eisZero k1 hm hb hx (fun r3 _ c3 _ => ⟨fun e => L79 (fun h9 => c3.mp e h9.1), fun e3 => xr_eisZero k1 hm hb hy (fun r6 _ c6 _ => ⟨fun e => L79 (fun h9 => c6.mp e h9.2), fun e6 => ?_⟩)⟩)⟩
  have zx : fmg p b ax = 0 := Classical.byContradiction fun h9 => e3 (c3.mpr h9)
  have zy : fmg p b ay = 0 := Classical.byContradiction fun h9 => e6 (c6.mpr h9)
  have vlo : flo p b ax ay = if ¬ ax < fS p b ∨ ¬ ay < fS p b then fS p b else 0 := by
    unfold flo
    rw [if_pos (zz zx zy)]
    exact fz_or hb wx wy zx zy
  have vgr : fgr p b ax ay = if ¬ ax < fS p b ∧ ¬ ay < fS p b then fS p b else 0 := by
    unfold fgr
    rw [if_pos (zz zx zy)]
    exact fz_and hb wx wy zx zy
  have S : ∀ (s : Int32) (v : Nat), (if s = 0 then 0 else fS p b) = v → (if g = 0 then flo p b ax ay else fgr p b ax ay) = v → xb_k h ex = 10 ∧ w_Exact_signed ex 0 s h (fun (r3 : Int64) (h2 : xb_H) => xb_ext h h2 → w_Exact_lesser_L78 Qr r3 h2) := fun s v h1 h2 => by
    unfold w_Exact_lesser_L78
    exact ⟨k1, xr_esigned k1 hm hb (n := 0) rfl (fun r hr _ => hQ r (by rw [hr, Nat.or_zero, h1, h2]))⟩
  unfold w_Exact_lesser_L75 w_Exact_lesser_L45
  refine ⟨fun g0 => xr_eisMinus k1 hm hb hx wx (fun r10 _ c10 _ => ⟨fun e => S 1 _ (if_neg (by decide)) ?_, fun e => xr_eisMinus k1 hm hb hy wy (fun r13 _ c13 _ => ⟨fun e2 => S 0 _ (if_pos rfl) ?_, fun e2 => S 1 _ (if_neg (by decide)) ?_⟩)⟩), fun g0 => xr_eisMinus k1 hm hb hx wx (fun r16 _ c16 _ => ⟨fun e => S 0 _ (if_pos rfl) ?_, fun e => xr_eisMinus k1 hm hb hy wy (fun r19 _ c19 _ => ⟨fun e2 => S 0 _ (if_pos rfl) ?_, fun e2 => S 1 _ (if_neg (by decide)) ?_⟩)⟩)⟩
  · rw [if_pos g0, vlo, if_pos (.inl (fun h9 => e (c10.mpr h9)))]
  · rw [if_pos g0, vlo, if_neg (fun h9 => h9.elim (fun h8 => h8 (c10.mp e)) (fun h8 => h8 (c13.mp e2)))]
  · rw [if_pos g0, vlo, if_pos (.inr (fun h9 => e2 (c13.mpr h9)))]
  · rw [if_neg g0, vgr, if_neg (fun h9 => h9.1 (c16.mp e))]
  · rw [if_neg g0, vgr, if_neg (fun h9 => h9.2 (c19.mp e2))]
  · rw [if_neg g0, vgr, if_pos ⟨fun h9 => e (c16.mpr h9), fun h9 => e2 (c19.mpr h9)⟩]
end XFD

-- a run: it ends, it falls, a call is entered
section RN3
variable {own own' ad ad' : Nat → Nat} {h h' : xb_H} {W : wD} {σ D : Nat} {gx : Nat → fG}
theorem mc_finish {x : Int64} {Qr : xb_H → Prop} (hB : cB own ad h) (hQ : ∀ h' : xb_H, stp [15] [] own ad own ad h h' → oR ad h ad h' W (.inr (.inl x)) → Qr h') : w_Machine_finish (ad 15) x h Qr := by
  unfold w_Machine_finish
  have n36 : ad 36 ≠ ad 15 := hB.ne (by omega) (by omega) (by omega)
  refine ⟨hB.k 15 (by omega), fun h2 e2 h3 e3 h4 e4 => hQ h4 ?_ ⟨⟨?_, ?_⟩, ?_, ?_, ?_⟩⟩
  · have s2 : stp [15] [] own ad own ad h h2 := by rw [e2]; exact stp.Lc hB
    have s3 : stp [15] [] own ad own ad h2 h3 := by rw [e3]; exact stp.Ic s2.1
    have s4 : stp [15] [] own ad own ad h3 h4 := by rw [e4]; exact stp.Ic s3.1
    exact ((s2.tr s3).tr s4).mono (by decide) (fun k hk => by simpa using hk)
  · rw [e4, xh_iI, if_pos rfl, xh_up, if_neg (by omega), e3, xh_iI, if_pos rfl, xh_up, if_pos rfl]
    rfl
  · rw [e4, xh_iI, if_pos rfl, xh_up, if_pos rfl]
    rfl
  · rw [e4, xh_lI, e3, xh_lI, e2, xh_lL, if_pos rfl, xh_up, if_pos rfl]
  · rw [e4, xh_iI, if_pos rfl, xh_up, if_neg (by omega), e3, xh_iI, if_pos rfl, xh_up, if_neg (by omega), e2, xh_iL]
  · rw [e4, xh_iI, if_neg n36, e3, xh_iI, if_neg n36, e2, xh_iL]
/-- where frame j's numbers lie -/
theorem z_fr {x y : Int32} {D j : Nat} (hx : x.toInt = D) (hD : 0 < D) (hD2 : D ≤ 200) (hy : y.toInt = j) (hj : j < 5) : ((x - 1) * 5 + y).toInt = (5 * (D - 1) + j : Nat) ∧ ((x - 1) * 5 + y).toNatClampNeg = 5 * (D - 1) + j := by
  have e1 : (x - 1).toInt = (D - 1 : Nat) := by
    rw [z_sub, hx, show (1 : Int32).toInt = 1 from rfl]
    omega
  have e2 : ((x - 1) * 5).toInt = (5 * (D - 1) : Nat) := by
    rw [z_mul, e1, show (5 : Int32).toInt = 5 from rfl]
    omega
  have e3 : ((x - 1) * 5 + y).toInt = (5 * (D - 1) + j : Nat) := by
    rw [z_add, e2, hy]
    omega
  exact ⟨e3, by rw [z_cl, e3, Int.toNat_natCast]⟩
theorem mc_fall {x : Int32} {z : Int × Int × Int × Int} {Qr : xb_H → Prop} (hB : cB own ad h) (hS : mS ad h) (hD : (xb_i h (ad 15) 4).toInt = D) (hD2 : D ≤ 200) (hi : 0 < D → ∃ ia, xb_r h (ad 15) 12 = some ia ∧ xb_k h ia = 11 ∧ ia ≠ ad 36 ∧ (xb_i h ia 0).toInt = z.2.1) (hz : x.toInt = z.1) (hz0 : D = 0 → z.2 = (-1, -1, -1)) (hz2 : 0 < D → (xb_i h (ad 38) (5 * (D - 1) + 1)).toInt = z.2.2.1 ∧ (xb_i h (ad 15) 15).toInt = z.2.2.2) (hQ : ∀ h' : xb_H, stp [15, 36] [] own ad own ad h h' → oR ad h ad h' W (.inr (.inr z)) → Qr h') : w_Machine_fall (ad 15) x h Qr := by
  obtain ⟨S1, S2, S3, S4⟩ := hS
  have ne : ad 15 ≠ ad 36 := hB.ne (by omega) (by omega) (by omega)
  have ne38 : ad 38 ≠ ad 36 := hB.ne (by omega) (by omega) (by omega)
  have k36 : xb_k h (ad 36) = 102 := hB.k 36 (by omega)
  have k15 : xb_k h (ad 15) = 8 := hB.k 15 (by omega)
  have r6 : xb_r h (ad 15) 6 = some (ad 36) := hB.r (15, 6, 36) (by decide)
  have r11 : xb_r h (ad 15) 11 = some (ad 38) := hB.r (15, 11, 38) (by decide)
  have cl0 : Int32.toNatClampNeg 0 = 0 := rfl
  have cl1 : Int32.toNatClampNeg 1 = 1 := rfl
  have cl2 : Int32.toNatClampNeg 2 = 2 := rfl
  have cl3 : Int32.toNatClampNeg 3 = 3 := rfl
  have L87 : ∀ (h1 : xb_H) (y0 : Int32), stp [36] [] own ad own ad h h1 → xb_i h1 (ad 15) = xb_i h (ad 15) → xb_l h1 = xb_l h → (xb_i h1 (ad 36) 0).toInt = z.1 → (xb_i h1 (ad 36) 1).toInt = z.2.1 → (xb_i h1 (ad 36) 2).toInt = z.2.2.1 → y0.toInt = z.2.2.2 → w_Machine_fall_L87 Qr (ad 15) y0 3 (ad 36) h1 := by
    intro h1 y0 s1 i1 l1 u0 u1 u2 u3
    have k1 : xb_k h1 (ad 36) = 102 := s1.1.k 36 (by omega)
    have n1 : xb_n h1 (ad 36) = 4 := by rw [(s1.2.2.2.1 _ (hB.z 36 (by omega))).2]; exact S1
    unfold w_Machine_fall_L87
    refine ⟨k1, by rw [z_in, n1]; decide, fun h3 e3 => ?_⟩
    rw [cl3] at e3
    have s3 : stp [36] [] own ad own ad h1 h3 := by rw [e3]; exact stp.Ic s1.1
    refine ⟨s3.1.k 15 (by omega), fun h5 e5 h6 e6 h7 e7 => ?_⟩
    have s5 : stp [15] [] own ad own ad h3 h5 := by rw [e5]; exact stp.Ic s3.1
    have s6 : stp [15] [] own ad own ad h5 h6 := by rw [e6]; exact stp.Ic s5.1
    have s7 : stp [15] [] own ad own ad h6 h7 := by rw [e7]; exact stp.Ic s6.1
    have i7 : xb_i h7 (ad 15) = va_up (va_up (va_up (xb_i h (ad 15)) 7 1) 3 0) 4 0 := by rw [e7, xh_iI, if_pos rfl, e6, xh_iI, if_pos rfl, e5, xh_iI, if_pos rfl, e3, xh_iI, if_neg ne, i1]
    have i36 : xb_i h7 (ad 36) = va_up (xb_i h1 (ad 36)) 3 y0 := by rw [e7, xh_iI, if_neg ne.symm, e6, xh_iI, if_neg ne.symm, e5, xh_iI, if_neg ne.symm, e3, xh_iI, if_pos rfl]
    refine hQ h7 (((((s1.tr s3).tr s5).tr s6).tr s7).mono (by decide) (fun k hk => by simpa using hk)) ⟨⟨?_, ?_⟩, ?_, ?_, ?_, ?_, ?_, ?_⟩
    · rw [i7, xh_up, if_neg (by omega), xh_up, if_pos rfl]
      rfl
    · rw [i7, xh_up, if_pos rfl]
      rfl
    · rw [e7, xh_lI, e6, xh_lI, e5, xh_lI, e3, xh_lI, l1]
    · rw [i7, xh_up, if_neg (by omega), xh_up, if_neg (by omega), xh_up, if_pos rfl]
    · rw [i36, xh_up, if_neg (by omega)]; exact u0
    · rw [i36, xh_up, if_neg (by omega)]; exact u1
    · rw [i36, xh_up, if_neg (by omega)]; exact u2
    · rw [i36, xh_up, if_pos rfl]; exact u3
  have L69 : ∀ (h1 : xb_H) (x2 y0 : Int32), stp [36] [] own ad own ad h h1 → xb_i h1 (ad 15) = xb_i h (ad 15) → xb_l h1 = xb_l h → (xb_i h1 (ad 36) 0).toInt = z.1 → (xb_i h1 (ad 36) 1).toInt = z.2.1 → y0.toInt = z.2.2.1 → (x2 = 0 ↔ D = 0) → w_Machine_fall_L69 Qr (ad 15) x2 y0 2 (ad 36) h1 := by
    intro h1 x2 y0 s1 i1 l1 u0 u1 u2 hx
    have k1 : xb_k h1 (ad 36) = 102 := s1.1.k 36 (by omega)
    have n1 : xb_n h1 (ad 36) = 4 := by rw [(s1.2.2.2.1 _ (hB.z 36 (by omega))).2]; exact S1
    unfold w_Machine_fall_L69
    refine ⟨k1, by rw [z_in, n1]; decide, fun h3 e3 => ?_⟩
    rw [cl2] at e3
    have s3 : stp [36] [] own ad own ad h1 h3 := by rw [e3]; exact stp.Ic s1.1
    have s : stp [36] [] own ad own ad h h3 := (s1.tr s3).mono (by decide) (fun k hk => by simpa using hk)
    have i3 : xb_i h3 (ad 15) = xb_i h (ad 15) := by rw [e3, xh_iI, if_neg ne, i1]
    have j3 : xb_i h3 (ad 36) = va_up (xb_i h1 (ad 36)) 2 y0 := by rw [e3, xh_iI, if_pos rfl]
    have w : ∀ y : Int32, y.toInt = z.2.2.2 → w_Machine_fall_L87 Qr (ad 15) y 3 (ad 36) h3 := fun y hy => L87 h3 y s i3 (by rw [e3, xh_lI, l1]) (by rw [j3, xh_up, if_neg (by omega)]; exact u0) (by rw [j3, xh_up, if_neg (by omega)]; exact u1) (by rw [j3, xh_up, if_pos rfl]; exact u2) hy
    refine ⟨s3.1.k 15 (by omega), ad 36, s3.1.r (15, 6, 36) (by decide), fun e9 => w _ ?_, fun e9 => w _ ?_⟩
    · rw [hz0 (hx.mp e9)]
      rfl
    · rw [i3]
      exact (hz2 (Nat.pos_of_ne_zero (fun e => e9 (hx.mpr e)))).2
  have L40 : ∀ (h1 : xb_H) (x2 y0 : Int32), stp [36] [] own ad own ad h h1 → xb_i h1 (ad 15) = xb_i h (ad 15) → xb_l h1 = xb_l h → (xb_i h1 (ad 36) 0).toInt = z.1 → y0.toInt = z.2.1 → xb_i h1 (ad 38) = xb_i h (ad 38) → (x2 = 0 ↔ D = 0) → w_Machine_fall_L40 Qr (ad 15) x2 y0 1 (ad 36) h1 := by
    intro h1 x2 y0 s1 i1 l1 u0 u1 i38 hx
    have k1 : xb_k h1 (ad 36) = 102 := s1.1.k 36 (by omega)
    have n1 : xb_n h1 (ad 36) = 4 := by rw [(s1.2.2.2.1 _ (hB.z 36 (by omega))).2]; exact S1
    unfold w_Machine_fall_L40
    refine ⟨k1, by rw [z_in, n1]; decide, fun h3 e3 => ?_⟩
    rw [cl1] at e3
    have s3 : stp [36] [] own ad own ad h1 h3 := by rw [e3]; exact stp.Ic s1.1
    have s : stp [36] [] own ad own ad h h3 := (s1.tr s3).mono (by decide) (fun k hk => by simpa using hk)
    have i3 : xb_i h3 (ad 15) = xb_i h (ad 15) := by rw [e3, xh_iI, if_neg ne, i1]
    have j3 : xb_i h3 (ad 36) = va_up (xb_i h1 (ad 36)) 1 y0 := by rw [e3, xh_iI, if_pos rfl]
    have j38 : xb_i h3 (ad 38) = xb_i h (ad 38) := by rw [e3, xh_iI, if_neg ne38, i38]
    have w : ∀ y : Int32, y.toInt = z.2.2.1 → w_Machine_fall_L69 Qr (ad 15) x2 y 2 (ad 36) h3 := fun y hy => L69 h3 x2 y s i3 (by rw [e3, xh_lI, l1]) (by rw [j3, xh_up, if_neg (by omega)]; exact u0) (by rw [j3, xh_up, if_pos rfl]; exact u1) hy hx
    refine ⟨s3.1.k 15 (by omega), ad 36, s3.1.r (15, 6, 36) (by decide), fun e9 => w _ ?_, fun e9 => ?_⟩
    · rw [hz0 (hx.mp e9)]
      rfl
    · have hD0 : 0 < D := Nat.pos_of_ne_zero (fun e => e9 (hx.mpr e))
      have f := z_fr (x := xb_i h3 (ad 15) 4) (y := 1) (j := 1) (by rw [i3]; exact hD) hD0 hD2 rfl (by omega)
      have n38 : xb_n h3 (ad 38) = 1000 := by rw [(s.2.2.2.1 _ (hB.z 38 (by omega))).2]; exact S2
      refine ⟨ad 38, s3.1.r (15, 11, 38) (by decide), s3.1.k 38 (by omega), by rw [z_in, f.1, n38]; omega, w _ ?_⟩
      rw [f.2, j38]
      exact (hz2 hD0).1
  have L12 : ∀ y0 : Int32, (y0 = 0 ↔ D = 0) → w_Machine_fall_L12 Qr (ad 15) x y0 h := by
    intro y0 hy
    unfold w_Machine_fall_L12
    refine ⟨k15, ad 36, r6, k36, by rw [z_in, S1]; decide, fun h5 e5 => ?_⟩
    rw [cl0] at e5
    have s5 : stp [36] [] own ad own ad h h5 := by rw [e5]; exact stp.Ic hB
    have i5 : xb_i h5 (ad 15) = xb_i h (ad 15) := by rw [e5, xh_iI, if_neg ne]
    have w : ∀ y : Int32, y.toInt = z.2.1 → w_Machine_fall_L40 Qr (ad 15) y0 y 1 (ad 36) h5 := fun y hy9 => L40 h5 y0 y s5 i5 (by rw [e5, xh_lI]) (by rw [e5, xh_iI, if_pos rfl, xh_up, if_pos rfl]; exact hz) hy9 (by rw [e5, xh_iI, if_neg ne38]) hy
    refine ⟨ad 36, s5.1.r (15, 6, 36) (by decide), fun e9 => w _ ?_, fun e9 => ?_⟩
    · rw [hz0 (hy.mp e9)]
      rfl
    · have hD0 : 0 < D := Nat.pos_of_ne_zero (fun e => e9 (hy.mpr e))
      obtain ⟨ia, j1, j2, j3, j4⟩ := hi hD0
      have sm := (s5.cm hB (by decide) (fun x hx => by cases hx) (k := 15) (by omega) (by decide)).2
      refine ⟨ia, by rw [sm.2.2]; exact j1, s5.2.2.2.1.k (c := 10) j2, w _ ?_⟩
      rw [e5, xh_iI, if_neg j3]
      exact j4
  unfold w_Machine_fall
  refine ⟨k15, fun e => L12 0 ⟨fun _ => ?_, fun _ => rfl⟩, fun e => L12 1 ⟨fun e9 => absurd e9 (by decide), fun e9 => ?_⟩⟩
  · rw [z_le, hD] at e
    simp only [Int32.reduceToInt] at e
    omega
  · rw [z_le, hD] at e
    simp only [Int32.reduceToInt] at e
    omega
end RN3

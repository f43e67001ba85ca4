-- a run: it ends, it falls, a call is entered
section RN3
variable {own own' ad ad' : Nat → Nat} {h h' : xb_H} {W : wD} {σ D : Nat} {gx : Nat → fG}
theorem mc_finish {x : Int64} {Qr : xb_H → Prop} (hB : cB own ad h) (hQ : ∀ h' : xb_H, stp [15] [] own ad own ad h h' → (xb_i h' (ad 15) 3).toInt = 0 → (xb_i h' (ad 15) 4).toInt = 0 → Qr h') : w_Machine_finish (ad 15) x h Qr := by
  unfold w_Machine_finish
  refine ⟨hB.k 15 (by omega), fun h2 e2 h3 e3 h4 e4 => hQ h4 ?_ ?_ ?_⟩
  · have s2 : stp [15] [] own ad own ad h h2 := by rw [e2]; exact stp.Lc hB
    have s3 : stp [15] [] own ad own ad h2 h3 := by rw [e3]; exact stp.Ic s2.1
    have s4 : stp [15] [] own ad own ad h3 h4 := by rw [e4]; exact stp.Ic s3.1
    exact ((s2.tr s3).tr s4).mono (by decide) (fun k hk => by simpa using hk)
  · rw [e4, xh_iI, if_pos rfl, xh_up, if_neg (by omega), e3, xh_iI, if_pos rfl, xh_up, if_pos rfl]
    rfl
  · rw [e4, xh_iI, if_pos rfl, xh_up, if_pos rfl]
    rfl
/-- where frame j's numbers lie -/
theorem z_fr {x y : Int32} {D j : Nat} (hx : x.toInt = D) (hD : 0 < D) (hD2 : D ≤ 200) (hy : y.toInt = j) (hj : j < 5) : ((x - 1) * 5 + y).toInt = (5 * (D - 1) + j : Nat) ∧ ((x - 1) * 5 + y).toNatClampNeg = 5 * (D - 1) + j := by
  have e1 : (x - 1).toInt = (D - 1 : Nat) := by
    rw [z_sub, hx, show (1 : Int32).toInt = 1 from rfl]
    omega
  have e2 : ((x - 1) * 5).toInt = (5 * (D - 1) : Nat) := by
    rw [z_mul, e1, show (5 : Int32).toInt = 5 from rfl]
    omega
  have e3 : ((x - 1) * 5 + y).toInt = (5 * (D - 1) + j : Nat) := by
    rw [z_add, e2, hy]
    omega
  exact ⟨e3, by rw [z_cl, e3, Int.toNat_natCast]⟩
theorem mc_fall {x : Int32} {Qr : xb_H → Prop} (hB : cB own ad h) (hS : mS ad h) (hD : (xb_i h (ad 15) 4).toInt = D) (hD2 : D ≤ 200) (hi : 0 < D → ∃ ia, xb_r h (ad 15) 12 = some ia ∧ xb_k h ia = 11) (hQ : ∀ h' : xb_H, stp [15, 36] [] own ad own ad h h' → (xb_i h' (ad 15) 3).toInt = 0 → (xb_i h' (ad 15) 4).toInt = 0 → Qr h') : w_Machine_fall (ad 15) x h Qr := by
  obtain ⟨S1, S2, S3, S4⟩ := hS
  have ne : ad 15 ≠ ad 36 := hB.ne (by omega) (by omega) (by omega)
  have k36 : xb_k h (ad 36) = 102 := hB.k 36 (by omega)
  have k15 : xb_k h (ad 15) = 8 := hB.k 15 (by omega)
  have r6 : xb_r h (ad 15) 6 = some (ad 36) := hB.r (15, 6, 36) (by decide)
  have r11 : xb_r h (ad 15) 11 = some (ad 38) := hB.r (15, 11, 38) (by decide)
  have L87 : ∀ (h1 : xb_H) (y0 : Int32), stp [15, 36] [] own ad own ad h h1 → w_Machine_fall_L87 Qr (ad 15) y0 3 (ad 36) h1 := by
    intro h1 y0 s1
    have k1 : xb_k h1 (ad 36) = 102 := s1.1.k 36 (by omega)
    have n1 : xb_n h1 (ad 36) = 4 := by rw [(s1.2.2.2.1 _ (hB.z 36 (by omega))).2]; exact S1
    unfold w_Machine_fall_L87
    refine ⟨k1, by rw [z_in, n1]; decide, fun h3 e3 => ?_⟩
    have s3 : stp [36] [] own ad own ad h1 h3 := by rw [e3]; exact stp.Ic s1.1
    refine ⟨s3.1.k 15 (by omega), fun h5 e5 h6 e6 h7 e7 => ?_⟩
    have s5 : stp [15] [] own ad own ad h3 h5 := by rw [e5]; exact stp.Ic s3.1
    have s6 : stp [15] [] own ad own ad h5 h6 := by rw [e6]; exact stp.Ic s5.1
    have s7 : stp [15] [] own ad own ad h6 h7 := by rw [e7]; exact stp.Ic s6.1
    refine hQ h7 (((((s1.tr s3).tr s5).tr s6).tr s7).mono (by decide) (fun k hk => by simpa using hk)) ?_ ?_
    · rw [e7, xh_iI, if_pos rfl, xh_up, if_neg (by omega), e6, xh_iI, if_pos rfl, xh_up, if_pos rfl]
      rfl
    · rw [e7, xh_iI, if_pos rfl, xh_up, if_pos rfl]
      rfl
  have L69 : ∀ (h1 : xb_H) (x2 y0 : Int32), stp [36] [] own ad own ad h h1 → w_Machine_fall_L69 Qr (ad 15) x2 y0 2 (ad 36) h1 := by
    intro h1 x2 y0 s1
    have k1 : xb_k h1 (ad 36) = 102 := s1.1.k 36 (by omega)
    have n1 : xb_n h1 (ad 36) = 4 := by rw [(s1.2.2.2.1 _ (hB.z 36 (by omega))).2]; exact S1
    unfold w_Machine_fall_L69
    refine ⟨k1, by rw [z_in, n1]; decide, fun h3 e3 => ?_⟩
    have s3 : stp [36] [] own ad own ad h1 h3 := by rw [e3]; exact stp.Ic s1.1
    have s : stp [15, 36] [] own ad own ad h h3 := (s1.tr s3).mono (by decide) (fun k hk => by simpa using hk)
    exact ⟨s3.1.k 15 (by omega), ad 36, s3.1.r (15, 6, 36) (by decide), fun _ => L87 h3 _ s, fun _ => L87 h3 _ s⟩
  have L40 : ∀ (h1 : xb_H) (x2 y0 : Int32), stp [36] [] own ad own ad h h1 → (x2 = 0 ∨ 0 < D) → w_Machine_fall_L40 Qr (ad 15) x2 y0 1 (ad 36) h1 := by
    intro h1 x2 y0 s1 hx
    have k1 : xb_k h1 (ad 36) = 102 := s1.1.k 36 (by omega)
    have n1 : xb_n h1 (ad 36) = 4 := by rw [(s1.2.2.2.1 _ (hB.z 36 (by omega))).2]; exact S1
    unfold w_Machine_fall_L40
    refine ⟨k1, by rw [z_in, n1]; decide, fun h3 e3 => ?_⟩
    have s3 : stp [36] [] own ad own ad h1 h3 := by rw [e3]; exact stp.Ic s1.1
    have s : stp [36] [] own ad own ad h h3 := (s1.tr s3).mono (by decide) (fun k hk => by simpa using hk)
    refine ⟨s3.1.k 15 (by omega), ad 36, s3.1.r (15, 6, 36) (by decide), fun _ => L69 h3 _ _ s, fun e9 => ?_⟩
    have hD0 : 0 < D := by
      rcases hx with h9 | h9
      · exact absurd h9 e9
      · exact h9
    have sm := (s.cm hB (by decide) (fun x hx => by cases hx) (k := 15) (by omega) (by decide)).2
    have f := z_fr (x := xb_i h3 (ad 15) 4) (y := 1) (j := 1) (by rw [sm.1]; exact hD) hD0 hD2 rfl (by omega)
    have n38 : xb_n h3 (ad 38) = 1000 := by rw [(s.2.2.2.1 _ (hB.z 38 (by omega))).2]; exact S2
    exact ⟨ad 38, s3.1.r (15, 11, 38) (by decide), s3.1.k 38 (by omega), by rw [z_in, f.1, n38]; omega, L69 h3 _ _ s⟩
  have L12 : ∀ y0 : Int32, (y0 = 0 ∨ 0 < D) → w_Machine_fall_L12 Qr (ad 15) x y0 h := by
    intro y0 hy
    unfold w_Machine_fall_L12
    refine ⟨k15, ad 36, r6, k36, by rw [z_in, S1]; decide, fun h5 e5 => ?_⟩
    have s5 : stp [36] [] own ad own ad h h5 := by rw [e5]; exact stp.Ic hB
    refine ⟨ad 36, s5.1.r (15, 6, 36) (by decide), fun _ => L40 h5 _ _ s5 hy, fun e9 => ?_⟩
    have hD0 : 0 < D := by
      rcases hy with h9 | h9
      · exact absurd h9 e9
      · exact h9
    obtain ⟨ia, i1, i2⟩ := hi hD0
    have sm := (s5.cm hB (by decide) (fun x hx => by cases hx) (k := 15) (by omega) (by decide)).2
    exact ⟨ia, by rw [sm.2.2]; exact i1, s5.2.2.2.1.k (c := 10) i2, L40 h5 _ _ s5 hy⟩
  unfold w_Machine_fall
  refine ⟨k15, fun e => L12 0 (.inl rfl), fun e => L12 1 (.inr ?_)⟩
  rw [z_le, hD] at e
  simp only [Int32.reduceToInt] at e
  omega
end RN3

-- a run: a label is chosen
section RNE
variable {own own' ad ad' : Nat → Nat} {h h' : xb_H} {W : wD} {σ D : Nat} {gx : Nat → fG} {t P lcn p0 E g : Nat} {lo ν0 : Nat → Int32} {G : ctG}
/-- the topmost value is taken away -/
theorem rX.pop {τ : Int} {c : List Int} {z : Int32} (hB : cB own ad h) (hr : rX ad h W D gx t P lcn p0 E lo ν0 g G) (hc : gC (gx (D - 1)) = τ :: c) (hz : z.toInt = (gO (gx (D - 1)) + c.length : Nat)) : rX ad (xb_I h (ad 15) 10 z) W D (va_up gx (D - 1) (gR_ (gx (D - 1)) (gA (gx (D - 1))) c)) t P lcn p0 E lo ν0 g G := by
  obtain ⟨-, ⟨t1, t2, -⟩, -, ⟨a, a5, b1, b2, b3, b7, b5, b6⟩, -, -⟩ := id hr
  have n15 : ad 38 ≠ ad 15 := hB.ne (by omega) (by omega) (by omega)
  rw [hc] at b6 b7
  simp only [List.length_cons] at b7
  exact hr.go (fun j j1 j2 => by rw [xh_iI, if_pos rfl, xh_up, if_neg j1]) (by rw [xh_rI]) (by rw [xh_iI, if_neg n15]) (by rw [xh_nI]) (fun j _ => by rw [xh_lI]) (by rw [xh_iI, if_pos rfl, xh_up, if_pos rfl]; exact hz) (by rw [xh_iI, if_pos rfl, xh_up, if_neg (by omega)]; exact t2) (by omega) (fun i hi => by rw [xh_lI]; exact b5 i hi) (by rw [xh_lI]; exact b6.2)
theorem mc_chosenLabel {L : Nat} {c : List Int} {Qr : Int32 → xb_H → Prop} (hB : cB own ad h) (hW : wI own ad h W σ) (hS : mS ad h) (hr : rX ad h W D gx t P lcn p0 E lo ν0 g G) (hc : gC (gx (D - 1)) = 127 :: c) (hL : ct_B (dnu (wd W (gI (gx (D - 1))))) p0 E (gA (gx (D - 1)) + 1) L) (hk : ∀ k : Nat, k ≤ L → ∃ w : Int, ct_B (dnu (wd W (gI (gx (D - 1))))) p0 E (gA (gx (D - 1)) + 2 + k) w)
    (hQ : ∀ (h' : xb_H) (r : Int32) (k : Nat), k ≤ L → (k : Int) = min (xb_l h (ad 37) (gO (gx (D - 1)) + c.length)).toInt L → h' = xb_I h (ad 15) 10 (xb_i h (ad 15) 10 - 1) → ct_B (dnu (wd W (gI (gx (D - 1))))) p0 E (gA (gx (D - 1)) + 2 + k) r.toInt → stp [15] [] own ad own ad h h' → rX ad h' W D (va_up gx (D - 1) (gR_ (gx (D - 1)) (gA (gx (D - 1))) c)) t P lcn p0 E lo ν0 g G → Qr r h') : w_Machine_chosenLabel (ad 15) h Qr := by
  obtain ⟨S1, S2, S3, S4⟩ := id hS
  obtain ⟨⟨d1, d2, d3, d4, d5⟩, ⟨t1, t2, t3, t4, t5, t6, t7⟩, h3, ⟨a, a5, b1, b2, b3, b7, b5, b6⟩, h4, h5⟩ := id hr
  have hpop := fun (z : Int32) hz => rX.pop (z := z) hB hr hc hz
  obtain ⟨x, hxx⟩ : ∃ x, x = gx (D - 1) := ⟨_, rfl⟩
  rw [← hxx] at hc t1 t2 t3 t4 t5 t6 t7 a5 b1 b2 b3 b6 b7 hL hk hQ hpop
  obtain ⟨⟨c1, c2, c3, c4, c5⟩, ⟨e1, e2, e3, e4, e5, e6, e7, e8⟩, -⟩ := id b1
  obtain ⟨l5, ⟨⟨q1, q2, q3, q4, q5⟩, -⟩⟩ := hW.2.2.2.2.2.2.1.2.2.2 _ a5
  obtain ⟨-, ⟨m6, m7, m8, m9⟩, -, -, m10⟩ := id q5.1
  rw [hc] at t1 b6 b7
  simp only [List.length_cons] at t1 b7
  have nd : dnt (wd W (gI x)) ≠ ad 15 := hB.n1 (by omega) q5.2.2.2.2.1
  unfold w_Machine_chosenLabel w_Machine_chosenLabel_L51
  refine ⟨hB.k 15 (by omega), fun h2 e2' => ?_⟩
  have ez : (xb_i h (ad 15) 10 - 1).toInt = (gO x + c.length : Nat) := by
    rw [z_sub, t1, show (1 : Int32).toInt = 1 from rfl]
    omega
  have hX := hpop _ ez
  rw [← e2'] at hX
  have s2 : stp [15] [] own ad own ad h h2 := by rw [e2']; exact stp.Ic hB
  have i2 : xb_i h2 (ad 15) = va_up (xb_i h (ad 15)) 10 (xb_i h (ad 15) 10 - 1) := by rw [e2', xh_iI, if_pos rfl]
  have i15 : (xb_i h2 (ad 15) 15).toInt = gA x := by rw [i2, xh_up, if_neg (by omega)]; exact t2
  have i10 : (xb_i h2 (ad 15) 10).toInt = (gO x + c.length : Nat) := by rw [i2, xh_up, if_pos rfl]; exact ez
  have c10 : (xb_i h2 (ad 15) 10).toNatClampNeg = gO x + c.length := by rw [z_cl, i10, Int.toNat_natCast]
  have r2 : xb_r h2 = xb_r h := by rw [e2', xh_rI]
  have n2 : xb_n h2 = xb_n h := by rw [e2', xh_nI]
  have l2 : xb_l h2 = xb_l h := by rw [e2', xh_lI]
  have it : xb_i h2 (dnt (wd W (gI x))) = dnu (wd W (gI x)) := by rw [e2', xh_iI, if_neg nd, m9]
  have kt : xb_k h2 (dnt (wd W (gI x))) = 102 := s2.2.2.2.1.k (c := 101) m7
  obtain ⟨L1, L2, L3⟩ := hL
  have a1 : (xb_i h2 (ad 15) 15 + 1).toInt = (gA x + 1 : Nat) := z_inc i15 (by omega)
  have a1c : (xb_i h2 (ad 15) 15 + 1).toNatClampNeg = gA x + 1 := by rw [z_cl, a1, Int.toNat_natCast]
  have a2 : (xb_i h2 (ad 15) 15 + 2).toInt = (gA x + 2 : Nat) := by
    rw [z_add, i15, show (2 : Int32).toInt = 2 from rfl]
    omega
  have LN : L ≤ 65536 := by
    obtain ⟨w, w1, w2, w3⟩ := hk L (Nat.le_refl L)
    omega
  have fin : ∀ (y : Int32) (k : Nat), y.toInt = k → k ≤ L → (k : Int) = min (xb_l h (ad 37) (gO x + c.length)).toInt L → xb_k h2 (ad 15) = 8 ∧ ∃ b2, xb_r h2 (ad 15) 14 = some b2 ∧ xb_k h2 b2 = 102 ∧ vp_in (xb_i h2 (ad 15) 15 + 2 + y) (xb_n h2 b2) ∧ Qr (xb_i h2 b2 (Int32.toNatClampNeg (xb_i h2 (ad 15) 15 + 2 + y))) h2 := by
    intro y k hy hkL hmn
    obtain ⟨w, w1, w2, w3⟩ := hk k hkL
    have ey : (xb_i h2 (ad 15) 15 + 2 + y).toInt = (gA x + 2 + k : Nat) := by
      rw [z_add, a2, hy]
      omega
    refine ⟨s2.1.k 15 (by omega), dnt (wd W (gI x)), by rw [r2]; exact t7, kt, by rw [z_in, ey, n2, m8]; omega, ?_⟩
    rw [z_cl, ey, Int.toNat_natCast, it]
    exact hQ h2 _ k hkL hmn e2' ⟨w1, w2, rfl⟩ s2 hX
  refine ⟨dnt (wd W (gI x)), by rw [r2]; exact t7, kt, by rw [z_in, a1, n2, m8]; omega, fun v6 e6' => ?_⟩
  rw [a1c, it] at e6'
  have hv6 : v6.toInt = L := by rw [e6']; exact L3
  have hval := b6.1 (.inl rfl)
  refine ⟨ad 37, s2.1.r (15, 9, 37) (by decide), s2.1.k 37 (by omega), by rw [z_in, i10, n2]; omega, ?_⟩
  rw [c10, l2]
  refine ⟨fun e => fin v6 L hv6 (Nat.le_refl L) (by rw [Z_le, Z_of32, hv6] at e; omega), fun e => ⟨ad 37, s2.1.r (15, 9, 37) (by decide), s2.1.k 37 (by omega), by rw [z_in, i10, n2]; omega, ?_⟩⟩
  rw [Z_le, Z_of32, hv6] at e
  obtain ⟨k, hkk⟩ : ∃ k : Nat, (xb_l h (ad 37) (gO x + c.length)).toInt = k := ⟨_, (Int.toNat_of_nonneg hval.1).symm⟩
  exact fin _ k (z_l2i hkk (by omega)) (by omega) (by omega)
end RNE

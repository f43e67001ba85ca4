-- a run: a call is entered, a value is put
section RN4
variable {own own' ad ad' : Nat → Nat} {h h' : xb_H} {W : wD} {σ D : Nat} {gx : Nat → fG}
theorem stp.Pr {c k : Nat} {x : Option Nat} (hB : cB own ad h) (hc : c < 41) (hn : ∀ e ∈ cRl, e.1 = c → e.2.1 ≠ k) : stp [c] [] own ad own ad h (xb_P h (ad c) k x) := by
  refine ⟨⟨hB.1, fun e he => ?_⟩, fun _ _ => rfl, fun _ _ => rfl, fun _ _ => ⟨rfl, rfl⟩, fun b _ _ hb => xh_smP _ _ _ (hb c (by simp)), fun _ => .inl rfl, fun _ _ => rfl⟩
  rw [xh_rP]
  split
  · rename_i e9
    have e1 : e.1 = c := Classical.byContradiction fun hne => hB.ne (cRl_lt e he).1 hc hne e9
    rw [xh_up, if_neg (hn e he e1), ← e9]
    exact hB.r e he
  · exact hB.r e he
theorem mc_enter {j i b o : Nat} {x : Int32} {Qr : xb_H → Prop} (hB : cB own ad h) (hW : wI own ad h W σ) (hS : mS ad h) (hx : x.toInt = (5 * j : Nat)) (hj : j < 200) (hi : (xb_i h (ad 38) (5 * j)).toInt = i) (hiW : i < wic W) (hb : (xb_i h (ad 38) (5 * j + 3)).toInt = b) (ho : (xb_i h (ad 38) (5 * j + 4)).toInt = o)
    (hQ : ∀ h' : xb_H, stp [15] [] own ad own ad h h' → (∀ k, k ≠ 16 → k ≠ 17 → xb_i h' (ad 15) k = xb_i h (ad 15) k) → xb_l h' (ad 15) = xb_l h (ad 15) → (xb_i h' (ad 15) 16).toInt = b → (xb_i h' (ad 15) 17).toInt = o → xb_r h' (ad 15) 12 = some (wia W i) → xb_r h' (ad 15) 13 = some (dcd (wd W i)) → xb_r h' (ad 15) 14 = some (dnt (wd W i)) → Qr h') : w_Machine_enter (ad 15) x h Qr := by
  obtain ⟨S1, S2, S3, S4⟩ := hS
  obtain ⟨l1, l2, l3, l4⟩ := hW.2.2.2.2.2.2.1
  obtain ⟨l5, ⟨⟨q1, q2, q3, q4, q5⟩, -⟩⟩ := l4 i hiW
  obtain ⟨⟨m1, m2, m3, m4, m5⟩, ⟨m6, m7, m8, m9⟩, -⟩ := q5.1
  have k15 : xb_k h (ad 15) = 8 := hB.k 15 (by omega)
  have e0 : ∀ (y : Int32) (t : Nat), y.toInt = t → t < 5 → (x + y).toInt = (5 * j + t : Nat) ∧ (x + y).toNatClampNeg = 5 * j + t := by
    intro y t hy ht
    have e1 : (x + y).toInt = (5 * j + t : Nat) := by rw [z_add, hx, hy]; omega
    exact ⟨e1, by rw [z_cl, e1, Int.toNat_natCast]⟩
  obtain ⟨f0, g0⟩ := e0 0 0 rfl (by omega)
  obtain ⟨f3, g3⟩ := e0 3 3 rfl (by omega)
  obtain ⟨f4, g4⟩ := e0 4 4 rfl (by omega)
  have n15 : ∀ k, k < 41 → k ≠ 15 → ad k ≠ ad 15 := fun k hk hne => hB.ne hk (by omega) hne
  have a1 : ad 15 ≠ wia W i := (hB.n1 (by omega) q2).symm
  have a2 : ad 15 ≠ wim W i := (hB.n1 (by omega) q5.2.2.1).symm
  have c0 : (xb_i h (ad 38) (5 * j + 0)).toNatClampNeg = i := by rw [z_cl, Nat.add_zero, hi, Int.toNat_natCast]
  unfold w_Machine_enter
  rw [g0, g3, g4]
  refine ⟨k15, ad 14, hB.r (15, 0, 14) (by decide), hB.k 14 (by omega), ad 18, hB.r (14, 0, 18) (by decide), ad 38, hB.r (15, 11, 38) (by decide), hB.k 38 (by omega), by rw [z_in, f0, S2]; omega, hB.k 18 (by omega), by rw [z_in, Nat.add_zero, hi, l1]; omega, wia W i, by rw [c0]; exact l5, fun h11 e11 => ?_⟩
  have s11 : stp [15] [] own ad own ad h h11 := by rw [e11]; exact stp.Pr hB (by omega) (by decide)
  have rr11 : xb_r h11 (ad 15) = va_up (xb_r h (ad 15)) 12 (some (wia W i)) := by rw [e11, xh_rP, if_pos rfl]
  have r11 : ∀ a, a ≠ ad 15 → xb_r h11 a = xb_r h a := fun a ha => by rw [e11, xh_rP, if_neg ha]
  have k11 : xb_k h11 = xb_k h := by rw [e11, xh_kP]
  refine ⟨wia W i, by rw [rr11, xh_up, if_pos rfl], by rw [k11]; exact q1, wim W i, by rw [r11 _ a1.symm]; exact q4, by rw [k11]; exact m1, dcd (wd W i), by rw [r11 _ a2.symm]; exact m2, fun h17 e17 => ?_⟩
  have s17 : stp [15] [] own ad own ad h11 h17 := by rw [e17]; exact stp.Pr s11.1 (by omega) (by decide)
  have rr17 : xb_r h17 (ad 15) = va_up (va_up (xb_r h (ad 15)) 12 (some (wia W i))) 13 (some (dcd (wd W i))) := by rw [e17, xh_rP, if_pos rfl, rr11]
  have r17 : ∀ a, a ≠ ad 15 → xb_r h17 a = xb_r h a := fun a ha => by rw [e17, xh_rP, if_neg ha, r11 a ha]
  have k17 : xb_k h17 = xb_k h := by rw [e17, xh_kP, k11]
  refine ⟨wia W i, by rw [rr17, xh_up, if_neg (by omega), xh_up, if_pos rfl], by rw [k17]; exact q1, wim W i, by rw [r17 _ a1.symm]; exact q4, by rw [k17]; exact m1, dnt (wd W i), by rw [r17 _ a2.symm]; exact m6, fun h23 e23 => ?_⟩
  have s23 : stp [15] [] own ad own ad h17 h23 := by rw [e23]; exact stp.Pr s17.1 (by omega) (by decide)
  have rr23 : xb_r h23 (ad 15) = va_up (va_up (va_up (xb_r h (ad 15)) 12 (some (wia W i))) 13 (some (dcd (wd W i)))) 14 (some (dnt (wd W i))) := by rw [e23, xh_rP, if_pos rfl, rr17]
  have i23 : xb_i h23 = xb_i h := by rw [e23, xh_iP, e17, xh_iP, e11, xh_iP]
  have l23 : xb_l h23 = xb_l h := by rw [e23, xh_lP, e17, xh_lP, e11, xh_lP]
  have n23 : xb_n h23 = xb_n h := by rw [e23, xh_nP, e17, xh_nP, e11, xh_nP]
  refine ⟨ad 38, s23.1.r (15, 11, 38) (by decide), s23.1.k 38 (by omega), by rw [z_in, f3, n23, S2]; omega, fun h27 e27 => ?_⟩
  have s27 : stp [15] [] own ad own ad h23 h27 := by rw [e27]; exact stp.Ic s23.1
  have n27 : xb_n h27 = xb_n h := by rw [e27, xh_nI, n23]
  refine ⟨ad 38, s27.1.r (15, 11, 38) (by decide), s27.1.k 38 (by omega), by rw [z_in, f4, n27, S2]; omega, fun h31 e31 => ?_⟩
  have s31 : stp [15] [] own ad own ad h27 h31 := by rw [e31]; exact stp.Ic s27.1
  have rr31 : xb_r h31 (ad 15) = xb_r h23 (ad 15) := by rw [e31, xh_rI, e27, xh_rI]
  have i38 : xb_i h27 (ad 38) = xb_i h (ad 38) := by rw [e27, xh_iI, if_neg (n15 38 (by omega) (by omega)), i23]
  have i31 : xb_i h31 (ad 15) = va_up (va_up (xb_i h (ad 15)) 16 (xb_i h (ad 38) (5 * j + 3))) 17 (xb_i h (ad 38) (5 * j + 4)) := by rw [e31, xh_iI, if_pos rfl, i38, e27, xh_iI, if_pos rfl, i23]
  refine hQ h31 (((((s11.tr s17).tr s23).tr s27).tr s31).mono (by decide) (fun k hk => by simpa using hk)) (fun k k1 k2 => by rw [i31, xh_up, if_neg k2, xh_up, if_neg k1]) (by rw [e31, xh_lI, e27, xh_lI, l23]) ?_ ?_ ?_ ?_ ?_
  · rw [i31, xh_up, if_neg (by omega), xh_up, if_pos rfl]
    exact hb
  · rw [i31, xh_up, if_pos rfl]
    exact ho
  · rw [rr31, rr23, xh_up, if_neg (by omega), xh_up, if_neg (by omega), xh_up, if_pos rfl]
  · rw [rr31, rr23, xh_up, if_neg (by omega), xh_up, if_pos rfl]
  · rw [rr31, rr23, xh_up, if_pos rfl]
theorem mc_put {x : Int64} {p : Nat} {Qr : xb_H → Prop} (hB : cB own ad h) (ht : (xb_i h (ad 15) 10).toInt = p) (hp : p < xb_n h (ad 37)) (hn : xb_n h (ad 37) ≤ 16384)
    (hQ : ∀ h' : xb_H, stp [15, 37] [] own ad own ad h h' → (∀ k, k ≠ 10 → xb_i h' (ad 15) k = xb_i h (ad 15) k) → xb_r h' = xb_r h → (xb_i h' (ad 15) 10).toInt = (p + 1 : Nat) → xb_l h' (ad 37) = va_up (xb_l h (ad 37)) p x → xb_l h' (ad 15) = xb_l h (ad 15) → Qr h') : w_Machine_putValue (ad 15) x h Qr := by
  have ne : ad 37 ≠ ad 15 := hB.ne (by omega) (by omega) (by omega)
  have c : (xb_i h (ad 15) 10).toNatClampNeg = p := by rw [z_cl, ht, Int.toNat_natCast]
  unfold w_Machine_putValue
  rw [c]
  refine ⟨hB.k 15 (by omega), ad 37, hB.r (15, 9, 37) (by decide), hB.k 37 (by omega), by rw [z_in, ht]; omega, fun h5 e5 h6 e6 => ?_⟩
  have s5 : stp [37] [] own ad own ad h h5 := by rw [e5]; exact stp.Lc hB
  have s6 : stp [15] [] own ad own ad h5 h6 := by rw [e6]; exact stp.Ic s5.1
  have i6 : xb_i h6 (ad 15) = va_up (xb_i h (ad 15)) 10 (xb_i h (ad 15) 10 + 1) := by rw [e6, xh_iI, if_pos rfl, e5, xh_iL]
  refine hQ h6 ((s5.tr s6).mono (by decide) (fun k hk => by simpa using hk)) (fun k hk => by rw [i6, xh_up, if_neg hk]) (by rw [e6, xh_rI, e5, xh_rL]) ?_ (by rw [e6, xh_lI, e5, xh_lL, if_pos rfl]) (by rw [e6, xh_lI, e5, xh_lL, if_neg ne.symm])
  rw [i6, xh_up, if_pos rfl]
  exact z_inc ht (by omega)
end RN4

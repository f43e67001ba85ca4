-- the reference: a run calls
section MRP
variable {own : Nat → Nat} {mm m i ip k f t b nl o top q a o1 op base : Nat} {A : Nat → Nat} {h h' h2 : xb_H} {F F' F2 : Nat → Nat → Int32} {v v' v2 : Nat → Int32} {D : zM} {DM : Nat → zM} {len rl K : Nat} {Q : xb_H → Prop} {Ql : Int64 → xb_H → Prop} {φ φ' : Nat → Nat → Int32} {ν ν' : Nat → Int32} {c c' ex pre : List Int} {gs g1 : List gF} {T p0 E : Nat} {lo ν0 ν1 cb : Nat → Int32} {G : ctG} {V : Nat → Prop} {rm y res : Int} {r cs : List cX} {nst : Prop} {x : Nat × Option Nat}
theorem ptl_ix {w : Nat → Int32} {p pa : Nat} : ∀ {P : Nat}, tyS w p (ptl cb pa P) → ∀ k, k < P → (w (p + k)).toInt = (cb (pa + k)).toInt
  | 0, _, k, hk => absurd hk (Nat.not_lt_zero k)
  | P + 1, h, k, hk => by
    rw [ptl_s] at h
    obtain ⟨h1, h2⟩ := h
    rw [ptl_len] at h1
    rcases Nat.lt_or_ge k P with h9 | h9
    · exact ptl_ix h2 k h9
    · have : k = P := by omega
      subst this
      exact h1
theorem fPk_ix {w : Nat → Int32} {p : Nat} (h : tyS w p (fPl φ DM f)) (hk : k < (fPl φ DM f).length) : (w (p + k)).toInt = fPk φ DM f k := by
  unfold fPl at h hk
  unfold fPk
  split
  · next e =>
    rw [if_pos e] at h hk
    rw [ptl_len] at hk
    exact ptl_ix h k hk
  · next e =>
    rw [if_neg e] at h hk
    have hk' : k < 1 := hk
    have : k = 0 := by omega
    subst this
    exact h.1
/-- five numbers of a call -/
theorem n_five {cl : Nat} {H : xb_H → Prop} {x1 x3 x20 : Int32} (hB : mB own mm A h) (h68 : (v 68).toInt = cl) (hc : cl < 200) (hv20 : v 20 = x20) (hQ : ∀ F' : Nat → Nat → Int32, (∀ a, (∀ k, k ∈ [69, 70, 71, 72, 73] → a ≠ A k) → F' a = F a) → F' (A 69) = va_up (F (A 69)) cl x1 → F' (A 70) = va_up (F (A 70)) cl (v 15) → F' (A 71) = va_up (F (A 71)) cl x3 → F' (A 72) = va_up (F (A 72)) cl x20 → F' (A 73) = va_up (F (A 73)) cl (v 81) → H (mH h F' mm v)) :
    ∃ b3 : Nat, (xb_r (mH h F mm v) mm 69) = some b3 ∧ xb_k (mH h F mm v) b3 = 102 ∧ vp_in (xb_i (mH h F mm v) mm 68) (xb_n (mH h F mm v) b3) ∧ ∀ h6 : xb_H, h6 = xb_I (mH h F mm v) b3 (Int32.toNatClampNeg (xb_i (mH h F mm v) mm 68)) x1 → ∃ b7 : Nat, (xb_r h6 mm 70) = some b7 ∧ xb_k h6 b7 = 102 ∧ vp_in (xb_i h6 mm 68) (xb_n h6 b7) ∧ ∀ h10 : xb_H, h10 = xb_I h6 b7 (Int32.toNatClampNeg (xb_i h6 mm 68)) (xb_i h6 mm 15) → ∃ b11 : Nat, (xb_r h10 mm 71) = some b11 ∧ xb_k h10 b11 = 102 ∧ vp_in (xb_i h10 mm 68) (xb_n h10 b11) ∧ ∀ h14 : xb_H, h14 = xb_I h10 b11 (Int32.toNatClampNeg (xb_i h10 mm 68)) x3 → ∃ b15 : Nat, (xb_r h14 mm 72) = some b15 ∧ xb_k h14 b15 = 102 ∧ vp_in (xb_i h14 mm 68) (xb_n h14 b15) ∧ ∀ h18 : xb_H, h18 = xb_I h14 b15 (Int32.toNatClampNeg (xb_i h14 mm 68)) (xb_i h14 mm 20) → ∃ b19 : Nat, (xb_r h18 mm 73) = some b19 ∧ xb_k h18 b19 = 102 ∧ vp_in (xb_i h18 mm 68) (xb_n h18 b19) ∧ ∀ h22 : xb_H, h22 = xb_I h18 b19 (Int32.toNatClampNeg (xb_i h18 mm 68)) (xb_i h18 mm 81) → H h22 := by
  have g69 := hB.kx (k := 69) (kd := 102) (n := 200) (by decide) (by decide)
  have g70 := hB.kx (k := 70) (kd := 102) (n := 200) (by decide) (by decide)
  have g71 := hB.kx (k := 71) (kd := 102) (n := 200) (by decide) (by decide)
  have g72 := hB.kx (k := 72) (kd := 102) (n := 200) (by decide) (by decide)
  have g73 := hB.kx (k := 73) (kd := 102) (n := 200) (by decide) (by decide)
  have cl' : (v 68).toNatClampNeg = cl := by rw [z_cl, h68]; omega
  have inn : ∀ a, xb_n h a = 200 → vp_in (v 68) (xb_n h a) := fun a ha => by rw [z_in, h68, ha]; omega
  rw [mH_i]
  refine ⟨A 69, g69.1, g69.2.1, inn _ g69.2.2.1, fun h6 e6 => ?_⟩
  rw [mH_A g69.2.2.2, cl'] at e6
  subst e6
  rw [mH_i]
  refine ⟨A 70, g70.1, g70.2.1, inn _ g70.2.2.1, fun h10 e10 => ?_⟩
  rw [mH_A g70.2.2.2, cl'] at e10
  subst e10
  rw [mH_i]
  refine ⟨A 71, g71.1, g71.2.1, inn _ g71.2.2.1, fun h14 e14 => ?_⟩
  rw [mH_A g71.2.2.2, cl'] at e14
  subst e14
  rw [mH_i]
  refine ⟨A 72, g72.1, g72.2.1, inn _ g72.2.2.1, fun h18 e18 => ?_⟩
  rw [mH_A g72.2.2.2, cl', hv20] at e18
  subst e18
  rw [mH_i]
  refine ⟨A 73, g73.1, g73.2.1, inn _ g73.2.2.1, fun h22 e22 => ?_⟩
  rw [mH_A g73.2.2.2, cl'] at e22
  subst e22
  have n : ∀ j k, (∃ e ∈ aL, e.1 = j) → (∃ e ∈ aL, e.1 = k) → j ≠ k → A j ≠ A k := fun j k hj hk h9 => hB.ne hj hk h9
  have n1 := n 69 70 (by decide) (by decide) (by decide)
  have n2 := n 69 71 (by decide) (by decide) (by decide)
  have n3 := n 69 72 (by decide) (by decide) (by decide)
  have n4 := n 69 73 (by decide) (by decide) (by decide)
  have n5 := n 70 71 (by decide) (by decide) (by decide)
  have n6 := n 70 72 (by decide) (by decide) (by decide)
  have n7 := n 70 73 (by decide) (by decide) (by decide)
  have n8 := n 71 72 (by decide) (by decide) (by decide)
  have n9 := n 71 73 (by decide) (by decide) (by decide)
  have n0 := n 72 73 (by decide) (by decide) (by decide)
  refine hQ _ (fun a ha => ?_) ?_ ?_ ?_ ?_ ?_
  · rw [xh_up, if_neg (ha 73 (by decide)), xh_up, if_neg (ha 72 (by decide)), xh_up, if_neg (ha 71 (by decide)), xh_up, if_neg (ha 70 (by decide)), xh_up, if_neg (ha 69 (by decide))]
  · rw [xh_up, if_neg n4, xh_up, if_neg n3, xh_up, if_neg n2, xh_up, if_neg n1, xh_up, if_pos rfl]
  · rw [xh_up, if_neg n7, xh_up, if_neg n6, xh_up, if_neg n5, xh_up, if_pos rfl, xh_up, if_neg (Ne.symm n1)]
  · rw [xh_up, if_neg n9, xh_up, if_neg n8, xh_up, if_pos rfl, xh_up _ (A 70) _ (A 71), if_neg (Ne.symm n5), xh_up _ (A 69) _ (A 71), if_neg (Ne.symm n2)]
  · rw [xh_up, if_neg n0, xh_up, if_pos rfl, xh_up _ (A 71) _ (A 72), if_neg (Ne.symm n8), xh_up _ (A 70) _ (A 72), if_neg (Ne.symm n6), xh_up _ (A 69) _ (A 72), if_neg (Ne.symm n3)]
  · rw [xh_up, if_pos rfl, xh_up _ (A 72) _ (A 73), if_neg (Ne.symm n0), xh_up _ (A 71) _ (A 73), if_neg (Ne.symm n9), xh_up _ (A 70) _ (A 73), if_neg (Ne.symm n7), xh_up _ (A 69) _ (A 73), if_neg (Ne.symm n4)]
/-- a host's function -/
theorem n_out {z : Int64} (hA : rU own mm A h F v DM len rl K) (hv : ∀ j, j ∉ rnV → j ≠ 53 → j ≠ 88 → v' j = v j) (h88 : 0 ≤ (v' 88).toInt ∧ (v' 88).toInt ≤ 4096) (h53 : v' 53 = v 53) (hz : v' 17 = 0) (h94 : v' 94 = 0) (hd : 60 ≤ own top) : rU own mm A (xb_L h top i z) F v' DM len rl K := by
  have hf : f0 own h F (xb_L h top i z) F := f0.L hd
  have vo : ∀ k, k ∈ vW1 → k ≠ 88 → v' k = v k := fun k hk h9 => by
    by_cases h1 : k = 17
    · rw [h1, hz, hA.z]
    · by_cases h2 : k = 94
      · rw [h2, h94, hA.W1.2.1.2.2]
      · by_cases h3 : k = 53
        · rw [h3, h53]
        · have q : ∀ k, k ∈ vW1 → k ≠ 17 → k ≠ 94 → k ∉ rnV := by decide
          exact hv k (q k hk h1 h2) h3 h9
  have vj : ∀ k, k ∈ vW1 → k ≠ 88 → vN v' k = vN v k := fun k hk h9 => by
    unfold vN
    rw [vo k hk h9]
  refine n_ch hA hf (n_eE hA hf rfl (fun _ _ => rfl)) ?_ (hA.I.2.cg (fun _ _ => rfl) (fun k hk => vo k ((by decide : ∀ k, k ∈ vRY → k ∈ vW1) k hk) ((by decide : ∀ k, k ∈ vRY → k ≠ 88) k hk))) (vo 34 (by decide) (by decide)) (vo 13 (by decide) (by decide))
  obtain ⟨b1, b2, b3, b4, b5, b6, b7, b8⟩ := hA.W1
  refine ⟨fun e he => ?_, by rw [vo 17 (by decide) (by decide), vo 84 (by decide) (by decide), vo 94 (by decide) (by decide)]; exact b2, by rw [vj 4 (by decide) (by decide), vj 2 (by decide) (by decide)]; exact b3, by rw [vj 42 (by decide) (by decide)]; exact b4, by rw [vj 13 (by decide) (by decide), vj 4 (by decide) (by decide)]; exact b5, by rw [vj 46 (by decide) (by decide), vj 30 (by decide) (by decide)]; exact b6, by rw [vj 52 (by decide) (by decide), vj 30 (by decide) (by decide)]; exact b7, by rw [vj 34 (by decide) (by decide), vj 30 (by decide) (by decide)]; exact b8⟩
  by_cases h9 : e.1 = 88
  · have : ∀ e ∈ wB, e.1 = 88 → e.2 = 4096 := by decide
    rw [h9, this e he h9]
    exact h88
  · have : ∀ e ∈ wB, e.1 ∈ vW1 := by decide
    rw [vo _ (this e he) h9]
    exact b1 e he
end MRP

-- equality, floating point: the reference's product
section XF7
variable {ex rw_ p b a ax ay A B : Nat} {f : Nat → Nat} {h h' : xb_H} {F : List Nat} {τ : Int} {x y : Int64}
theorem sg_fsp {s : Int32} (hs : s = 0 ↔ fsg p b ax = fsg p b ay) : (if s = 0 then 0 else fS p b) = fsp p b ax ay := by
  unfold fsp
  by_cases h9 : s = 0
  · rw [if_pos h9, if_pos (hs.mp h9)]
  · rw [if_neg h9, if_neg (fun h8 => h9 (hs.mpr h8))]
theorem pr_b {P0 k y X : Nat} (hP : P0 ≤ 4200) (hy : y < 2 ^ 54) : 2 ^ P0 * (y * (X % 2 ^ (k + 1))) < 2 ^ 4400 ∨ 53 ≤ k := by
  rcases Nat.lt_or_ge k 53 with h9 | h9
  · left
    have h1 : X % 2 ^ (k + 1) < 2 ^ 54 := Nat.lt_of_lt_of_le (Nat.mod_lt _ (Nat.pow_pos (by decide))) (Nat.pow_le_pow_right (by decide) (by omega))
    have h2 : y * (X % 2 ^ (k + 1)) < 2 ^ 54 * 2 ^ 54 := Nat.mul_lt_mul_of_lt_of_lt hy h1
    refine Nat.lt_of_lt_of_le (Nat.mul_lt_mul_of_pos_left h2 (Nat.pow_pos (by decide))) ?_
    rw [← Nat.pow_add, ← Nat.pow_add]
    exact Nat.pow_le_pow_right (by decide) (by omega)
  · exact .inr h9
theorem xr_eproductL {Qr : Int64 → xb_H → Prop} {s : Int32} {x : Int64} {pw : Int32} {P0 y X : Nat} {e : Int} (hb : fpb τ p b) (hP : 2200 + pw.toInt = P0) (hP2 : P0 ≤ 4200) (hx : x.toBitVec.toNat = X) (hX : X < 2 ^ 53) (X0 : 0 < X) (hy : y < 2 ^ 54) (y0 : 0 < y) (he : e = (P0 : Int) - 2200) (h0 : xb_H) (hQ : ∀ (r : Int64) (h' : xb_H) (f' : Nat → Nat), eF ex rw_ [2, 3] h0 h' → eK ex rw_ f' h' → r.toBitVec.toNat = (if s = 0 then 0 else fS p b) ||| rnF p b (X * y) e → Qr r h') :
    ∀ (m k : Nat) (x9 : Int32) (f : Nat → Nat) (h : xb_H), x9.toInt = k → k + m = 53 → eK ex rw_ f h → eP ex τ h → (xb_i h ex 4).toInt = (0 : Nat) → (xb_l h ex 9).toBitVec.toNat = y → eU f 0 4400 = 2 ^ P0 * (y * (X % 2 ^ k)) → eF ex rw_ [2, 3] h0 h → w_Exact_product_L128 Qr (m + 1) ex s x pw x9 h := by
  intro m
  induction m with
  | zero =>
    intro k x9 f h e1 e2 hk hm hz hy2 hU hF
    have ek : k = 53 := by omega
    rw [ek, Nat.mod_eq_of_lt hX] at hU
    unfold w_Exact_product_L128
    refine ⟨fun _ => ⟨hk.1.1, xr_rounded hk hm hb (by rw [hU]; exact Nat.mul_pos (Nat.pow_pos (by decide)) (Nat.mul_pos y0 X0)) hz (fun r hr _ => hQ r h f hF hk ?_)⟩, fun e => ?_⟩
    · rw [hr, hU, rf_v (Nat.mul_pos y0 X0) he, Nat.mul_comm y X]
    · rw [z_le, show (53 : Int32).toInt = 53 from rfl] at e
      omega
  | succ m ih =>
    intro k x9 f h e1 e2 hk hm hz hy2 hU hF
    have e3 : (x9 + 1).toInt = (k + 1 : Nat) := z_inc e1 (by omega)
    obtain ⟨b1, b0⟩ := Z_bit01 hx e1 (by omega)
    have mx := mod_nx X k
    have k53 : ¬ 53 ≤ k := by omega
    have bd := (pr_b (P0 := P0) (k := k) (X := X) hP2 hy).resolve_right k53
    have pk : P0 + k < 4400 := by omega
    have pe : 2200 + (pw + x9).toInt = ((P0 + k : Nat) : Int) := by
      rw [z_add, e1]
      omega
    have em : k + 1 + m = 53 := by omega
    have n53 : ¬ (53 : Int32) ≤ x9 := by
      rw [z_le, e1, show (53 : Int32).toInt = 53 from rfl]
      omega
    unfold w_Exact_product_L128 w_Exact_product_L160
    rw [b1]
    refine ⟨fun e9 => absurd e9 n53, fun _ => ⟨fun c => ih (k + 1) _ f h e3 em hk hm hz hy2 ?_ hF, fun c => ⟨hk.1.1, ?_⟩⟩⟩
    · have c0 : X / 2 ^ k % 2 = 0 := by omega
      rw [c0, Nat.mul_zero, Nat.zero_add] at mx
      rw [mx]
      exact hU
    · rw [c, Nat.mul_one] at mx
      have eV : eU f 0 4400 + 2 ^ (P0 + k) * (xb_l h ex 9).toBitVec.toNat = 2 ^ P0 * (y * (X % 2 ^ (k + 1))) := by
        rw [hU, hy2, mx, Nat.pow_add, Nat.mul_add, Nat.mul_add, Nat.add_comm, Nat.mul_assoc, Nat.mul_comm (2 ^ k) y]
      refine xr_eadd hk pe pk (by rw [eV]; exact bd) (fun f' h' g1 g2 g3 _ => ih (k + 1) _ f' h' e3 em g2 (hm.fr g1 (by decide)) ?_ ?_ (by rw [g3, eV]) ((hF.tr g1).mono (by decide)))
      · rw [g1.2.2.2.2.2.1 4 (by decide)]
        exact hz
      · rw [g1.2.2.2.2.2.2 (by decide)]
        exact hy2
theorem fam_53 (hb : fpb τ p b) (h0 : fmg p b a ≠ 0) : fam p b a < 2 ^ 53 := by
  have hp : (p = 24 ∧ b = 127) ∨ (p = 53 ∧ b = 1023) := by unfold fpb at hb; omega
  exact Nat.lt_of_lt_of_le (fam_p hb h0).2 (Nat.pow_le_pow_right (by decide) (by omega))
theorem xr_eproduct {Qr : Int64 → xb_H → Prop} (hk : eK ex rw_ f h) (hm : eP ex τ h) (hb : fpb τ p b) (hx : x.toBitVec.toNat = ax) (hy : y.toBitVec.toNat = ay) (wx : fW p b ax) (wy : fW p b ay)
    (hQ : ∀ (r : Int64) (h' : xb_H) (f' : Nat → Nat), eF ex rw_ eFB h h' → eK ex rw_ f' h' → r.toBitVec.toNat = fmu p b ax ay → Qr r h') : w_Exact_product ex x y h Qr := by
  have k1 := hk.1.1
  have same : ∀ r : Int64, r.toBitVec.toNat = fmu p b ax ay → Qr r h := fun r => hQ r h f eF.rf hk
  have L52 : (fmg p b ax = fI_ p b ∨ fmg p b ay = fI_ p b) → (fmg p b ax = 0 ∨ fmg p b ay = 0) → w_Exact_product_L52 Qr ex h := fun c1 c2 => by
    unfold w_Exact_product_L52 w_Exact_product_L65
    refine ⟨k1, xr_enoNumber k1 hm hb (fun r hr _ => same r ?_)⟩
    unfold fmu
    rw [if_pos c1, if_pos c2]
    exact hr
  have L18 : ∀ s : Int32, (s = 0 ↔ fsg p b ax = fsg p b ay) → w_Exact_product_L18 Qr ex x y s h := fun s hs => by
    have L82 : ¬ (fmg p b ax = fI_ p b ∨ fmg p b ay = fI_ p b) → (fmg p b ax = 0 ∨ fmg p b ay = 0) → w_Exact_product_L82 Qr ex s h := fun c1 c2 => by
      unfold w_Exact_product_L82
      refine ⟨k1, xr_esigned k1 hm hb (n := 0) rfl (fun r hr _ => same r ?_)⟩
      unfold fmu
      rw [if_neg c1, if_pos c2, hr, Nat.or_zero, sg_fsp hs]
    have L36 : (fmg p b ax = fI_ p b ∨ fmg p b ay = fI_ p b) → w_Exact_product_L36 Qr ex x y s h := fun c1 => by
      unfold w_Exact_product_L36 w_Exact_product_L65
      refine ⟨k1, xr_eisZero k1 hm hb hx (fun r3 _ c3 _ => ⟨fun e => L52 c1 (.inl (Classical.byContradiction fun h9 => e (c3.mpr h9))), fun e => xr_eisZero k1 hm hb hy (fun r6 _ c6 _ => ⟨fun e2 => xr_einfinite k1 hm hb (fun r hr _ => same r ?_), fun e2 => L52 c1 (.inr (Classical.byContradiction fun h9 => e2 (c6.mpr h9)))⟩)⟩)⟩
      unfold fmu
      rw [if_pos c1, if_neg (fun h9 => h9.elim (c3.mp e) (c6.mp e2)), hr, sg_fsp hs]
    unfold w_Exact_product_L18
    refine ⟨k1, xr_eisInfinite k1 hm hb hx (fun r3 _ c3 _ => ⟨fun e => L36 (.inl (Classical.byContradiction fun h9 => e (c3.mpr h9))), fun e3 => xr_eisInfinite k1 hm hb hy (fun r6 _ c6 _ => ⟨fun e6 => ?_, fun e => L36 (.inr (Classical.byContradiction fun h9 => e (c6.mpr h9)))⟩)⟩)⟩
    have ni : ¬ (fmg p b ax = fI_ p b ∨ fmg p b ay = fI_ p b) := fun h9 => h9.elim (c3.mp e3) (c6.mp e6)
    refine xr_eisZero k1 hm hb hx (fun r9 _ c9 _ => ⟨fun e => L82 ni (.inl (Classical.byContradiction fun h9 => e (c9.mpr h9))), fun e9 => xr_eisZero k1 hm hb hy (fun r12 _ c12 _ => ⟨fun e12 => ?_, fun e => L82 ni (.inr (Classical.byContradiction fun h9 => e (c12.mpr h9)))⟩)⟩)
    have zx := c9.mp e9
    have zy := c12.mp e12
    refine xr_esplit hk hm hb hx wx (fun h14 f14 k14 m14 a14 w14 _ _ _ v16 e16 v17 e17 => ?_)
    refine xr_esplit k14 m14 hb hy wy (fun h18 f18 k18 m18 a18 w18 _ _ _ v20 e20 => ?_)
    refine xr_eclear k18 (fun h21 f21 k21 z21 _ => ⟨53 + 1, ?_⟩)
    have rA := fwt_r (a := ax) hb
    have rB := fwt_r (a := ay) hb
    obtain ⟨P0, hP0⟩ : ∃ P0 : Nat, (2200 : Int) + (fwt p b ax + fwt p b ay) = P0 := ⟨(2200 + (fwt p b ax + fwt p b ay)).toNat, by omega⟩
    have pw : 2200 + v20.toInt = (P0 : Int) := by
      rw [e20, z_add, e17, w14, w18]
      omega
    refine xr_eproductL (X := fam p b ax) (y := fam p b ay) (e := fwt p b ax + fwt p b ay) hb pw (by omega) (by rw [e16]; exact a14) (fam_53 hb zx) (fam_p hb zx).1 (Nat.lt_trans (fam_53 hb zy) (by decide)) (fam_p hb zy).1 (by omega) h21 (fun r h' f' g1 g2 g3 => hQ r h' f' ((((f14.tr f18).tr f21).tr g1).mono (by decide)) g2 ?_) 53 0 0 _ h21 rfl rfl k21 (m18.fr f21 (by decide)) ?_ ?_ ?_ eF.rf
    · unfold fmu
      rw [if_neg ni, if_neg (fun h9 => h9.elim zx zy), g3, sg_fsp hs]
    · rw [z21]
      rfl
    · rw [f21.2.2.2.2.2.2 (by decide)]
      exact a18
    · rw [eU_zero, Nat.pow_zero, Nat.mod_one, Nat.mul_zero, Nat.mul_zero]
  unfold w_Exact_product
  refine ⟨k1, xr_eisMinus k1 hm hb hx wx (fun r3 d3 c3 _ => xr_eisMinus k1 hm hb hy wy (fun r5 d5 c5 _ => ?_))⟩
  rw [b01_ne d3 d5 c3 c5, ← fsg_c hb]
  exact ⟨fun e => L18 0 ⟨fun _ => e, fun _ => rfl⟩, fun e => L18 1 ⟨fun h9 => absurd h9 (by decide), fun h9 => absurd h9 e⟩⟩
end XF7

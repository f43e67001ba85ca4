-- equality: the reference's floating instructions
section XFF
variable {ex rw_ p b a ax ay : Nat} {f : Nat → Nat} {h h' : xb_H} {F : List Nat} {τ : Int} {x y : Int64}
theorem fmg_xr (hb : fpb τ p b) : fmg p b (a ^^^ fS p b) = fmg p b a := by
  obtain ⟨k, e, -⟩ := hb.w
  unfold fmg
  rw [e, Nat.xor_mod_two_pow, Nat.mod_self, Nat.xor_zero]
theorem fS_and (hb : fpb τ p b) (wa : fW p b a) : a &&& fS p b = fsg p b a := by
  obtain ⟨k, e, -⟩ := hb.w
  unfold fW at wa
  unfold fsg
  rw [e] at wa ⊢
  have hp : 0 < 2 ^ k := Nat.pow_pos (by decide)
  by_cases h9 : a < 2 ^ k
  · rw [if_pos h9]
    have := and_pc (B := 2 ^ k) (a := 0) (m := 1) (r := a) (s := 0) rfl h9 hp
    rw [Nat.mul_zero, Nat.zero_add, Nat.mul_one, Nat.add_zero, Nat.and_zero, Nat.add_zero, Nat.zero_and, Nat.mul_zero] at this
    exact this
  · rw [if_neg h9]
    have := and_pc (B := 2 ^ k) (a := 1) (m := 1) (r := a - 2 ^ k) (s := 0) rfl (by omega) hp
    rw [Nat.mul_one, Nat.add_zero, Nat.and_zero, Nat.add_zero, show 2 ^ k + (a - 2 ^ k) = a by omega] at this
    rw [this]
    show 2 ^ k * (1 &&& 1) = 2 ^ k
    rw [show (1 &&& 1 : Nat) = 1 from rfl, Nat.mul_one]
theorem xr_efloated {u : Int32} {w : Nat} {Qr : Int64 → xb_H → Prop} (hk : eK ex rw_ f h) (hm : eP ex τ h) (hb : fpb τ p b) (hu : u.toInt = w) (w13 : w ≤ 13) (hx : x.toBitVec.toNat = ax) (hy : y.toBitVec.toNat = ay) (wx : fW p b ax) (wy : fW p b ay)
    (hQ : ∀ (r : Int64) (h' : xb_H) (f' : Nat → Nat), eF ex rw_ eFB h h' → eK ex rw_ f' h' → r.toBitVec.toNat = (if w < 7 then fr1 p b w ax else fr2 p b (w - 7) ax ay) → Qr r h') : w_Exact_floated ex u x y h Qr := by
  have k1 := hk.1.1
  have same : ∀ r : Int64, r.toBitVec.toNat = (if w < 7 then fr1 p b w ax else fr2 p b (w - 7) ax ay) → Qr r h := fun r => hQ r h f eF.rf hk
  have ew : ∀ (k : Int32) (n : Nat), k.toInt = n → (u = k ↔ w = n) := fun k n hk => by rw [z_eq, hu, hk]; omega
  have L92 : (w < 7 → w ≠ 0 ∧ w ≠ 1 ∧ fI_ p b < fmg p b ax) → (¬ w < 7 → w ≠ 13 ∧ (fI_ p b < fmg p b ax ∨ fI_ p b < fmg p b ay)) → w_Exact_floated_L92 Qr ex h := fun c1 c2 => by
    unfold w_Exact_floated_L92
    refine ⟨k1, xr_enoNumber k1 hm hb (fun r hr _ => same r ?_)⟩
    rw [hr]
    by_cases h9 : w < 7
    · obtain ⟨a1, a2, a3⟩ := c1 h9
      rw [if_pos h9]
      unfold fr1
      rw [if_neg a1, if_neg a2]
      by_cases h8 : w = 6
      · rw [if_pos h8]
        unfold frt
        rw [if_neg (by omega), if_pos (.inl a3)]
      · rw [if_neg h8, if_pos a3]
    · obtain ⟨a1, a2⟩ := c2 h9
      rw [if_neg h9]
      unfold fr2
      rw [if_neg (by omega), if_pos a2]
  have L97 : fmg p b ax ≤ fI_ p b → (¬ w < 7 → fmg p b ay ≤ fI_ p b) → w ≠ 0 → w ≠ 1 → w ≠ 13 → w_Exact_floated_L97 Qr ex u x y h := fun nx ny n0 n1 n13 => by
    have v1 : ∀ v : Nat, 2 ≤ w → w ≤ 5 → v = frd p b w ax → v = (if w < 7 then fr1 p b w ax else fr2 p b (w - 7) ax ay) := fun v h1 h2 hv => by
      rw [if_pos (by omega)]
      unfold fr1
      rw [if_neg n0, if_neg n1, if_neg (by omega), if_neg (Nat.not_lt.mpr nx)]
      exact hv
    have v2 : ∀ v : Nat, 7 ≤ w → v = (if w - 7 = 0 then fad p b ax ay else if w - 7 = 1 then fad p b ax (ay ^^^ fS p b) else if w - 7 = 2 then fmu p b ax ay else if w - 7 = 3 then fdv p b ax ay else if w - 7 = 4 then flo p b ax ay else fgr p b ax ay) → v = (if w < 7 then fr1 p b w ax else fr2 p b (w - 7) ax ay) := fun v h1 hv => by
      rw [if_neg (by omega)]
      unfold fr2
      rw [if_neg (by omega), if_neg (fun h9 => h9.elim (Nat.not_lt.mpr nx) (Nat.not_lt.mpr (ny (by omega))))]
      exact hv
    have yx : (y ^^^ (xb_lshl 1 ((xb_i h ex 5) - 1))).toBitVec.toNat = ay ^^^ fS p b := by rw [Z_xor, hy, hm.s hb]
    have L236 : ∀ g : Int32, (g = 0 ∨ g = 1) → (g = 0 → w = 11) → (g ≠ 0 → w = 12) → w_Exact_floated_L236 Qr x y g ex h := fun g hg g0 g1 => by
      unfold w_Exact_floated_L236
      refine ⟨k1, xr_elesser k1 hm hb hg hx hy wx wy (fun r hr _ => same r ?_)⟩
      rw [hr]
      by_cases h9 : g = 0
      · have := g0 h9
        refine v2 _ (by omega) ?_
        rw [if_pos h9, if_neg (by omega), if_neg (by omega), if_neg (by omega), if_neg (by omega), if_pos (by omega)]
      · have := g1 h9
        refine v2 _ (by omega) ?_
        rw [if_neg h9, if_neg (by omega), if_neg (by omega), if_neg (by omega), if_neg (by omega), if_neg (by omega)]
    unfold w_Exact_floated_L97
    rw [ew 2 2 rfl, ew 3 3 rfl, ew 4 4 rfl, ew 5 5 rfl, ew 6 6 rfl, ew 7 7 rfl, ew 8 8 rfl, ew 9 9 rfl, ew 10 10 rfl, ew 12 12 rfl]
    refine ⟨fun e => ⟨k1, xr_ewhole (w := w) hk hm hb hx wx (by rw [e]; rfl) (by omega) (by omega) (fun r h' f' g1 g2 g3 _ => hQ r h' f' g1 g2 (v1 _ (by omega) (by omega) g3))⟩, fun e => ⟨k1, xr_ewhole (w := w) hk hm hb hx wx (by rw [e]; rfl) (by omega) (by omega) (fun r h' f' g1 g2 g3 _ => hQ r h' f' g1 g2 (v1 _ (by omega) (by omega) g3))⟩, fun e => ⟨k1, xr_ewhole (w := w) hk hm hb hx wx (by rw [e]; rfl) (by omega) (by omega) (fun r h' f' g1 g2 g3 _ => hQ r h' f' g1 g2 (v1 _ (by omega) (by omega) g3))⟩, fun e => ⟨k1, xr_ewhole (w := w) hk hm hb hx wx (by rw [e]; rfl) (by omega) (by omega) (fun r h' f' g1 g2 g3 _ => hQ r h' f' g1 g2 (v1 _ (by omega) (by omega) g3))⟩, fun e => ⟨k1, xr_eroot hk hm hb hx wx nx (fun r h' f' g1 g2 g3 _ => hQ r h' f' g1 g2 ?_)⟩, fun e => ⟨k1, xr_esum hk hm hb hx hy wx wy nx (ny (by omega)) (fun r h' f' g1 g2 g3 _ => hQ r h' f' g1 g2 (v2 _ (by omega) ?_))⟩, fun e => ⟨k1, xr_esum hk hm hb hx yx wx (wy.xr hb) nx (by rw [fmg_xr hb]; exact ny (by omega)) (fun r h' f' g1 g2 g3 _ => hQ r h' f' g1 g2 (v2 _ (by omega) ?_))⟩, fun e => ⟨k1, xr_eproduct hk hm hb hx hy wx wy (fun r h' f' g1 g2 g3 _ => hQ r h' f' g1 g2 (v2 _ (by omega) ?_))⟩, fun e => ⟨k1, xr_equotient hk hm hb hx hy wx wy (fun r h' f' g1 g2 g3 _ => hQ r h' f' g1 g2 (v2 _ (by omega) ?_))⟩, fun e2 e3 e4 e5 e6 e7 e8 e9 ea => ⟨fun n12 => L236 0 (.inl rfl) (fun _ => by omega) (fun h9 => absurd rfl h9), fun e12 => L236 1 (.inr rfl) (fun h9 => absurd h9 (by decide)) (fun _ => e12)⟩⟩
    · rw [g3, if_pos (by omega)]
      unfold fr1
      rw [if_neg n0, if_neg n1, if_pos e]
    · rw [g3, if_pos (by omega)]
    · rw [g3, if_neg (by omega), if_pos (by omega)]
    · rw [g3, if_neg (by omega), if_neg (by omega), if_pos (by omega)]
    · rw [g3, if_neg (by omega), if_neg (by omega), if_neg (by omega), if_pos (by omega)]
  have l6 : u ≤ 6 ↔ w < 7 := by rw [z_le, hu, show (6 : Int32).toInt = 6 from rfl]; omega
  unfold w_Exact_floated
  rw [ew 0 0 rfl, ew 1 1 rfl, ew 13 13 rfl, l6]
  refine ⟨fun e => ⟨k1, xr_esize k1 hm hb hx (fun r hr _ => same r ?_)⟩, fun e => ⟨k1, same _ ?_⟩, fun e => ⟨k1, xr_esize k1 hm hb hx (fun r10 e10 _ => xr_eisMinus k1 hm hb hy wy (fun r12 _ c12 _ => xr_esigned k1 hm hb e10 (fun r hr _ => same r ?_)))⟩, fun n0 n1 n13 => ⟨k1, xr_eisNone k1 hm hb hx (fun r17 _ c17 _ => ⟨fun e17 => ?_, fun e17 => ⟨fun l7 => L97 (c17.mp e17) (fun h9 => absurd l7 h9) n0 n1 n13, fun l7 => xr_eisNone k1 hm hb hy (fun r21 _ c21 _ => ⟨fun e21 => L97 (c17.mp e17) (fun _ => c21.mp e21) n0 n1 n13, fun e21 => L92 (fun h9 => absurd h9 l7) (fun _ => ⟨n13, .inr (Nat.not_le.mp fun h9 => e21 (c21.mpr h9))⟩)⟩)⟩⟩)⟩⟩
  · rw [hr, if_pos (by omega)]
    unfold fr1
    rw [if_pos e]
  · rw [Z_xor, hx, hm.s hb, if_pos (by omega)]
    unfold fr1
    rw [if_neg (by omega), if_pos e]
  · rw [hr, if_neg (show ¬ w < 7 by omega)]
    unfold fr2
    rw [if_pos (show w - 7 = 6 by omega), fS_and hb wy, Nat.or_comm]
    congr 1
    unfold fsg
    by_cases h9 : r12 = 0
    · rw [if_pos h9, if_pos (c12.mp h9)]
    · rw [if_neg h9, if_neg (fun h8 => h9 (c12.mpr h8))]
  · have nx : fI_ p b < fmg p b ax := Nat.not_le.mp fun h9 => e17 (c17.mpr h9)
    exact L92 (fun _ => ⟨n0, n1, nx⟩) (fun _ => ⟨n13, .inl nx⟩)
end XFF

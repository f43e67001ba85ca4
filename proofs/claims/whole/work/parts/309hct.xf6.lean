-- equality, floating point: the reference's sum (its method)
section XF6
variable {ex rw_ p b a ax ay A B : Nat} {f : Nat → Nat} {h h' : xb_H} {F : List Nat} {τ : Int} {x y : Int64}
theorem fad_z {t : Int32} (hb : fpb τ p b) (wA : fW p b A) (h0 : fmg p b A ≠ 0) (hA : fmg p b A < fI_ p b) (hB : fmg p b B = 0) :
    fsg p b A ||| rnF p b (if t = 0 then fam p b A * 2 ^ (fwt p b A - min (fwt p b A) (fwt p b B)).toNat + fam p b B * 2 ^ (fwt p b B - min (fwt p b A) (fwt p b B)).toNat else fam p b A * 2 ^ (fwt p b A - min (fwt p b A) (fwt p b B)).toNat - fam p b B * 2 ^ (fwt p b B - min (fwt p b A) (fwt p b B)).toNat) (min (fwt p b A) (fwt p b B)) = A := by
  rw [fam_0 hB, Nat.zero_mul, Nat.add_zero, Nat.sub_zero, ite_self]
  have e : min (fwt p b A) (fwt p b B) = fwt p b A - ((fwt p b A - min (fwt p b A) (fwt p b B)).toNat : Int) := by omega
  generalize (fwt p b A - min (fwt p b A) (fwt p b B)).toNat = j at *
  rw [e, rnF_sc (fam_p hb h0).1, rn_id hb h0 hA, fW.or hb wA]
theorem fad_f1 (h0 : fmg p b A ≠ 0) (hA : fmg p b A < fI_ p b) (hB : fmg p b B ≤ fmg p b A) : fad p b A B = if fmg p b B = 0 then A else faF p b A B := by
  unfold fad
  rw [if_neg (show ¬ fmg p b A = fI_ p b by omega), if_neg (show ¬ fmg p b B = fI_ p b by omega), if_neg h0]
theorem fad_f2 (h0 : fmg p b A ≠ 0) (hA : fmg p b A < fI_ p b) (hB : fmg p b B ≤ fmg p b A) : fad p b B A = if fmg p b B = 0 then A else faF p b B A := by
  unfold fad
  rw [if_neg (show ¬ fmg p b B = fI_ p b by omega), if_neg (show ¬ fmg p b A = fI_ p b by omega), if_neg h0, if_neg h0]
theorem faF_s (he : fsg p b A = fsg p b B) : faF p b A B = fsg p b A ||| rnF p b (fam p b A * 2 ^ (fwt p b A - min (fwt p b A) (fwt p b B)).toNat + fam p b B * 2 ^ (fwt p b B - min (fwt p b A) (fwt p b B)).toNat) (min (fwt p b A) (fwt p b B)) := by
  unfold faF
  rw [if_pos he]
theorem faF_d (hb : fpb τ p b) (he : ¬ fsg p b A = fsg p b B) (hl : fmg p b B < fmg p b A) : faF p b A B = fsg p b A ||| rnF p b (fam p b A * 2 ^ (fwt p b A - min (fwt p b A) (fwt p b B)).toNat - fam p b B * 2 ^ (fwt p b B - min (fwt p b A) (fwt p b B)).toNat) (min (fwt p b A) (fwt p b B)) := by
  have rA := fwt_r (a := A) hb
  have rB := fwt_r (a := B) hb
  have sl := sc_lt hb (Int.min_le_left _ _) (Int.min_le_right _ _) (show -1074 ≤ min (fwt p b A) (fwt p b B) by omega) hl
  unfold faF
  rw [if_neg he]
  generalize fam p b A * 2 ^ (fwt p b A - min (fwt p b A) (fwt p b B)).toNat = SA at *
  generalize fam p b B * 2 ^ (fwt p b B - min (fwt p b A) (fwt p b B)).toNat = SB at *
  rw [if_neg (by omega), if_pos sl]
theorem faF_e (hb : fpb τ p b) (he : ¬ fsg p b B = fsg p b A) (hl : fmg p b B < fmg p b A) : faF p b B A = fsg p b A ||| rnF p b (fam p b A * 2 ^ (fwt p b A - min (fwt p b A) (fwt p b B)).toNat - fam p b B * 2 ^ (fwt p b B - min (fwt p b A) (fwt p b B)).toNat) (min (fwt p b A) (fwt p b B)) := by
  have rA := fwt_r (a := A) hb
  have rB := fwt_r (a := B) hb
  have sl := sc_lt hb (Int.min_le_left _ _) (Int.min_le_right _ _) (show -1074 ≤ min (fwt p b A) (fwt p b B) by omega) hl
  unfold faF
  rw [if_neg he, Int.min_comm (fwt p b B)]
  generalize fam p b A * 2 ^ (fwt p b A - min (fwt p b A) (fwt p b B)).toNat = SA at *
  generalize fam p b B * 2 ^ (fwt p b B - min (fwt p b A) (fwt p b B)).toNat = SB at *
  rw [if_neg (by omega), if_neg (by omega)]
theorem fad_1 {t : Int32} (hb : fpb τ p b) (wA : fW p b A) (h0 : fmg p b A ≠ 0) (hA : fmg p b A < fI_ p b) (hB : fmg p b B ≤ fmg p b A) (ht : t = 0 ↔ fsg p b A = fsg p b B) (hl : t ≠ 0 → fmg p b B < fmg p b A) :
    fsg p b A ||| rnF p b (if t = 0 then fam p b A * 2 ^ (fwt p b A - min (fwt p b A) (fwt p b B)).toNat + fam p b B * 2 ^ (fwt p b B - min (fwt p b A) (fwt p b B)).toNat else fam p b A * 2 ^ (fwt p b A - min (fwt p b A) (fwt p b B)).toNat - fam p b B * 2 ^ (fwt p b B - min (fwt p b A) (fwt p b B)).toNat) (min (fwt p b A) (fwt p b B)) = fad p b A B := by
  rw [fad_f1 h0 hA hB]
  by_cases hz : fmg p b B = 0
  · rw [fad_z hb wA h0 hA hz, if_pos hz]
  · rw [if_neg hz]
    by_cases e : t = 0
    · rw [if_pos e, faF_s (ht.mp e)]
    · rw [if_neg e, faF_d hb (fun h9 => e (ht.mpr h9)) (hl e)]
theorem fad_2 {t : Int32} (hb : fpb τ p b) (wA : fW p b A) (h0 : fmg p b A ≠ 0) (hA : fmg p b A < fI_ p b) (hB : fmg p b B ≤ fmg p b A) (ht : t = 0 ↔ fsg p b A = fsg p b B) (hl : t ≠ 0 → fmg p b B < fmg p b A) :
    fsg p b A ||| rnF p b (if t = 0 then fam p b A * 2 ^ (fwt p b A - min (fwt p b A) (fwt p b B)).toNat + fam p b B * 2 ^ (fwt p b B - min (fwt p b A) (fwt p b B)).toNat else fam p b A * 2 ^ (fwt p b A - min (fwt p b A) (fwt p b B)).toNat - fam p b B * 2 ^ (fwt p b B - min (fwt p b A) (fwt p b B)).toNat) (min (fwt p b A) (fwt p b B)) = fad p b B A := by
  rw [fad_f2 h0 hA hB]
  by_cases hz : fmg p b B = 0
  · rw [fad_z hb wA h0 hA hz, if_pos hz]
  · rw [if_neg hz]
    by_cases e : t = 0
    · rw [if_pos e, faF_s (ht.mp e).symm, ht.mp e, Int.min_comm (fwt p b B), Nat.add_comm]
    · rw [if_neg e, faF_e hb (fun h9 => e (ht.mpr h9.symm)) (hl e)]
theorem fsg_c (hb : fpb τ p b) : fsg p b A = fsg p b B ↔ (A < fS p b ↔ B < fS p b) := by
  have h0 : 0 < fS p b := Nat.lt_of_le_of_lt (Nat.zero_le _) (fmg_lt (a := 0) hb)
  unfold fsg
  by_cases h1 : A < fS p b <;> by_cases h2 : B < fS p b
  · rw [if_pos h1, if_pos h2]; exact ⟨fun _ => ⟨fun _ => h2, fun _ => h1⟩, fun _ => rfl⟩
  · rw [if_pos h1, if_neg h2]; exact ⟨fun h9 => absurd h9 (by omega), fun h9 => absurd (h9.mp h1) h2⟩
  · rw [if_neg h1, if_pos h2]; exact ⟨fun h9 => absurd h9 (by omega), fun h9 => absurd (h9.mpr h2) h1⟩
  · rw [if_neg h1, if_neg h2]; exact ⟨fun _ => ⟨fun h9 => absurd h9 h1, fun h9 => absurd h9 h2⟩, fun _ => rfl⟩
theorem b01_ne {r s : Int32} {P Q : Prop} (hr : r = 0 ∨ r = 1) (hs : s = 0 ∨ s = 1) (h1 : r = 0 ↔ P) (h2 : s = 0 ↔ Q) : r = s ↔ (P ↔ Q) := by
  rw [← h1, ← h2]
  rcases hr with e | e <;> rcases hs with g | g <;> rw [e, g] <;> decide
theorem fz_and (hb : fpb τ p b) (wx : fW p b ax) (wy : fW p b ay) (zx : fmg p b ax = 0) (zy : fmg p b ay = 0) : ax &&& ay = if ¬ ax < fS p b ∧ ¬ ay < fS p b then fS p b else 0 := by
  have d1 := fW.d wx
  have d2 := fW.d wy
  rw [zx, Nat.zero_add] at d1
  rw [zy, Nat.zero_add] at d2
  by_cases h1 : ax < fS p b
  · rw [if_pos h1] at d1
    rw [if_neg (fun h9 => h9.1 h1), d1, Nat.zero_and]
  · rw [if_neg h1] at d1
    by_cases h2 : ay < fS p b
    · rw [if_pos h2] at d2
      rw [if_neg (fun h9 => h9.2 h2), d2, Nat.and_zero]
    · rw [if_neg h2] at d2
      rw [if_pos ⟨h1, h2⟩, d1, d2, Nat.and_self]
theorem xr_esum {Qr : Int64 → xb_H → Prop} (hk : eK ex rw_ f h) (hm : eP ex τ h) (hb : fpb τ p b) (hx : x.toBitVec.toNat = ax) (hy : y.toBitVec.toNat = ay) (wx : fW p b ax) (wy : fW p b ay) (nx : fmg p b ax ≤ fI_ p b) (ny : fmg p b ay ≤ fI_ p b)
    (hQ : ∀ (r : Int64) (h' : xb_H) (f' : Nat → Nat), eF ex rw_ eFB h h' → eK ex rw_ f' h' → r.toBitVec.toNat = fad p b ax ay → Qr r h') : w_Exact_sum ex x y h Qr := by
  have k1 := hk.1.1
  have same : ∀ r : Int64, r.toBitVec.toNat = fad p b ax ay → Qr r h := fun r => hQ r h f eF.rf hk
  have L45 : (fmg p b ax = fI_ p b ∧ ¬ (fmg p b ay = fI_ p b ∧ ax ≠ ay)) ∨ (fmg p b ax ≠ fI_ p b ∧ fmg p b ay = fI_ p b) → w_Exact_sum_L45 Qr ex x y h := by
    intro hc
    unfold w_Exact_sum_L45 w_Exact_sum_L58
    refine ⟨k1, xr_eisInfinite k1 hm hb hx (fun r _ c _ => ⟨fun e => same _ ?_, fun e => same _ ?_⟩)⟩
    · have e1 := c.mp e
      have e2 : fmg p b ay = fI_ p b := hc.elim (fun h9 => absurd h9.1 e1) (fun h9 => h9.2)
      unfold fad
      rw [if_neg e1, if_pos e2]
      exact hy
    · have e1 : fmg p b ax = fI_ p b := Classical.byContradiction fun h9 => e (c.mpr h9)
      unfold fad
      rw [if_pos e1, if_neg (hc.elim (fun h9 => h9.2) (fun h9 => absurd e1 h9.1))]
      exact hx
  have L16 : fmg p b ax = fI_ p b ∨ fmg p b ay = fI_ p b → w_Exact_sum_L16 Qr ex x y h := by
    intro hc
    have exy : x = y ↔ ax = ay := by rw [Z_eqN, hx, hy]
    unfold w_Exact_sum_L16 w_Exact_sum_L58
    rw [exy]
    refine ⟨k1, xr_eisInfinite k1 hm hb hx (fun r3 _ c3 _ => ⟨fun e => L45 (.inr ⟨c3.mp e, hc.elim (fun h9 => absurd h9 (c3.mp e)) id⟩), fun e => xr_eisInfinite k1 hm hb hy (fun r6 _ c6 _ => ⟨fun e2 => L45 (.inl ⟨?_, fun h9 => c6.mp e2 h9.1⟩), fun e2 => ⟨fun e3 => L45 (.inl ⟨?_, fun h9 => h9.2 e3⟩), fun e3 => xr_enoNumber k1 hm hb (fun r hr _ => same r ?_)⟩⟩)⟩)⟩
    · exact Classical.byContradiction fun h9 => e (c3.mpr h9)
    · exact Classical.byContradiction fun h9 => e (c3.mpr h9)
    · have g1 : fmg p b ax = fI_ p b := Classical.byContradiction fun h9 => e (c3.mpr h9)
      have g2 : fmg p b ay = fI_ p b := Classical.byContradiction fun h9 => e2 (c6.mpr h9)
      unfold fad
      rw [if_pos g1, if_pos ⟨g2, e3⟩]
      exact hr
  -- both are finite
  have L152 : fmg p b ax < fI_ p b → fmg p b ay < fI_ p b → fmg p b ax = fmg p b ay → (fsg p b ax ≠ fsg p b ay ∨ fmg p b ax = 0) → w_Exact_sum_L152 Qr ex x y h := by
    intro fx fy eq hc
    have val : fad p b ax ay = if ¬ ax < fS p b ∧ ¬ ay < fS p b then fS p b else 0 := by
      unfold fad
      rw [if_neg (by omega), if_neg (by omega)]
      by_cases h9 : fmg p b ax = 0
      · rw [if_pos h9, if_pos (by omega)]
        exact fz_and hb wx wy h9 (by omega)
      · have ns : fsg p b ax ≠ fsg p b ay := hc.elim id (fun h8 => absurd h8 h9)
        have ns2 := fun h8 => ns ((fsg_c hb).mpr h8)
        have ew : fwt p b ax = fwt p b ay := by
          unfold fwt ffl
          rw [eq]
        have ea : fam p b ax = fam p b ay := by
          unfold fam ffl
          rw [eq]
        rw [if_neg h9, if_neg (by omega)]
        unfold faF
        rw [if_neg ns, if_pos (by rw [ew, ea])]
        rw [if_neg (fun h8 => ns2 ⟨fun h7 => absurd h7 h8.1, fun h7 => absurd h7 h8.2⟩)]
    have L175 : ∀ s : Int32, (s = 0 → ¬ (¬ ax < fS p b ∧ ¬ ay < fS p b)) → (s ≠ 0 → (¬ ax < fS p b ∧ ¬ ay < fS p b)) → w_Exact_sum_L175 Qr s 0 ex h := by
      intro s h1 h2
      unfold w_Exact_sum_L175
      refine ⟨k1, xr_esigned k1 hm hb (n := 0) rfl (fun r hr _ => same r ?_)⟩
      rw [hr, val, Nat.or_zero]
      by_cases h9 : s = 0
      · rw [if_pos h9, if_neg (h1 h9)]
      · rw [if_neg h9, if_pos (h2 h9)]
    unfold w_Exact_sum_L152 w_Exact_sum_L174
    refine ⟨k1, xr_eisMinus k1 hm hb hx wx (fun r3 _ c3 _ => ⟨fun e => L175 0 (fun _ h9 => h9.1 (c3.mp e)) (fun h9 => absurd rfl h9), fun e => xr_eisMinus k1 hm hb hy wy (fun r6 _ c6 _ => ⟨fun e2 => L175 0 (fun _ h9 => h9.2 (c6.mp e2)) (fun h9 => absurd rfl h9), fun e2 => L175 1 (fun h9 => absurd h9 (by decide)) (fun _ => ⟨fun h9 => e (c3.mpr h9), fun h9 => e2 (c6.mpr h9)⟩)⟩)⟩)⟩
  have L102 : fmg p b ax < fI_ p b → fmg p b ay < fI_ p b → ∀ (u v : Int64) (A B : Nat), ((A = ax ∧ B = ay) ∨ (A = ay ∧ B = ax)) → u.toBitVec.toNat = A → v.toBitVec.toNat = B → fmg p b B ≤ fmg p b A → w_Exact_sum_L102 Qr ex x y u v h := by
    intro fx fy u v A B hAB hu hv hl
    have wA : fW p b A := by rcases hAB with ⟨e1, e2⟩ | ⟨e1, e2⟩ <;> rw [e1] <;> assumption
    have wB : fW p b B := by rcases hAB with ⟨e1, e2⟩ | ⟨e1, e2⟩ <;> rw [e2] <;> assumption
    have fA : fmg p b A < fI_ p b := by rcases hAB with ⟨e1, e2⟩ | ⟨e1, e2⟩ <;> rw [e1] <;> assumption
    have mx : fmg p b ax = fmg p b ay ↔ fmg p b A = fmg p b B := by
      rcases hAB with ⟨e1, e2⟩ | ⟨e1, e2⟩ <;> rw [e1, e2]
      exact ⟨Eq.symm, Eq.symm⟩
    have sx : fsg p b ax = fsg p b ay ↔ fsg p b A = fsg p b B := by
      rcases hAB with ⟨e1, e2⟩ | ⟨e1, e2⟩ <;> rw [e1, e2]
      exact ⟨Eq.symm, Eq.symm⟩
    have L143 : ∀ t : Int32, (t = 0 ↔ fsg p b ax = fsg p b ay) → (fmg p b ax = fmg p b ay → t = 0) → w_Exact_sum_L143 Qr ex x y u v t h := fun t ht hz => by
      unfold w_Exact_sum_L143
      refine ⟨k1, xr_eisZero k1 hm hb hu (fun r3 _ c3 _ => ⟨fun e => xr_esumT hk hm hb hu hv wA wB (c3.mp e) hl (fun h9 => ?_) (fun r h' f' g1 g2 g3 => hQ r h' f' g1 g2 ?_), fun e => ?_⟩)⟩
      · rcases Nat.lt_or_eq_of_le hl with h8 | h8
        · exact h8
        · exact absurd (hz (mx.mpr h8.symm)) h9
      · rw [g3]
        have hl2 : t ≠ 0 → fmg p b B < fmg p b A := fun h9 => by
          rcases Nat.lt_or_eq_of_le hl with h8 | h8
          · exact h8
          · exact absurd (hz (mx.mpr h8.symm)) h9
        rcases hAB with ⟨e1, e2⟩ | ⟨e1, e2⟩
        · rw [← e1, ← e2]
          exact fad_1 hb wA (c3.mp e) fA hl (ht.trans sx) hl2
        · rw [← e1, ← e2]
          exact fad_2 hb wA (c3.mp e) fA hl (ht.trans sx) hl2
      · have z : fmg p b A = 0 := Classical.byContradiction fun h9 => e (c3.mpr h9)
        have z2 : fmg p b B = 0 := by omega
        refine L152 fx fy (mx.mpr (by omega)) (.inr ?_)
        rcases hAB with ⟨e1, e2⟩ | ⟨e1, e2⟩
        · rw [← e1]; exact z
        · rw [← e2]; exact z2
    have L122 : ∀ t : Int32, (t = 0 ∨ t = 1) → (t = 0 ↔ fsg p b ax = fsg p b ay) → w_Exact_sum_L122 Qr ex x y u v t h := fun t _ ht => by
      unfold w_Exact_sum_L122
      refine ⟨k1, xr_esize k1 hm hb hx (fun r3 e3 _ => xr_esize k1 hm hb hy (fun r5 e5 _ => ?_))⟩
      rw [Z_eqN, e3, e5]
      exact ⟨fun e => L143 t ht (fun h9 => absurd h9 e), fun e => ⟨fun e2 => L152 fx fy e (.inl (fun h9 => e2 (ht.mpr h9))), fun e2 => L143 t ht (fun _ => e2)⟩⟩
    unfold w_Exact_sum_L102
    refine ⟨k1, xr_eisMinus k1 hm hb hx wx (fun r3 d3 c3 _ => xr_eisMinus k1 hm hb hy wy (fun r5 d5 c5 _ => ?_))⟩
    have q := b01_ne d3 d5 c3 c5
    rw [q, ← fsg_c hb]
    exact ⟨fun e => L122 0 (.inl rfl) ⟨fun _ => e, fun _ => rfl⟩, fun e => L122 1 (.inr rfl) ⟨fun h9 => absurd h9 (by decide), fun h9 => absurd h9 e⟩⟩
  unfold w_Exact_sum
  refine ⟨k1, xr_eisInfinite k1 hm hb hx (fun r3 _ c3 _ => ⟨fun e => L16 (.inl (Classical.byContradiction fun h9 => e (c3.mpr h9))), fun e => xr_eisInfinite k1 hm hb hy (fun r6 _ c6 _ => ⟨fun e2 => ?_, fun e2 => L16 (.inr (Classical.byContradiction fun h9 => e2 (c6.mpr h9)))⟩)⟩)⟩
  have fx : fmg p b ax < fI_ p b := Nat.lt_of_le_of_ne nx (c3.mp e)
  have fy : fmg p b ay < fI_ p b := Nat.lt_of_le_of_ne ny (c6.mp e2)
  refine xr_esize k1 hm hb hy (fun r9 e9 _ => xr_esize k1 hm hb hx (fun r11 e11 _ => ?_))
  rw [Z_leN (by rw [e9]; exact fmg_63 hb) (by rw [e11]; exact fmg_63 hb), e9, e11]
  unfold w_Exact_sum_L78 w_Exact_sum_L90
  refine ⟨fun g => ?_, fun g => ?_⟩
  · have := L102 fx fy x y ax ay (.inl ⟨rfl, rfl⟩) hx hy g
    exact ⟨fun _ => ⟨fun _ => this, fun h9 => absurd rfl h9⟩, fun h9 => absurd rfl h9⟩
  · have := L102 fx fy y x ay ax (.inr ⟨rfl, rfl⟩) hy hx (by omega)
    exact ⟨fun h9 => absurd h9 (by decide), fun _ => ⟨fun h9 => absurd h9 (by decide), fun _ => this⟩⟩
end XF6

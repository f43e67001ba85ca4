-- the reference's exact numbers: adding, taking, rounding
theorem Z_bit1 (v : Int64) : (Int64.toInt32 (v &&& 1)).toInt = (v.toBitVec.toNat % 2 : Nat) := by
  have e1 : (v &&& 1).toInt = v.toInt % (2 ^ 1 : Nat) := Z_mask v 1 rfl (by omega)
  have e2 := Z_nat v
  rw [z_of64, e1]
  omega
theorem Z_zero {v : Int64} : v = 0 ↔ v.toBitVec.toNat = 0 := by
  rw [Z_eq, show (0 : Int64).toInt = 0 from rfl]
  have e2 := Z_nat v
  have e3 := Z_rg v
  omega
section EX2
variable {ex rw_ : Nat} {f g : Nat → Nat} {h h' h2 : xb_H} {F F2 : List Nat}
/-- a cell changes, and all that is behind it stays marked -/
theorem eK.set (hk : eK ex rw_ f h) {p v : Nat} {x : Int32} (hx : x.toInt = v) (hv : v ≤ 1) (hlo : ∃ lo hi : Nat, (xb_i h ex 2).toInt = lo ∧ (xb_i h ex 3).toInt = hi ∧ lo ≤ p ∧ p ≤ hi) : eK ex rw_ (va_up f p v) (xb_I h rw_ p x) := by
  obtain ⟨k1, k2, lo, hi, k3, k4, k5, k6, k7, k8⟩ := hk
  obtain ⟨lo', hi', j1, j2, j3, j4⟩ := hlo
  have e1 : lo' = lo := by omega
  have e2 : hi' = hi := by omega
  subst e1 e2
  have jx : ∀ i, xb_i (xb_I h rw_ p x) ex i = xb_i h ex i := fun i => by rw [xh_iI, if_neg k1.ne]
  refine ⟨k1.fr (eF.R k1), by rw [jx]; exact k2, lo', hi', by rw [jx]; exact k3, by rw [jx]; exact k4, k5, k6, fun j => ?_, fun j hj => ?_⟩
  · rw [xh_iI, if_pos rfl, xh_up, xh_up]
    split
    · exact ⟨hx, hv⟩
    · exact k7 j
  · rw [xh_up, if_neg (by omega)]
    exact k8 j hj
theorem eK.rc (hk : eK ex rw_ f h) (e1 : eF ex rw_ [2, 3] h h') (e2 : xb_i h' rw_ = xb_i h rw_) (h3 : ∃ lo hi : Nat, (xb_i h' ex 2).toInt = lo ∧ (xb_i h' ex 3).toInt = hi ∧ hi < 4400 ∧ lo ≤ 4400 ∧ ∀ j, (j < lo ∨ hi < j) → f j = 0) : eK ex rw_ f h' := by
  obtain ⟨k1, k2, -, -, -, -, -, -, k7, -⟩ := hk
  obtain ⟨lo, hi, j1, j2, j3, j4, j5⟩ := h3
  exact ⟨k1.fr e1, by rw [e1.2.2.2.2.2.1 4 (by decide)]; exact k2, lo, hi, j1, j2, j3, j4, fun j => by rw [e2]; exact k7 j, j5⟩
theorem sp_eaddL {Qr : xb_H → Prop} (Q0 : ∀ (f' : Nat → Nat) (h' : xb_H), True) : ∀ (m : Nat) (x4 x5 : Int32) (x6 : Int64) (p c : Nat) (f : Nat → Nat) (h : xb_H), x5.toInt = p → x4.toInt = c → c ≤ 1 → p + m = 4400 → eK ex rw_ f h → (0 < m → ∃ lo hi : Nat, (xb_i h ex 2).toInt = lo ∧ (xb_i h ex 3).toInt = hi ∧ lo ≤ p ∧ (p ≤ hi ∨ p = hi + 1)) → eU f p m + x6.toBitVec.toNat + c < 2 ^ m → (∀ (f' : Nat → Nat) (h' : xb_H), eF ex rw_ [2, 3] h h' → eK ex rw_ f' h' → (∀ j, j < p → f' j = f j) → eU f' p m = eU f p m + x6.toBitVec.toNat + c → Qr h') → w_Exact_add_L21 Qr (m + 1) ex x4 x5 x6 h := by
  intro m
  induction m with
  | zero =>
    intro x4 x5 x6 p c f h e5 e4 hc hp hk hlo hU hQ
    have z : x6 = 0 := Z_zero.mpr (by simp only [Nat.pow_zero] at hU; omega)
    unfold w_Exact_add_L21
    refine ⟨fun e => absurd z e, fun _ => ⟨fun _ => hQ f h eF.rf hk (fun _ _ => rfl) ?_, fun e => ?_⟩⟩
    · simp only [Nat.pow_zero] at hU
      show 0 = 0 + _ + _
      omega
    · rw [z_le, e4, show (0 : Int32).toInt = 0 from rfl] at e
      simp only [Nat.pow_zero] at hU
      omega
  | succ m ih =>
    intro x4 x5 x6 p c f h e5 e4 hc hp hk hlo hU hQ
    obtain ⟨k1, k2, lo, hi, k3, k4, k5, k6, k7, k8⟩ := id hk
    have hU1 : eU f p (m + 1) = f p + 2 * eU f (p + 1) m := rfl
    have hfp := (k7 p).2
    have cp : x5.toNatClampNeg = p := by rw [z_cl, e5, Int.toNat_natCast]
    have L33 : w_Exact_add_L33 (w_Exact_add_L21 Qr (m + 1)) Qr ex x4 x5 x6 h := by
      unfold w_Exact_add_L33
      rw [cp]
      refine ⟨k1.1, rw_, k1.2.1, k1.2.2.1, by rw [z_in, e5, k1.2.2.2]; omega, fun v5 ev5 => ⟨rw_, k1.2.1, k1.2.2.1, by rw [z_in, e5, k1.2.2.2]; omega, fun h9 e9 v10 e10 => ?_⟩⟩
      have hv5 : v5.toInt = (f p + x6.toBitVec.toNat % 2 + c : Nat) := by
        have y1 : (xb_i h rw_ p + Int64.toInt32 (x6 &&& 1)).toInt = (f p + x6.toBitVec.toNat % 2 : Nat) := by
          rw [z_add, (k7 p).1, Z_bit1]
          omega
        rw [ev5, z_add, y1, e4]
        omega
      have hv10 : v10.toInt = ((f p + x6.toBitVec.toNat % 2 + c) / 2 : Nat) := by
        rw [e10, z_sar1, hv5]
        omega
      have hbit := z_bit (v := v5) (by omega)
      -- the cell is within what is marked, or just above it
      have f9 : eF ex rw_ [] h h9 := by rw [e9]; exact eF.R k1
      have s9 := k1.fr f9
      have i9 : ∀ j, xb_i h9 ex j = xb_i h ex j := fun j => f9.2.2.2.2.2.1 j (by simp)
      -- mark first, in thought: reach works on numbers alone
      obtain ⟨lo', hi', q1, q2, q3, q4⟩ := hlo (by omega)
      have elo : lo' = lo := by omega
      have ehi : hi' = hi := by omega
      subst elo ehi
      obtain ⟨g', hg'⟩ : ∃ g' : Nat → Nat, g' = va_up f p ((f p + x6.toBitVec.toNat % 2 + c) % 2) := ⟨_, rfl⟩
      have r9 : ∀ j, (xb_i h9 rw_ j).toInt = g' j ∧ g' j ≤ 1 := by
        intro j
        rw [e9, xh_iI, if_pos rfl, hg', xh_up, xh_up]
        split
        · rw [hbit, hv5]
          omega
        · exact k7 j
      -- reach: as for a row that is marked up to p
      unfold w_Exact_reach
      have kq : ∀ (y : Int32) (l' : Nat), y.toInt = l' → l' ≤ p → l' ≤ lo' → w_Exact_reach_L17 (fun (h11 : xb_H) => xb_ext h9 h11 → ∀ v13 : Int64, v13 = (xb_lushr x6 1) → w_Exact_add_L21 Qr (m + 1) ex v10 (x5 + 1) v13 h11) ex x5 y ex h9 := by
        intro y l' hy hl1 hl2
        unfold w_Exact_reach_L17 w_Exact_reach_L37
        refine ⟨s9.1, fun h10 e10' => ?_⟩
        have f10 : eF ex rw_ [2] h9 h10 := by rw [e10']; exact eF.I s9
        have s10 := s9.fr f10
        have i3 : xb_i h10 ex 3 = xb_i h ex 3 := by rw [f10.2.2.2.2.2.1 3 (by decide)]; exact i9 3
        have fin : ∀ (z : Int32) (hh : Nat), z.toInt = hh → p ≤ hh → hi' ≤ hh → hh < 4400 → ∀ h11 : xb_H, h11 = xb_I h10 ex 3 z → xb_ext h9 h11 → ∀ v13 : Int64, v13 = (xb_lushr x6 1) → w_Exact_add_L21 Qr (m + 1) ex v10 (x5 + 1) v13 h11 := by
          intro z hh hz g1 g2 g3 h11 e11 _ v13 e13
          have f11 : eF ex rw_ [3] h10 h11 := by rw [e11]; exact eF.I s10
          have fA : eF ex rw_ [2, 3] h h11 := (f9.tr (f10.tr f11)).mono (by decide)
          have i2 : (xb_i h11 ex 2).toInt = l' := by rw [f11.2.2.2.2.2.1 2 (by decide), e10', xh_iI, if_pos rfl, xh_up, if_pos rfl]; exact hy
          have i3' : (xb_i h11 ex 3).toInt = hh := by rw [e11, xh_iI, if_pos rfl, xh_up, if_pos rfl]; exact hz
          have ir : xb_i h11 rw_ = xb_i h9 rw_ := by rw [e11, xh_iI, if_neg k1.ne.symm, e10', xh_iI, if_neg k1.ne.symm]
          have hk11 : eK ex rw_ g' h11 := by
            refine ⟨k1.fr fA, by rw [fA.2.2.2.2.2.1 4 (by decide)]; exact k2, l', hh, i2, i3', g3, by omega, fun j => by rw [ir]; exact r9 j, fun j hj => ?_⟩
            rw [hg', xh_up, if_neg (by omega)]
            exact k8 j (by omega)
          have hn13 : v13.toBitVec.toNat = x6.toBitVec.toNat / 2 := by rw [e13]; exact Z_even x6
          have eUg : eU g' (p + 1) m = eU f (p + 1) m := eU_cg (fun j h1 _ => by rw [hg', xh_up, if_neg (by omega)])
          rw [Nat.pow_succ] at hU
          refine ih v10 (x5 + 1) v13 (p + 1) ((f p + x6.toBitVec.toNat % 2 + c) / 2) g' h11 (z_inc e5 (by omega)) hv10 (by omega) (by omega) hk11 (fun _ => ⟨l', hh, i2, i3', by omega, by omega⟩) (by rw [eUg, hn13]; omega) (fun f' h' y1 y2 y3 y4 => hQ f' h' ((fA.tr y1).mono (by decide)) y2 (fun j hj => ?_) ?_)
          · rw [y3 j (by omega), hg', xh_up, if_neg (by omega)]
          · have y5 : f' p = (f p + x6.toBitVec.toNat % 2 + c) % 2 := by rw [y3 p (by omega), hg', xh_up, if_pos rfl]
            show f' p + 2 * eU f' (p + 1) m = _
            rw [y4, y5, eUg, hn13, hU1]
            omega
        refine ⟨s10.1, fun e => ⟨s10.1, fun h11 e11 => fin _ hi' (by rw [i3]; exact k4) ?_ (Nat.le_refl _) k5 h11 e11⟩, fun e => ⟨s10.1, fun h11 e11 => fin _ p e5 (Nat.le_refl _) ?_ (by omega) h11 e11⟩⟩
        · rw [z_le, i3, k4, e5] at e
          omega
        · rw [z_le, i3, k4, e5] at e
          omega
      refine ⟨s9.1, fun e => kq _ lo' (by rw [i9]; exact k3) q3 (Nat.le_refl _), fun e => ?_⟩
      rw [z_le, i9, k3, e5] at e
      omega
    unfold w_Exact_add_L21
    refine ⟨fun _ => L33, fun e0 => ⟨fun e => hQ f h eF.rf hk (fun _ _ => rfl) ?_, fun _ => L33⟩⟩
    rw [z_le, e4, show (0 : Int32).toInt = 0 from rfl] at e
    rw [Z_zero.mp e0]
    omega
theorem sp_eadd {x1 : Int64} {x3 : Int32} {p : Nat} {Qr : xb_H → Prop} (hk : eK ex rw_ f h) (hp : 2200 + x3.toInt = p) (hp2 : p < 4400) (hU : eU f p (4400 - p) + x1.toBitVec.toNat < 2 ^ (4400 - p)) (hQ : ∀ (f' : Nat → Nat) (h' : xb_H), eF ex rw_ [2, 3] h h' → eK ex rw_ f' h' → (∀ j, j < p → f' j = f j) → eU f' p (4400 - p) = eU f p (4400 - p) + x1.toBitVec.toNat → Qr h') : w_Exact_add ex x1 x3 h Qr := by
  unfold w_Exact_add
  intro v1 e1
  have hv1 : v1.toInt = p := by
    have := z_rg x3
    rw [e1, z_add, show (2200 : Int32).toInt = 2200 from rfl]
    omega
  refine ⟨hk.1.1, sp_ereach hk hv1 hp2 (fun h3 f3 i3 ⟨lo, hi, j1, j2, j3, j4, j5, j6, j7⟩ _ => ?_)⟩
  have hk3 := hk.rc f3 i3 ⟨lo, hi, j1, j2, j3, j4, j7⟩
  refine ⟨4400 - p + 1, sp_eaddL (fun _ _ => trivial) (4400 - p) 0 v1 x1 p 0 f h3 hv1 rfl (by omega) (by omega) hk3 (fun _ => ⟨lo, hi, j1, j2, j5, .inl j6⟩) (by omega) (fun f' h' y1 y2 y3 y4 => hQ f' h' ((f3.tr y1).mono (by decide)) y2 y3 (by omega))⟩
theorem sp_etakeL {Qr : xb_H → Prop} : ∀ (m : Nat) (x4 x5 : Int32) (x6 : Int64) (p c : Nat) (f : Nat → Nat) (h : xb_H), x5.toInt = p → x4.toInt = c → c ≤ 1 → p + m = 4400 → eK ex rw_ f h → (0 < m → ∃ lo hi : Nat, (xb_i h ex 2).toInt = lo ∧ (xb_i h ex 3).toInt = hi ∧ lo ≤ p ∧ (p ≤ hi ∨ p = hi + 1)) → x6.toBitVec.toNat + c ≤ eU f p m → (∀ (f' : Nat → Nat) (h' : xb_H), eF ex rw_ [2, 3] h h' → eK ex rw_ f' h' → Qr h') → w_Exact_take_L21 Qr (m + 1) ex x4 x5 x6 h := by
  intro m
  induction m with
  | zero =>
    intro x4 x5 x6 p c f h e5 e4 hc hp hk hlo hU hQ
    have hU0 : eU f p 0 = 0 := rfl
    have z : x6 = 0 := Z_zero.mpr (by omega)
    unfold w_Exact_take_L21
    refine ⟨fun e => absurd z e, fun _ => ⟨fun _ => hQ f h eF.rf hk, fun e => ?_⟩⟩
    rw [z_le, e4, show (0 : Int32).toInt = 0 from rfl] at e
    omega
  | succ m ih =>
    intro x4 x5 x6 p c f h e5 e4 hc hp hk hlo hU hQ
    obtain ⟨k1, k2, lo, hi, k3, k4, k5, k6, k7, k8⟩ := id hk
    have hU1 : eU f p (m + 1) = f p + 2 * eU f (p + 1) m := rfl
    have hfp := (k7 p).2
    have cp : x5.toNatClampNeg = p := by rw [z_cl, e5, Int.toNat_natCast]
    have L33 : w_Exact_take_L33 (w_Exact_take_L21 Qr (m + 1)) Qr ex x4 x5 x6 h := by
      unfold w_Exact_take_L33
      rw [cp]
      refine ⟨k1.1, rw_, k1.2.1, k1.2.2.1, by rw [z_in, e5, k1.2.2.2]; omega, fun v5 ev5 => ⟨rw_, k1.2.1, k1.2.2.1, by rw [z_in, e5, k1.2.2.2]; omega, fun h9 e9 => ?_⟩⟩
      have hv5 : v5.toInt = (f p : Int) - (x6.toBitVec.toNat % 2 : Nat) - c := by
        have y1 : (xb_i h rw_ p - Int64.toInt32 (x6 &&& 1)).toInt = (f p : Int) - (x6.toBitVec.toNat % 2 : Nat) := by
          rw [z_sub, (k7 p).1, Z_bit1]
          omega
        rw [ev5, z_sub, y1, e4]
        omega
      have hbit : (vp_nar .byte ((Int32.toInt8 (v5 &&& 1)).toInt32)).toInt = v5.toInt % 2 := by
        have e1 : (v5 &&& 1).toInt = v5.toInt % (2 ^ 1 : Nat) := z_mask v5 1 rfl (by omega)
        have e2 : (v5 &&& 1) = 0 ∨ (v5 &&& 1) = 1 := by
          rw [z_eq, z_eq, e1]
          simp only [Int32.reduceToInt]
          omega
        rcases e2 with e | e
        · rw [e]
          rw [e] at e1
          simp only [Int32.reduceToInt] at e1
          show (0 : Int) = _
          omega
        · rw [e]
          rw [e] at e1
          simp only [Int32.reduceToInt] at e1
          show (1 : Int) = _
          omega
      have f9 : eF ex rw_ [] h h9 := by rw [e9]; exact eF.R k1
      have s9 := k1.fr f9
      have i9 : ∀ j, xb_i h9 ex j = xb_i h ex j := fun j => f9.2.2.2.2.2.1 j (by simp)
      obtain ⟨lo', hi', q1, q2, q3, q4⟩ := hlo (by omega)
      have elo : lo' = lo := by omega
      have ehi : hi' = hi := by omega
      subst elo ehi
      obtain ⟨g', hg'⟩ : ∃ g' : Nat → Nat, g' = va_up f p (v5.toInt % 2).toNat := ⟨_, rfl⟩
      have r9 : ∀ j, (xb_i h9 rw_ j).toInt = g' j ∧ g' j ≤ 1 := by
        intro j
        rw [e9, xh_iI, if_pos rfl, hg', xh_up, xh_up]
        split
        · rw [hbit]
          omega
        · exact k7 j
      have go : ∀ (y0 : Int32) (c' : Nat), y0.toInt = c' → c' ≤ 1 → x6.toBitVec.toNat / 2 + c' ≤ eU f (p + 1) m → w_Exact_take_L73 (w_Exact_take_L21 Qr (m + 1)) Qr ex x5 x6 y0 h9 := by
        intro y0 c' hy0 hc' hU'
        unfold w_Exact_take_L73 w_Exact_reach
        have kq : ∀ (y : Int32) (l' : Nat), y.toInt = l' → l' ≤ p → l' ≤ lo' → w_Exact_reach_L17 (fun (h2 : xb_H) => xb_ext h9 h2 → ∀ v4 : Int64, v4 = (xb_lushr x6 1) → w_Exact_take_L21 Qr (m + 1) ex y0 (x5 + 1) v4 h2) ex x5 y ex h9 := by
          intro y l' hy hl1 hl2
          unfold w_Exact_reach_L17 w_Exact_reach_L37
          refine ⟨s9.1, fun h10 e10' => ?_⟩
          have f10 : eF ex rw_ [2] h9 h10 := by rw [e10']; exact eF.I s9
          have s10 := s9.fr f10
          have i3 : xb_i h10 ex 3 = xb_i h ex 3 := by rw [f10.2.2.2.2.2.1 3 (by decide)]; exact i9 3
          have fin : ∀ (z : Int32) (hh : Nat), z.toInt = hh → p ≤ hh → hi' ≤ hh → hh < 4400 → ∀ h11 : xb_H, h11 = xb_I h10 ex 3 z → xb_ext h9 h11 → ∀ v4 : Int64, v4 = (xb_lushr x6 1) → w_Exact_take_L21 Qr (m + 1) ex y0 (x5 + 1) v4 h11 := by
            intro z hh hz g1 g2 g3 h11 e11 _ v13 e13
            have f11 : eF ex rw_ [3] h10 h11 := by rw [e11]; exact eF.I s10
            have fA : eF ex rw_ [2, 3] h h11 := (f9.tr (f10.tr f11)).mono (by decide)
            have i2 : (xb_i h11 ex 2).toInt = l' := by rw [f11.2.2.2.2.2.1 2 (by decide), e10', xh_iI, if_pos rfl, xh_up, if_pos rfl]; exact hy
            have i3' : (xb_i h11 ex 3).toInt = hh := by rw [e11, xh_iI, if_pos rfl, xh_up, if_pos rfl]; exact hz
            have ir : xb_i h11 rw_ = xb_i h9 rw_ := by rw [e11, xh_iI, if_neg k1.ne.symm, e10', xh_iI, if_neg k1.ne.symm]
            have hk11 : eK ex rw_ g' h11 := by
              refine ⟨k1.fr fA, by rw [fA.2.2.2.2.2.1 4 (by decide)]; exact k2, l', hh, i2, i3', g3, by omega, fun j => by rw [ir]; exact r9 j, fun j hj => ?_⟩
              rw [hg', xh_up, if_neg (by omega)]
              exact k8 j (by omega)
            have hn13 : v13.toBitVec.toNat = x6.toBitVec.toNat / 2 := by rw [e13]; exact Z_even x6
            have eUg : eU g' (p + 1) m = eU f (p + 1) m := eU_cg (fun j h1 _ => by rw [hg', xh_up, if_neg (by omega)])
            exact ih y0 (x5 + 1) v13 (p + 1) c' g' h11 (z_inc e5 (by omega)) hy0 hc' (by omega) hk11 (fun _ => ⟨l', hh, i2, i3', by omega, by omega⟩) (by rw [eUg, hn13]; omega) (fun f' h' y1 y2 => hQ f' h' ((fA.tr y1).mono (by decide)) y2)
          refine ⟨s10.1, fun e => ⟨s10.1, fun h11 e11 => fin _ hi' (by rw [i3]; exact k4) ?_ (Nat.le_refl _) k5 h11 e11⟩, fun e => ⟨s10.1, fun h11 e11 => fin _ p e5 (Nat.le_refl _) ?_ (by omega) h11 e11⟩⟩
          · rw [z_le, i3, k4, e5] at e
            omega
          · rw [z_le, i3, k4, e5] at e
            omega
        refine ⟨s9.1, s9.1, fun e => kq _ lo' (by rw [i9]; exact k3) q3 (Nat.le_refl _), fun e => ?_⟩
        rw [z_le, i9, k3, e5] at e
        omega
      refine ⟨fun e => go 0 0 rfl (by omega) ?_, fun e => go 1 1 rfl (by omega) ?_⟩
      · rw [z_le, hv5, show (0 : Int32).toInt = 0 from rfl] at e
        omega
      · rw [z_le, hv5, show (0 : Int32).toInt = 0 from rfl] at e
        omega
    unfold w_Exact_take_L21
    refine ⟨fun _ => L33, fun e0 => ⟨fun e => hQ f h eF.rf hk, fun _ => L33⟩⟩
theorem sp_etake {x1 : Int64} {x3 : Int32} {p : Nat} {Qr : xb_H → Prop} (hk : eK ex rw_ f h) (hp : 2200 + x3.toInt = p) (hp2 : p < 4400) (hU : x1.toBitVec.toNat ≤ eU f p (4400 - p)) (hQ : ∀ (f' : Nat → Nat) (h' : xb_H), eF ex rw_ [2, 3] h h' → eK ex rw_ f' h' → Qr h') : w_Exact_take ex x1 x3 h Qr := by
  unfold w_Exact_take
  intro v1 e1
  have hv1 : v1.toInt = p := by
    have := z_rg x3
    rw [e1, z_add, show (2200 : Int32).toInt = 2200 from rfl]
    omega
  refine ⟨hk.1.1, sp_ereach hk hv1 hp2 (fun h3 f3 i3 ⟨lo, hi, j1, j2, j3, j4, j5, j6, j7⟩ _ => ?_)⟩
  have hk3 := hk.rc f3 i3 ⟨lo, hi, j1, j2, j3, j4, j7⟩
  exact ⟨4400 - p + 1, sp_etakeL (4400 - p) 0 v1 x1 p 0 f h3 hv1 rfl (by omega) (by omega) hk3 (fun _ => ⟨lo, hi, j1, j2, j5, .inl j6⟩) (by omega) (fun f' h' y1 y2 => hQ f' h' ((f3.tr y1).mono (by decide)) y2)⟩
end EX2

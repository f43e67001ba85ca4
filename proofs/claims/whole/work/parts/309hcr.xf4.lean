-- equality, floating point: the reference's row, exact
section XF4
variable {ex rw_ : Nat} {f : Nat → Nat} {h h' : xb_H} {F : List Nat}
theorem xr_eclear {Qr : xb_H → Prop} (hk : eK ex rw_ f h) (hQ : ∀ h' : xb_H, eF ex rw_ [2, 3, 4] h h' → eK ex rw_ (fun _ => 0) h' → xb_i h' ex 4 = 0 → Qr h') : w_Exact_clear ex h Qr := by
  obtain ⟨k1, k2, lo, hi, k3, k4, k5, k6, k7, k8⟩ := id hk
  have nx : rw_ ≠ ex := k1.ne.symm
  have key : ∀ (m : Nat) (x : Int32) (k : Nat) (h1 : xb_H), x.toInt = k → lo ≤ k → hi + 1 ≤ k + m → eF ex rw_ [] h h1 → (∀ j, j < k → xb_i h1 rw_ j = 0) → (∀ j, k ≤ j → xb_i h1 rw_ j = xb_i h rw_ j) → w_Exact_clear_L5 Qr (m + 1) ex x h1 := by
    have fin : ∀ (k : Nat) (h1 : xb_H), hi < k → eF ex rw_ [] h h1 → (∀ j, j < k → xb_i h1 rw_ j = 0) → (∀ j, k ≤ j → xb_i h1 rw_ j = xb_i h rw_ j) → ∃ b3 : Nat, (xb_r h1 ex 1) = some b3 ∧ xb_k h1 b3 = 100 ∧ ∀ h5 : xb_H, h5 = xb_I h1 ex 2 (nI (xb_n h1 b3)) → ∀ h6 : xb_H, h6 = xb_I h5 ex 3 0 → ∀ h7 : xb_H, h7 = xb_I h6 ex 4 0 → Qr h7 := by
      intro k h1 hk2 f1 z1 z2
      have s1 := k1.fr f1
      refine ⟨rw_, s1.2.1, s1.2.2.1, fun h5 e5 h6 e6 h7 e7 => ?_⟩
      have f5 : eF ex rw_ [2] h1 h5 := by rw [e5]; exact eF.I s1
      have s5 := s1.fr f5
      have f6 : eF ex rw_ [3] h5 h6 := by rw [e6]; exact eF.I s5
      have s6 := s5.fr f6
      have f7 : eF ex rw_ [4] h6 h7 := by rw [e7]; exact eF.I s6
      have fA := f1.tr (f5.tr (f6.tr f7))
      refine hQ h7 (fA.mono (by decide)) ⟨k1.fr fA, .inl (by rw [e7, xh_iI, if_pos rfl, xh_up, if_pos rfl]), 4400, 0, ?_, ?_, by omega, by omega, fun j => ⟨?_, Nat.zero_le _⟩, fun _ _ => rfl⟩ (by rw [e7, xh_iI, if_pos rfl, xh_up, if_pos rfl])
      · rw [f7.2.2.2.2.2.1 2 (by decide), f6.2.2.2.2.2.1 2 (by decide), e5, xh_iI, if_pos rfl, xh_up, if_pos rfl, s1.2.2.2]
        rfl
      · rw [f7.2.2.2.2.2.1 3 (by decide), e6, xh_iI, if_pos rfl, xh_up, if_pos rfl]
        rfl
      · rw [e7, xh_iI, if_neg nx, e6, xh_iI, if_neg nx, e5, xh_iI, if_neg nx]
        by_cases h9 : j < k
        · rw [z1 j h9]
          rfl
        · rw [z2 j (by omega), (k7 j).1, k8 j (.inr (by omega))]
    intro m
    induction m with
    | zero =>
      intro x k h1 e1 e2 e3 f1 z1 z2
      unfold w_Exact_clear_L5
      have s1 := k1.fr f1
      refine ⟨s1.1, fun _ => fin k h1 (by omega) f1 z1 z2, fun e => ?_⟩
      rw [z_lt, f1.2.2.2.2.2.1 3 (by simp), k4, e1] at e
      omega
    | succ m ih =>
      intro x k h1 e1 e2 e3 f1 z1 z2
      unfold w_Exact_clear_L5
      have s1 := k1.fr f1
      refine ⟨s1.1, fun e => ?_, fun e => ⟨rw_, s1.2.1, s1.2.2.1, ?_, fun h11 e11 => ?_⟩⟩
      · rw [z_lt, f1.2.2.2.2.2.1 3 (by simp), k4, e1] at e
        exact fin k h1 (by omega) f1 z1 z2
      · rw [z_lt, f1.2.2.2.2.2.1 3 (by simp), k4, e1] at e
        rw [z_in, e1, s1.2.2.2]
        omega
      · rw [z_lt, f1.2.2.2.2.2.1 3 (by simp), k4, e1] at e
        rw [z_cl, e1, Int.toNat_natCast] at e11
        have f11 : eF ex rw_ [] h1 h11 := by rw [e11]; exact eF.R s1
        refine ih (x + 1) (k + 1) h11 (z_inc e1 (by omega)) (by omega) (by omega) ((f1.tr f11).mono (by simp)) (fun j hj => ?_) (fun j hj => ?_)
        · rw [e11, xh_iI, if_pos rfl, xh_up]
          split
          · rfl
          · exact z1 j (by omega)
        · rw [e11, xh_iI, if_pos rfl, xh_up, if_neg (by omega)]
          exact z2 j (by omega)
  unfold w_Exact_clear
  refine ⟨k1.1, fun v2 e2 => ⟨hi + 1 + 1, key (hi + 1) v2 lo h (by rw [e2]; exact k3) (Nat.le_refl _) (by omega) eF.rf (fun j hj => ?_) (fun _ _ => rfl)⟩⟩
  rw [z_eq, (k7 j).1, k8 j (.inl hj)]
  rfl
theorem xr_etakeL {Qr : xb_H → Prop} : ∀ (m : Nat) (x4 x5 : Int32) (x6 : Int64) (p c : Nat) (f : Nat → Nat) (h : xb_H), x5.toInt = p → x4.toInt = c → c ≤ 1 → p + m = 4400 → eK ex rw_ f h → (0 < m → ∃ lo hi : Nat, (xb_i h ex 2).toInt = lo ∧ (xb_i h ex 3).toInt = hi ∧ lo ≤ p ∧ (p ≤ hi ∨ p = hi + 1)) → x6.toBitVec.toNat + c ≤ eU f p m → (∀ (f' : Nat → Nat) (h' : xb_H), eF ex rw_ [2, 3] h h' → eK ex rw_ f' h' → (∀ j, j < p → f' j = f j) → eU f' p m + (x6.toBitVec.toNat + c) = eU f p m → Qr h') → w_Exact_take_L21 Qr (m + 1) ex x4 x5 x6 h := by
  intro m
  induction m with
  | zero =>
    intro x4 x5 x6 p c f h e5 e4 hc hp hk hlo hU hQ
    have hU0 : eU f p 0 = 0 := rfl
    have z : x6 = 0 := Z_zero.mpr (by omega)
    unfold w_Exact_take_L21
    refine ⟨fun e => absurd z e, fun _ => ⟨fun _ => hQ f h eF.rf hk (fun _ _ => rfl) (by rw [hU0]; omega), fun e => ?_⟩⟩
    rw [z_le, e4, show (0 : Int32).toInt = 0 from rfl] at e
    omega
  | succ m ih =>
    intro x4 x5 x6 p c f h e5 e4 hc hp hk hlo hU hQ
    obtain ⟨k1, k2, lo, hi, k3, k4, k5, k6, k7, k8⟩ := id hk
    have hU1 : eU f p (m + 1) = f p + 2 * eU f (p + 1) m := rfl
    have hfp := (k7 p).2
    have cp : x5.toNatClampNeg = p := by rw [z_cl, e5, Int.toNat_natCast]
    have L33 : w_Exact_take_L33 (w_Exact_take_L21 Qr (m + 1)) Qr ex x4 x5 x6 h := by
      unfold w_Exact_take_L33
      rw [cp]
      refine ⟨k1.1, rw_, k1.2.1, k1.2.2.1, by rw [z_in, e5, k1.2.2.2]; omega, fun v5 ev5 => ⟨rw_, k1.2.1, k1.2.2.1, by rw [z_in, e5, k1.2.2.2]; omega, fun h9 e9 => ?_⟩⟩
      have hv5 : v5.toInt = (f p : Int) - (x6.toBitVec.toNat % 2 : Nat) - c := by
        have y1 : (xb_i h rw_ p - Int64.toInt32 (x6 &&& 1)).toInt = (f p : Int) - (x6.toBitVec.toNat % 2 : Nat) := by
          rw [z_sub, (k7 p).1, Z_bit1]
          omega
        rw [ev5, z_sub, y1, e4]
        omega
      have hbit : (vp_nar .byte ((Int32.toInt8 (v5 &&& 1)).toInt32)).toInt = v5.toInt % 2 := by
        have e1 : (v5 &&& 1).toInt = v5.toInt % (2 ^ 1 : Nat) := z_mask v5 1 rfl (by omega)
        have e2 : (v5 &&& 1) = 0 ∨ (v5 &&& 1) = 1 := by
          rw [z_eq, z_eq, e1]
          simp only [Int32.reduceToInt]
          omega
        rcases e2 with e | e
        · rw [e]
          rw [e] at e1
          simp only [Int32.reduceToInt] at e1
          show (0 : Int) = _
          omega
        · rw [e]
          rw [e] at e1
          simp only [Int32.reduceToInt] at e1
          show (1 : Int) = _
          omega
      have f9 : eF ex rw_ [] h h9 := by rw [e9]; exact eF.R k1
      have s9 := k1.fr f9
      have i9 : ∀ j, xb_i h9 ex j = xb_i h ex j := fun j => f9.2.2.2.2.2.1 j (by simp)
      obtain ⟨lo', hi', q1, q2, q3, q4⟩ := hlo (by omega)
      have elo : lo' = lo := by omega
      have ehi : hi' = hi := by omega
      subst elo ehi
      obtain ⟨g', hg'⟩ : ∃ g' : Nat → Nat, g' = va_up f p (v5.toInt % 2).toNat := ⟨_, rfl⟩
      have r9 : ∀ j, (xb_i h9 rw_ j).toInt = g' j ∧ g' j ≤ 1 := by
        intro j
        rw [e9, xh_iI, if_pos rfl, hg', xh_up, xh_up]
        split
        · rw [hbit]
          omega
        · exact k7 j
      have go : ∀ (y0 : Int32) (c' : Nat), y0.toInt = c' → c' ≤ 1 → x6.toBitVec.toNat / 2 + c' ≤ eU f (p + 1) m → v5.toInt % 2 = v5.toInt + 2 * c' → w_Exact_take_L73 (w_Exact_take_L21 Qr (m + 1)) Qr ex x5 x6 y0 h9 := by
        intro y0 c' hy0 hc' hU' hv'
        unfold w_Exact_take_L73 w_Exact_reach
        have kq : ∀ (y : Int32) (l' : Nat), y.toInt = l' → l' ≤ p → l' ≤ lo' → w_Exact_reach_L17 (fun (h2 : xb_H) => xb_ext h9 h2 → ∀ v4 : Int64, v4 = (xb_lushr x6 1) → w_Exact_take_L21 Qr (m + 1) ex y0 (x5 + 1) v4 h2) ex x5 y ex h9 := by
          intro y l' hy hl1 hl2
          unfold w_Exact_reach_L17 w_Exact_reach_L37
          refine ⟨s9.1, fun h10 e10' => ?_⟩
          have f10 : eF ex rw_ [2] h9 h10 := by rw [e10']; exact eF.I s9
          have s10 := s9.fr f10
          have i3 : xb_i h10 ex 3 = xb_i h ex 3 := by rw [f10.2.2.2.2.2.1 3 (by decide)]; exact i9 3
          have fin : ∀ (z : Int32) (hh : Nat), z.toInt = hh → p ≤ hh → hi' ≤ hh → hh < 4400 → ∀ h11 : xb_H, h11 = xb_I h10 ex 3 z → xb_ext h9 h11 → ∀ v4 : Int64, v4 = (xb_lushr x6 1) → w_Exact_take_L21 Qr (m + 1) ex y0 (x5 + 1) v4 h11 := by
            intro z hh hz g1 g2 g3 h11 e11 _ v13 e13
            have f11 : eF ex rw_ [3] h10 h11 := by rw [e11]; exact eF.I s10
            have fA : eF ex rw_ [2, 3] h h11 := (f9.tr (f10.tr f11)).mono (by decide)
            have i2 : (xb_i h11 ex 2).toInt = l' := by rw [f11.2.2.2.2.2.1 2 (by decide), e10', xh_iI, if_pos rfl, xh_up, if_pos rfl]; exact hy
            have i3' : (xb_i h11 ex 3).toInt = hh := by rw [e11, xh_iI, if_pos rfl, xh_up, if_pos rfl]; exact hz
            have ir : xb_i h11 rw_ = xb_i h9 rw_ := by rw [e11, xh_iI, if_neg k1.ne.symm, e10', xh_iI, if_neg k1.ne.symm]
            have hk11 : eK ex rw_ g' h11 := by
              refine ⟨k1.fr fA, by rw [fA.2.2.2.2.2.1 4 (by decide)]; exact k2, l', hh, i2, i3', g3, by omega, fun j => by rw [ir]; exact r9 j, fun j hj => ?_⟩
              rw [hg', xh_up, if_neg (by omega)]
              exact k8 j (by omega)
            have hn13 : v13.toBitVec.toNat = x6.toBitVec.toNat / 2 := by rw [e13]; exact Z_even x6
            have eUg : eU g' (p + 1) m = eU f (p + 1) m := eU_cg (fun j h1 _ => by rw [hg', xh_up, if_neg (by omega)])
            exact ih y0 (x5 + 1) v13 (p + 1) c' g' h11 (z_inc e5 (by omega)) hy0 hc' (by omega) hk11 (fun _ => ⟨l', hh, i2, i3', by omega, by omega⟩) (by rw [eUg, hn13]; omega) (fun f' h' y1 y2 y3 y4 => hQ f' h' ((fA.tr y1).mono (by decide)) y2 (fun j hj => by rw [y3 j (by omega), hg', xh_up, if_neg (by omega)]) (by
              have y5 : f' p = (v5.toInt % 2).toNat := by rw [y3 p (by omega), hg', xh_up, if_pos rfl]
              have y6 : eU f' p (m + 1) = f' p + 2 * eU f' (p + 1) m := rfl
              rw [eUg, hn13] at y4
              rw [y6, hU1, y5]
              omega))
          refine ⟨s10.1, fun e => ⟨s10.1, fun h11 e11 => fin _ hi' (by rw [i3]; exact k4) ?_ (Nat.le_refl _) k5 h11 e11⟩, fun e => ⟨s10.1, fun h11 e11 => fin _ p e5 (Nat.le_refl _) ?_ (by omega) h11 e11⟩⟩
          · rw [z_le, i3, k4, e5] at e
            omega
          · rw [z_le, i3, k4, e5] at e
            omega
        refine ⟨s9.1, s9.1, fun e => kq _ lo' (by rw [i9]; exact k3) q3 (Nat.le_refl _), fun e => ?_⟩
        rw [z_le, i9, k3, e5] at e
        omega
      refine ⟨fun e => go 0 0 rfl (by omega) ?_ ?_, fun e => go 1 1 rfl (by omega) ?_ ?_⟩
      all_goals
        rw [z_le, hv5, show (0 : Int32).toInt = 0 from rfl] at e
        omega
    unfold w_Exact_take_L21
    refine ⟨fun _ => L33, fun e0 => ⟨fun e => hQ f h eF.rf hk (fun _ _ => rfl) ?_, fun _ => L33⟩⟩
    rw [z_le, e4, show (0 : Int32).toInt = 0 from rfl] at e
    rw [Z_zero.mp e0]
    omega
theorem xr_etake {x1 : Int64} {x3 : Int32} {p : Nat} {Qr : xb_H → Prop} (hk : eK ex rw_ f h) (hp : 2200 + x3.toInt = p) (hp2 : p < 4400) (hU : x1.toBitVec.toNat ≤ eU f p (4400 - p)) (hQ : ∀ (f' : Nat → Nat) (h' : xb_H), eF ex rw_ [2, 3] h h' → eK ex rw_ f' h' → (∀ j, j < p → f' j = f j) → eU f' p (4400 - p) + x1.toBitVec.toNat = eU f p (4400 - p) → Qr h') : w_Exact_take ex x1 x3 h Qr := by
  unfold w_Exact_take
  intro v1 e1
  have hv1 : v1.toInt = p := by
    have := z_rg x3
    rw [e1, z_add, show (2200 : Int32).toInt = 2200 from rfl]
    omega
  refine ⟨hk.1.1, sp_ereach hk hv1 hp2 (fun h3 f3 i3 ⟨lo, hi, j1, j2, j3, j4, j5, j6, j7⟩ _ => ?_)⟩
  have hk3 := hk.rc f3 i3 ⟨lo, hi, j1, j2, j3, j4, j7⟩
  exact ⟨4400 - p + 1, xr_etakeL (4400 - p) 0 v1 x1 p 0 f h3 hv1 rfl (by omega) (by omega) hk3 (fun _ => ⟨lo, hi, j1, j2, j5, .inl j6⟩) (by omega) (fun f' h' y1 y2 y3 y4 => hQ f' h' ((f3.tr y1).mono (by decide)) y2 y3 (by omega))⟩
theorem xr_esplit0 {x : Int64} {τ : Int} {p b a : Nat} {Qr : xb_H → Prop} (hk : eK ex rw_ f h) (hP : eP ex τ h) (hb : fpb τ p b) (hx : x.toBitVec.toNat = a) (wx : fW p b a)
    (hQ : ∀ (h' : xb_H) (fr bi s : Nat), (fr = 23 ∧ bi = 127 ∧ s < 2147483648) ∨ (fr = 52 ∧ bi = 1023 ∧ s < 9223372036854775808) → (x &&& ((xb_lshl 1 ((xb_i h ex 5) - 1)) - 1)).toBitVec.toNat = s → (xb_i h ex 6).toInt = fr → eF ex rw_ [8, 9, 10] h h' → eK ex rw_ f h' → eM ex h' → (xb_l h' ex 9).toBitVec.toNat = eAm fr s → (xb_i h' ex 10).toInt = (eWt fr s : Int) - bi - fr → (xb_i h' ex 8 = 0 ∨ xb_i h' ex 8 = 1) → (xb_i h' ex 8 = 0 ↔ a < fS p b) → Qr h') : w_Exact_split ex x h Qr := by
  have k1 := hk.1
  have hm := hP.m
  unfold w_Exact_split
  refine ⟨k1.1, sp_esize k1.1 (fun r3 e3 _ v4 e4 v5 e5 => xr_eisMinus k1.1 hP hb hx wx (fun r7 h7 c7 _ => ⟨h7, fun h9 e9 => ?_⟩))⟩
  have f9 : eF ex rw_ [8] h h9 := by rw [e9]; exact eF.I k1
  have k9 : eK ex rw_ f h9 := by rw [e9]; exact hk.I (by omega) (by omega) (by omega)
  have i6 : xb_i h9 ex 6 = xb_i h ex 6 := f9.2.2.2.2.2.1 6 (by decide)
  have i7 : xb_i h9 ex 7 = xb_i h ex 7 := f9.2.2.2.2.2.1 7 (by decide)
  rw [i6]
  -- numbers
  obtain ⟨fr, bi, s, c1, c2, c3, c4, c5, c6⟩ : ∃ fr bi s : Nat, ((fr = 23 ∧ bi = 127 ∧ s < 2147483648) ∨ (fr = 52 ∧ bi = 1023 ∧ s < 9223372036854775808)) ∧ r3.toBitVec.toNat = s ∧ (xb_i h ex 6).toInt = fr ∧ (xb_i h ex 7).toInt = bi ∧ v5.toBitVec.toNat = s % 2 ^ fr ∧ (xb_lshl 1 (xb_i h ex 6)).toBitVec.toNat = 2 ^ fr := by
    rcases hm with ⟨m1, m2, m3⟩ | ⟨m1, m2, m3⟩
    · have y1 : r3.toBitVec.toNat = x.toBitVec.toNat % 2 ^ 31 := by
        rw [e3, m1]
        exact Z_and_mod x 31 (by decide)
      have y2 : v5.toBitVec.toNat = x.toBitVec.toNat % 2 ^ 23 := by
        rw [e5, m2]
        exact Z_and_mod x 23 (by decide)
      refine ⟨23, 127, x.toBitVec.toNat % 2 ^ 31, .inl ⟨rfl, rfl, by omega⟩, y1, by rw [m2]; rfl, by rw [m3]; rfl, ?_, by rw [m2]; decide⟩
      rw [y2]
      omega
    · have y1 : r3.toBitVec.toNat = x.toBitVec.toNat % 2 ^ 63 := by
        rw [e3, m1]
        exact Z_and_mod x 63 (by decide)
      have y2 : v5.toBitVec.toNat = x.toBitVec.toNat % 2 ^ 52 := by
        rw [e5, m2]
        exact Z_and_mod x 52 (by decide)
      refine ⟨52, 1023, x.toBitVec.toNat % 2 ^ 63, .inr ⟨rfl, rfl, by omega⟩, y1, by rw [m2]; rfl, by rw [m3]; rfl, ?_, by rw [m2]; decide⟩
      rw [y2]
      omega
  have hs63 : s < 9223372036854775808 := by omega
  have r3i : r3.toInt = s := by
    have := Z_nat r3
    have := Z_rg r3
    omega
  have v4i : v4.toInt = (s / 2 ^ fr : Nat) := by
    rw [e4, Z_sar (k := fr) c3 (by omega), r3i]
    rw [Int.natCast_ediv]
  have hq : s / 2 ^ fr < 2048 ∧ s % 2 ^ fr < 4503599627370496 ∧ 2 ^ fr ≤ 4503599627370496 := by
    rcases c1 with ⟨q1, q2, q3⟩ | ⟨q1, q2, q3⟩ <;> subst q1
    · have : s / 2 ^ 23 < 2048 := by omega
      have : s % 2 ^ 23 < 2 ^ 23 := Nat.mod_lt _ (by decide)
      omega
    · have : s / 2 ^ 52 < 2048 := by omega
      have : s % 2 ^ 52 < 2 ^ 52 := Nat.mod_lt _ (by decide)
      omega
  have fin : ∀ (a : Int64) (y0 : Int32), a.toBitVec.toNat = eAm fr s → y0.toInt = eWt fr s → eWt fr s < 2048 → ∀ h2 : xb_H, h2 = xb_L h9 ex 9 a → w_Exact_split_L69 Qr ex y0 ex h2 := by
    intro a y0 ha hy hw h2 e2
    have f2 : eF ex rw_ [9] h9 h2 := by rw [e2]; exact eF.Lx k9.1
    have k2 : eK ex rw_ f h2 := by rw [e2]; exact k9.Lx
    unfold w_Exact_split_L69
    refine ⟨k2.1.1, k2.1.1, fun h3 e3' => ?_⟩
    have f3 : eF ex rw_ [10] h2 h3 := by rw [e3']; exact eF.I k2.1
    have k3 : eK ex rw_ f h3 := by rw [e3']; exact k2.I (by omega) (by omega) (by omega)
    have j6 : xb_i h2 ex 6 = xb_i h ex 6 := by rw [f2.2.2.2.2.2.1 6 (by decide)]; exact i6
    have j7 : xb_i h2 ex 7 = xb_i h ex 7 := by rw [f2.2.2.2.2.2.1 7 (by decide)]; exact i7
    have fA := (f9.tr (f2.tr f3)).mono (F2 := [8, 9, 10]) (by decide)
    have i8 : xb_i h3 ex 8 = r7 := by rw [f3.2.2.2.2.2.1 8 (by decide), f2.2.2.2.2.2.1 8 (by decide), e9, xh_iI, if_pos rfl, xh_up, if_pos rfl]
    refine hQ h3 fr bi s c1 (by rw [← e3]; exact c2) c3 fA k3 ?_ ?_ ?_ (by rw [i8]; exact h7) (by rw [i8]; exact c7)
    · unfold eM
      rw [fA.2.2.2.2.2.1 5 (by decide), fA.2.2.2.2.2.1 6 (by decide), fA.2.2.2.2.2.1 7 (by decide)]
      exact hm
    · rw [e3', xh_lI, e2, xh_lL, if_pos rfl, xh_up, if_pos rfl]
      exact ha
    · have y1 : (y0 - xb_i h ex 7).toInt = (eWt fr s : Int) - bi := by
        rw [z_sub, hy, c4]
        omega
      rw [e3', xh_iI, if_pos rfl, xh_up, if_pos rfl, j6, j7, z_sub, y1, c3]
      omega
  have z0 : v4 = 0 ↔ s / 2 ^ fr = 0 := by
    rw [Z_eq, v4i, show (0 : Int64).toInt = 0 from rfl]
    omega
  refine ⟨fun e => ?_, fun e => ?_⟩
  · have hne : ¬ s / 2 ^ fr = 0 := fun h9 => e (z0.mpr h9)
    unfold w_Exact_split_L53
    refine ⟨k9.1.1, fun h2 e2 => ⟨fun _ => fin _ _ ?_ ?_ ?_ h2 e2, fun e' => absurd e' e⟩⟩
    · unfold eAm
      rw [if_neg hne, Z_addN, c5, c6]
      omega
    · unfold eWt
      rw [if_neg hne]
      exact z_l2i v4i (by omega)
    · unfold eWt
      rw [if_neg hne]
      omega
  · have hze := z0.mp e
    unfold w_Exact_split_L53
    refine ⟨k9.1.1, fun h2 e2 => ⟨fun e' => absurd e e', fun _ => fin _ _ ?_ ?_ ?_ h2 e2⟩⟩
    · unfold eAm
      rw [if_pos hze, c5]
    · unfold eWt
      rw [if_pos hze]
      rfl
    · unfold eWt
      rw [if_pos hze]
      omega
theorem xr_esplit {x : Int64} {τ : Int} {p b a : Nat} {Qr : xb_H → Prop} (hk : eK ex rw_ f h) (hP : eP ex τ h) (hb : fpb τ p b) (hx : x.toBitVec.toNat = a) (wx : fW p b a)
    (hQ : ∀ h' : xb_H, eF ex rw_ [8, 9, 10] h h' → eK ex rw_ f h' → eP ex τ h' → (xb_l h' ex 9).toBitVec.toNat = fam p b a → (xb_i h' ex 10).toInt = fwt p b a → (xb_i h' ex 8 = 0 ∨ xb_i h' ex 8 = 1) → (xb_i h' ex 8 = 0 ↔ a < fS p b) → Qr h') : w_Exact_split ex x h Qr := by
  refine xr_esplit0 hk hP hb hx wx (fun h' fr bi s c1 c2 c3 f1 k1 m1 a1 w1 s1 s2 => hQ h' f1 k1 (hP.fr f1 (by decide)) ?_ ?_ s1 s2)
  · have e1 : fr = p - 1 := by
      have := (hP.n hb).1
      omega
    rw [a1, ← c2, hP.z hb hx, e1]
    unfold eAm fam ffl
    have g := Nat.div_add_mod (fmg p b a) (2 ^ (p - 1))
    split
    · rename_i h9
      rw [h9, Nat.mul_zero] at g
      omega
    · rfl
  · have e1 : fr = p - 1 := by
      have := (hP.n hb).1
      omega
    have e2 : bi = b := by unfold fpb at hb; omega
    rw [w1, ← c2, hP.z hb hx, e1, e2]
    unfold eWt fwt ffl
    split
    · rfl
    · rfl
theorem xr_eadd {x1 : Int64} {x3 : Int32} {P : Nat} {Qr : xb_H → Prop} (hk : eK ex rw_ f h) (hp : 2200 + x3.toInt = P) (hp2 : P < 4400) (hU : eU f 0 4400 + 2 ^ P * x1.toBitVec.toNat < 2 ^ 4400) (hQ : ∀ (f' : Nat → Nat) (h' : xb_H), eF ex rw_ [2, 3] h h' → eK ex rw_ f' h' → eU f' 0 4400 = eU f 0 4400 + 2 ^ P * x1.toBitVec.toNat → Qr h') : w_Exact_add ex x1 x3 h Qr := by
  have sp : ∀ g : Nat → Nat, eU g 0 4400 = eU g 0 P + 2 ^ P * eU g P (4400 - P) := fun g => by
    have := eU_sp (f := g) (k := P) (m := 4400 - P) (a := 0)
    rw [Nat.zero_add, show P + (4400 - P) = 4400 from Nat.add_sub_cancel' (Nat.le_of_lt hp2)] at this
    exact this
  have pw : 2 ^ 4400 = 2 ^ P * 2 ^ (4400 - P) := by rw [← Nat.pow_add, Nat.add_sub_cancel' (Nat.le_of_lt hp2)]
  refine sp_eadd hk hp hp2 ?_ (fun f' h' g1 g2 g3 g4 => hQ f' h' g1 g2 ?_)
  · rw [pw, sp f, Nat.add_assoc, ← Nat.mul_add] at hU
    exact Nat.lt_of_mul_lt_mul_left (Nat.lt_of_le_of_lt (Nat.le_add_left _ _) hU)
  · rw [sp f', sp f, g4, Nat.mul_add, eU_cg (f := f) (g := f') (fun j _ hj => g3 j (by rw [Nat.zero_add] at hj; exact hj)), Nat.add_assoc]
theorem xr_esub {x1 : Int64} {x3 : Int32} {P : Nat} {Qr : xb_H → Prop} (hk : eK ex rw_ f h) (hp : 2200 + x3.toInt = P) (hp2 : P < 4400) (hU : 2 ^ P * x1.toBitVec.toNat ≤ eU f 0 4400) (hQ : ∀ (f' : Nat → Nat) (h' : xb_H), eF ex rw_ [2, 3] h h' → eK ex rw_ f' h' → eU f' 0 4400 + 2 ^ P * x1.toBitVec.toNat = eU f 0 4400 → Qr h') : w_Exact_take ex x1 x3 h Qr := by
  obtain ⟨-, -, lo, hi, -, -, -, -, k7, -⟩ := id hk
  have f1 : ∀ j, f j ≤ 1 := fun j => (k7 j).2
  have sp : ∀ g : Nat → Nat, eU g 0 4400 = eU g 0 P + 2 ^ P * eU g P (4400 - P) := fun g => by
    have := eU_sp (f := g) (k := P) (m := 4400 - P) (a := 0)
    rw [Nat.zero_add, show P + (4400 - P) = 4400 from Nat.add_sub_cancel' (Nat.le_of_lt hp2)] at this
    exact this
  refine xr_etake hk hp hp2 ?_ (fun f' h' g1 g2 g3 g4 => hQ f' h' g1 g2 ?_)
  · rw [← (eU_dv f1 (Nat.le_of_lt hp2)).1]
    exact (Nat.le_div_iff_mul_le (Nat.pow_pos (by decide))).mpr (by rw [Nat.mul_comm]; exact hU)
  · rw [sp f', sp f, ← g4, Nat.mul_add, eU_cg (f := f) (g := f') (fun j _ hj => g3 j (by rw [Nat.zero_add] at hj; exact hj)), Nat.add_assoc]
theorem eAm_lm {fr s t : Nat} (h : t < s) : eAm fr t * 2 ^ eWt fr t < eAm fr s * 2 ^ eWt fr s := by
  have hp : 0 < 2 ^ fr := Nat.two_pow_pos fr
  have d1 := Nat.div_add_mod s (2 ^ fr)
  have d2 := Nat.div_add_mod t (2 ^ fr)
  have l1 := Nat.mod_lt s hp
  have l2 := Nat.mod_lt t hp
  have hd : t / 2 ^ fr ≤ s / 2 ^ fr := Nat.div_le_div_right (Nat.le_of_lt h)
  unfold eAm eWt
  generalize s / 2 ^ fr = a at *
  generalize t / 2 ^ fr = b at *
  generalize s % 2 ^ fr = c at *
  generalize t % 2 ^ fr = d at *
  generalize 2 ^ fr = P at *
  by_cases he : b = a
  · subst he
    have hm : d < c := by omega
    split
    · exact Nat.mul_lt_mul_of_pos_right hm (Nat.pow_pos (by decide))
    · exact Nat.mul_lt_mul_of_pos_right (by omega) (Nat.pow_pos (by decide))
  · have hs : a ≠ 0 := by omega
    rw [if_neg hs, if_neg hs]
    split
    · have a1 : d < c + P := by omega
      have a2 : 2 ^ 1 ≤ 2 ^ a := Nat.pow_le_pow_right (by omega) (by omega)
      exact Nat.lt_of_lt_of_le (Nat.mul_lt_mul_of_pos_right a1 (Nat.pow_pos (by decide))) (Nat.mul_le_mul_left _ a2)
    · have a1 : d + P < 2 * (c + P) := by omega
      have a2 : 2 * 2 ^ b ≤ 2 ^ a := by
        have : 2 ^ (b + 1) ≤ 2 ^ a := Nat.pow_le_pow_right (by omega) (by omega)
        rw [Nat.pow_succ] at this
        omega
      calc (d + P) * 2 ^ b < (2 * (c + P)) * 2 ^ b := Nat.mul_lt_mul_of_pos_right a1 (Nat.pow_pos (by decide))
        _ = (c + P) * (2 * 2 ^ b) := by rw [Nat.mul_comm 2, Nat.mul_assoc]
        _ ≤ (c + P) * 2 ^ a := Nat.mul_le_mul_left _ a2
end XF4

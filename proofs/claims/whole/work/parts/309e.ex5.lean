-- the reference's exact numbers: rounding and splitting
section EX5
variable {ex rw_ : Nat} {f g : Nat → Nat} {h h' h2 : xb_H} {F F2 : List Nat}
theorem sp_ehighest {Qr : Int32 → xb_H → Prop} (hk : eK ex rw_ f h) (hQ : ∀ r : Int32, -1 ≤ r.toInt → r.toInt < 4400 → Qr r h) : w_Exact_highest ex h Qr := by
  obtain ⟨k1, k2, lo, hi, k3, k4, k5, k6, k7, k8⟩ := id hk
  have L28 : ∀ x : Int32, x.toInt < 4400 → w_Exact_highest_L28 Qr ex x h := by
    intro x hx
    unfold w_Exact_highest_L28 w_Exact_highest_L41
    refine ⟨k1.1, fun _ => hQ _ (by decide) (by decide), fun e => hQ _ ?_ hx⟩
    rw [z_lt, k3] at e
    omega
  have key : ∀ (m : Nat) (x : Int32), x.toInt = (m : Int) - 1 → m ≤ 4400 → w_Exact_highest_L5 Qr (m + 1) ex x h := by
    intro m
    induction m with
    | zero =>
      intro x e1 e2
      unfold w_Exact_highest_L5
      refine ⟨k1.1, fun _ => L28 x (by omega), fun e => ?_⟩
      rw [z_lt, k3, e1] at e
      omega
    | succ m ih =>
      intro x e1 e2
      unfold w_Exact_highest_L5
      refine ⟨k1.1, fun _ => L28 x (by omega), fun e => ⟨rw_, k1.2.1, k1.2.2.1, ?_, fun _ => L28 x (by omega), fun _ => ih (x + -1) ?_ (by omega)⟩⟩
      · rw [z_in, e1, k1.2.2.2]
        omega
      · rw [z_add, e1, show (-1 : Int32).toInt = -1 from rfl]
        omega
  unfold w_Exact_highest
  exact ⟨k1.1, fun v2 e2 => ⟨hi + 1 + 1, key (hi + 1) v2 (by rw [e2, k4]; omega) (by omega)⟩⟩
theorem sp_eisBelow {c : Int32} {Qr : Int32 → xb_H → Prop} (hk : eK ex rw_ f h) (hQ : ∀ r : Int32, Qr r h) : w_Exact_isBelow ex c h Qr := by
  obtain ⟨k1, k2, lo, hi, k3, k4, k5, k6, k7, k8⟩ := id hk
  have L48 : ∀ x : Int32, (x = 0 ∨ x = 1) → w_Exact_isBelow_L48 Qr x h := by
    intro x hx
    unfold w_Exact_isBelow_L48
    exact ⟨hx, hQ _⟩
  have key : ∀ (m : Nat) (x2 x3 : Int32) (k : Nat), (x2 = 0 ∨ x2 = 1) → x3.toInt = k → k ≤ 4400 → k + m = 4400 → w_Exact_isBelow_L10 Qr (m + 1) ex c x2 x3 h := by
    intro m
    induction m with
    | zero =>
      intro x2 x3 k hx e1 e2 e3
      unfold w_Exact_isBelow_L10
      refine ⟨fun _ => L48 _ hx, fun _ => ⟨k1.1, fun _ => L48 _ hx, fun e => ?_⟩⟩
      rw [z_lt, k4, e1] at e
      omega
    | succ m ih =>
      intro x2 x3 k hx e1 e2 e3
      have K : ∀ y : Int32, (y = 0 ∨ y = 1) → w_Exact_isBelow_L10 Qr (m + 1) ex c y (x3 + 1) h := fun y hy => ih y (x3 + 1) (k + 1) hy (z_inc e1 (by omega)) (by omega) (by omega)
      unfold w_Exact_isBelow_L10 w_Exact_isBelow_L36 w_Exact_isBelow_L41
      refine ⟨fun _ => L48 _ hx, fun _ => ⟨k1.1, fun _ => L48 _ hx, fun e => ⟨fun _ => K 1 (.inr rfl), fun _ => ⟨rw_, k1.2.1, k1.2.2.1, ?_, fun _ => K 0 (.inl rfl), fun _ => K 1 (.inr rfl)⟩⟩⟩⟩
      rw [z_in, e1, k1.2.2.2]
      omega
  unfold w_Exact_isBelow
  exact ⟨k1.1, fun v2 e2 v3 e3 => ⟨4400 - lo + 1, key (4400 - lo) v2 v3 lo (by rw [e2]; exact k2) (by rw [e3]; exact k3) k6 (by omega)⟩⟩
theorem sp_erounded {s : Int32} {Qr : Int64 → xb_H → Prop} (hk : eK ex rw_ f h) (hm : eM ex h) (hQ : ∀ r : Int64, Qr r h) : w_Exact_rounded ex s h Qr := by
  obtain ⟨k1, k2, lo, hi, k3, k4, k5, k6, k7, k8⟩ := id hk
  have L200 : ∀ (a : Int64) (b : Int32), w_Exact_rounded_L200 Qr ex s a b h := by
    intro a b
    unfold w_Exact_rounded_L200 w_Exact_rounded_L268
    exact ⟨k1.1, fun _ => ⟨fun _ => sp_esigned k1.1 (fun r _ => hQ r), fun _ => sp_einfinite k1.1 (fun r _ => hQ r)⟩, fun _ => sp_esigned k1.1 (fun r _ => hQ r)⟩
  have L153 : ∀ (a b : Int32) (c : Int64) (d : Int32), w_Exact_rounded_L153 Qr ex s a b c d h := by
    intro a b c d
    unfold w_Exact_rounded_L153 w_Exact_rounded_L169
    exact ⟨fun _ v1 _ => ⟨k1.1, fun _ => L200 _ _, fun _ v4 _ => L200 _ _⟩, fun _ v1 _ => ⟨k1.1, fun _ => L200 _ _, fun _ v4 _ => L200 _ _⟩⟩
  have L121 : ∀ (a b : Int32) (c : Int64) (d : Int32), w_Exact_rounded_L121 Qr ex s a b c d h := by
    intro a b c d
    unfold w_Exact_rounded_L121 w_Exact_rounded_L148 w_Exact_rounded_L152
    exact ⟨fun _ => L153 _ _ _ _, fun _ => ⟨k1.1, sp_eisBelow hk (fun _ _ => ⟨fun _ => L153 _ _ _ _, fun _ => ⟨fun _ => L153 _ _ _ _, fun _ => L153 _ _ _ _⟩⟩)⟩⟩
  have key : ∀ (x3 x4 : Int32), 0 < x4.toInt → x4.toInt < 10000 → ∀ (m : Nat) (x5 : Int64) (x7 : Int32), -1 ≤ x7.toInt → x7.toInt < 4400 → x7.toInt - x4.toInt + 1 ≤ (m : Int) → w_Exact_rounded_L47 Qr (m + 1) ex s x3 x4 x5 x7 h := by
    intro x3 x4 p1 p2 m
    have low : ∀ x5 : Int64, (x4 ≤ 0 → w_Exact_rounded_L120 Qr ex s x3 x4 x5 h) ∧ (¬ x4 ≤ 0 → xb_k h ex = 10 ∧ (((xb_i h ex 3) < (x4 - 1) → w_Exact_rounded_L120 Qr ex s x3 x4 x5 h) ∧ (¬ (xb_i h ex 3) < (x4 - 1) → (((x4 - 1) < (xb_i h ex 2) → w_Exact_rounded_L120 Qr ex s x3 x4 x5 h) ∧ (¬ (x4 - 1) < (xb_i h ex 2) → ∃ b6 : Nat, (xb_r h ex 1) = some b6 ∧ xb_k h b6 = 100 ∧ vp_in (x4 - 1) (xb_n h b6) ∧ (((xb_i h b6 (Int32.toNatClampNeg (x4 - 1))) = (0 : Int32) → w_Exact_rounded_L120 Qr ex s x3 x4 x5 h) ∧ (¬ (xb_i h b6 (Int32.toNatClampNeg (x4 - 1))) = (0 : Int32) → w_Exact_rounded_L121 Qr ex s x3 x4 x5 1 h))))))) := by
      intro x5
      unfold w_Exact_rounded_L120
      refine ⟨fun _ => L121 _ _ _ _, fun _ => ⟨k1.1, fun _ => L121 _ _ _ _, fun e => ⟨fun _ => L121 _ _ _ _, fun e2 => ⟨rw_, k1.2.1, k1.2.2.1, ?_, fun _ => L121 _ _ _ _, fun _ => L121 _ _ _ _⟩⟩⟩⟩
      have e9 : (x4 - 1).toInt = x4.toInt - 1 := by
        rw [z_sub, show (1 : Int32).toInt = 1 from rfl]
        omega
      rw [z_lt, k4, e9] at e
      rw [z_in, e9, k1.2.2.2]
      omega
    induction m with
    | zero =>
      intro x5 x7 e1 e2 e3
      unfold w_Exact_rounded_L47
      refine ⟨fun _ => low x5, fun e => ?_⟩
      rw [z_lt] at e
      omega
    | succ m ih =>
      intro x5 x7 e1 e2 e3
      unfold w_Exact_rounded_L47
      refine ⟨fun _ => low x5, fun e => ⟨k1.1, rw_, k1.2.1, k1.2.2.1, ?_, fun v14 _ => ih v14 (x7 + -1) ?_ ?_ ?_⟩⟩
      · rw [z_lt] at e
        rw [z_in, k1.2.2.2]
        omega
      all_goals
        rw [z_lt] at e
        rw [z_add, show (-1 : Int32).toInt = -1 from rfl]
        omega
  unfold w_Exact_rounded w_Exact_rounded_L39
  refine ⟨k1.1, sp_ehighest hk (fun r3 g1 g2 _ v4 e4 => ?_)⟩
  have hv4 : 0 < v4.toInt ∧ v4.toInt < 3000 ∧ 0 ≤ (xb_i h ex 6).toInt ∧ (xb_i h ex 6).toInt ≤ 52 := by
    rcases hm with ⟨m1, m2, m3⟩ | ⟨m1, m2, m3⟩
    · rw [e4, m2, m3]
      decide
    · rw [e4, m2, m3]
      decide
  refine ⟨fun _ => ⟨4400 + 1, key v4 v4 (by omega) (by omega) 4400 0 r3 g1 g2 (by omega)⟩, fun e => ⟨4400 + 1, key v4 _ ?_ ?_ 4400 0 r3 g1 g2 ?_⟩⟩
  all_goals
    have e9 : (r3 - xb_i h ex 6).toInt = r3.toInt - (xb_i h ex 6).toInt := by
      rw [z_sub]
      omega
    rw [z_le, e9] at e
    omega
/-- what splitting leaves: a significand below 2 to the 53, a power -/
theorem sp_esplit {x : Int64} {Qr : xb_H → Prop} (hk : eK ex rw_ f h) (hm : eM ex h)
    (hQ : ∀ (h' : xb_H) (fr bi s : Nat), (fr = 23 ∧ bi = 127 ∧ s < 2147483648) ∨ (fr = 52 ∧ bi = 1023 ∧ s < 9223372036854775808) → (x &&& ((xb_lshl 1 ((xb_i h ex 5) - 1)) - 1)).toBitVec.toNat = s → (xb_i h ex 6).toInt = fr → eF ex rw_ [8, 9, 10] h h' → eK ex rw_ f h' → eM ex h' → (xb_l h' ex 9).toBitVec.toNat = eAm fr s → (xb_i h' ex 10).toInt = (eWt fr s : Int) - bi - fr → Qr h') : w_Exact_split ex x h Qr := by
  have k1 := hk.1
  unfold w_Exact_split
  refine ⟨k1.1, sp_esize k1.1 (fun r3 e3 _ v4 e4 v5 e5 => sp_eisMinus k1.1 (fun r7 h7 _ => ⟨h7, fun h9 e9 => ?_⟩))⟩
  have f9 : eF ex rw_ [8] h h9 := by rw [e9]; exact eF.I k1
  have k9 : eK ex rw_ f h9 := by rw [e9]; exact hk.I (by omega) (by omega) (by omega)
  have i6 : xb_i h9 ex 6 = xb_i h ex 6 := f9.2.2.2.2.2.1 6 (by decide)
  have i7 : xb_i h9 ex 7 = xb_i h ex 7 := f9.2.2.2.2.2.1 7 (by decide)
  rw [i6]
  -- numbers
  obtain ⟨fr, bi, s, c1, c2, c3, c4, c5, c6⟩ : ∃ fr bi s : Nat, ((fr = 23 ∧ bi = 127 ∧ s < 2147483648) ∨ (fr = 52 ∧ bi = 1023 ∧ s < 9223372036854775808)) ∧ r3.toBitVec.toNat = s ∧ (xb_i h ex 6).toInt = fr ∧ (xb_i h ex 7).toInt = bi ∧ v5.toBitVec.toNat = s % 2 ^ fr ∧ (xb_lshl 1 (xb_i h ex 6)).toBitVec.toNat = 2 ^ fr := by
    rcases hm with ⟨m1, m2, m3⟩ | ⟨m1, m2, m3⟩
    · have y1 : r3.toBitVec.toNat = x.toBitVec.toNat % 2 ^ 31 := by
        rw [e3, m1]
        exact Z_and_mod x 31 (by decide)
      have y2 : v5.toBitVec.toNat = x.toBitVec.toNat % 2 ^ 23 := by
        rw [e5, m2]
        exact Z_and_mod x 23 (by decide)
      refine ⟨23, 127, x.toBitVec.toNat % 2 ^ 31, .inl ⟨rfl, rfl, by omega⟩, y1, by rw [m2]; rfl, by rw [m3]; rfl, ?_, by rw [m2]; decide⟩
      rw [y2]
      omega
    · have y1 : r3.toBitVec.toNat = x.toBitVec.toNat % 2 ^ 63 := by
        rw [e3, m1]
        exact Z_and_mod x 63 (by decide)
      have y2 : v5.toBitVec.toNat = x.toBitVec.toNat % 2 ^ 52 := by
        rw [e5, m2]
        exact Z_and_mod x 52 (by decide)
      refine ⟨52, 1023, x.toBitVec.toNat % 2 ^ 63, .inr ⟨rfl, rfl, by omega⟩, y1, by rw [m2]; rfl, by rw [m3]; rfl, ?_, by rw [m2]; decide⟩
      rw [y2]
      omega
  have hs63 : s < 9223372036854775808 := by omega
  have r3i : r3.toInt = s := by
    have := Z_nat r3
    have := Z_rg r3
    omega
  have v4i : v4.toInt = (s / 2 ^ fr : Nat) := by
    rw [e4, Z_sar (k := fr) c3 (by omega), r3i]
    rw [Int.natCast_ediv]
  have hq : s / 2 ^ fr < 2048 ∧ s % 2 ^ fr < 4503599627370496 ∧ 2 ^ fr ≤ 4503599627370496 := by
    rcases c1 with ⟨q1, q2, q3⟩ | ⟨q1, q2, q3⟩ <;> subst q1
    · have : s / 2 ^ 23 < 2048 := by omega
      have : s % 2 ^ 23 < 2 ^ 23 := Nat.mod_lt _ (by decide)
      omega
    · have : s / 2 ^ 52 < 2048 := by omega
      have : s % 2 ^ 52 < 2 ^ 52 := Nat.mod_lt _ (by decide)
      omega
  have fin : ∀ (a : Int64) (y0 : Int32), a.toBitVec.toNat = eAm fr s → y0.toInt = eWt fr s → eWt fr s < 2048 → ∀ h2 : xb_H, h2 = xb_L h9 ex 9 a → w_Exact_split_L69 Qr ex y0 ex h2 := by
    intro a y0 ha hy hw h2 e2
    have f2 : eF ex rw_ [9] h9 h2 := by rw [e2]; exact eF.Lx k9.1
    have k2 : eK ex rw_ f h2 := by rw [e2]; exact k9.Lx
    unfold w_Exact_split_L69
    refine ⟨k2.1.1, k2.1.1, fun h3 e3' => ?_⟩
    have f3 : eF ex rw_ [10] h2 h3 := by rw [e3']; exact eF.I k2.1
    have k3 : eK ex rw_ f h3 := by rw [e3']; exact k2.I (by omega) (by omega) (by omega)
    have j6 : xb_i h2 ex 6 = xb_i h ex 6 := by rw [f2.2.2.2.2.2.1 6 (by decide)]; exact i6
    have j7 : xb_i h2 ex 7 = xb_i h ex 7 := by rw [f2.2.2.2.2.2.1 7 (by decide)]; exact i7
    have fA := (f9.tr (f2.tr f3)).mono (F2 := [8, 9, 10]) (by decide)
    refine hQ h3 fr bi s c1 (by rw [← e3]; exact c2) c3 fA k3 ?_ ?_ ?_
    · unfold eM
      rw [fA.2.2.2.2.2.1 5 (by decide), fA.2.2.2.2.2.1 6 (by decide), fA.2.2.2.2.2.1 7 (by decide)]
      exact hm
    · rw [e3', xh_lI, e2, xh_lL, if_pos rfl, xh_up, if_pos rfl]
      exact ha
    · have y1 : (y0 - xb_i h ex 7).toInt = (eWt fr s : Int) - bi := by
        rw [z_sub, hy, c4]
        omega
      rw [e3', xh_iI, if_pos rfl, xh_up, if_pos rfl, j6, j7, z_sub, y1, c3]
      omega
  have z0 : v4 = 0 ↔ s / 2 ^ fr = 0 := by
    rw [Z_eq, v4i, show (0 : Int64).toInt = 0 from rfl]
    omega
  refine ⟨fun e => ?_, fun e => ?_⟩
  · have hne : ¬ s / 2 ^ fr = 0 := fun h9 => e (z0.mpr h9)
    unfold w_Exact_split_L53
    refine ⟨k9.1.1, fun h2 e2 => ⟨fun _ => fin _ _ ?_ ?_ ?_ h2 e2, fun e' => absurd e' e⟩⟩
    · unfold eAm
      rw [if_neg hne, Z_addN, c5, c6]
      omega
    · unfold eWt
      rw [if_neg hne]
      exact z_l2i v4i (by omega)
    · unfold eWt
      rw [if_neg hne]
      omega
  · have hze := z0.mp e
    unfold w_Exact_split_L53
    refine ⟨k9.1.1, fun h2 e2 => ⟨fun e' => absurd e e', fun _ => fin _ _ ?_ ?_ ?_ h2 e2⟩⟩
    · unfold eAm
      rw [if_pos hze, c5]
    · unfold eWt
      rw [if_pos hze]
      rfl
    · unfold eWt
      rw [if_pos hze]
      omega
theorem eAm_lt {fr bi s : Nat} (c : (fr = 23 ∧ bi = 127 ∧ s < 2147483648) ∨ (fr = 52 ∧ bi = 1023 ∧ s < 9223372036854775808)) : eAm fr s < 2 ^ 53 ∧ 1 ≤ eWt fr s ∧ eWt fr s < 2048 ∧ (fr = 23 → eWt fr s < 256) ∧ (s ≠ 0 → eAm fr s ≠ 0) := by
  unfold eAm eWt
  rcases c with ⟨q1, q2, q3⟩ | ⟨q1, q2, q3⟩ <;> subst q1
  · have e1 : s % 2 ^ 23 < 2 ^ 23 := Nat.mod_lt _ (by decide)
    have e2 : s / 2 ^ 23 < 256 := by omega
    have e3 := Nat.div_add_mod s (2 ^ 23)
    split <;> omega
  · have e1 : s % 2 ^ 52 < 2 ^ 52 := Nat.mod_lt _ (by decide)
    have e2 : s / 2 ^ 52 < 2048 := by omega
    have e3 := Nat.div_add_mod s (2 ^ 52)
    split <;> omega
end EX5

-- equality, floating point: the reference rounds to whole numbers, makes floating numbers of whole ones
section XFC
variable {ex rw_ p b a : Nat} {f : Nat → Nat} {h h' : xb_H} {F : List Nat} {τ : Int} {x y : Int64}
/-- cleared, a number laid, rounded -/
theorem xr_eclad {x1 : Int64} {x3 v : Int32} {P n : Nat} {e : Int} {Qr : Int64 → xb_H → Prop} (hk : eK ex rw_ (fun _ => 0) h) (hm : eP ex τ h) (hb : fpb τ p b) (hz : xb_i h ex 4 = 0) (hp : 2200 + x3.toInt = P) (hp2 : P ≤ 3200) (hx : x1.toBitVec.toNat = n) (n0 : 0 < n) (he : e = (P : Int) - 2200) (hQ : ∀ (r : Int64) (h' : xb_H) (f' : Nat → Nat), eF ex rw_ [2, 3] h h' → eK ex rw_ f' h' → r.toBitVec.toNat = (if v = 0 then 0 else fS p b) ||| rnF p b n e → Qr r h') : w_Exact_add ex x1 x3 h (fun h6 => xb_ext h h6 → xb_k h6 ex = 10 ∧ w_Exact_rounded ex v h6 (fun r9 h8 => xb_ext h6 h8 → Qr r9 h8)) := by
  have l64 : n < 2 ^ 64 := by rw [← hx]; exact x1.toBitVec.isLt
  have P4 : P < 4400 := by omega
  refine xr_eadd hk hp P4 (by rw [hx, eU_zero]; exact pw_0 (pw_1 hp2 l64)) (fun f' h' g1 g2 g3 _ => ?_)
  rw [eU_zero, Nat.zero_add, hx] at g3
  refine ⟨g2.1.1, xr_rounded g2 (hm.fr g1 (by decide)) hb (by rw [g3]; exact Nat.mul_pos (Nat.pow_pos (by decide)) n0) (ρ := 0) (by rw [g1.2.2.2.2.2.1 4 (by decide), hz]; rfl) (fun r hr _ => hQ r h' f' g1 g2 ?_)⟩
  rw [hr, g3, rf_v n0 he]
theorem wh_d {FA d : Nat} (hd : 1 ≤ d) : FA / 2 ^ d = FA / 2 ^ (d - 1) / 2 ∧ FA % 2 ^ d = 2 ^ (d - 1) * (FA / 2 ^ (d - 1) % 2) + FA % 2 ^ (d - 1) ∧ 2 ^ d = 2 * 2 ^ (d - 1) ∧ FA % 2 ^ (d - 1) < 2 ^ (d - 1) := by
  obtain ⟨c, rfl⟩ : ∃ c, d = c + 1 := ⟨d - 1, by omega⟩
  rw [Nat.add_sub_cancel]
  exact ⟨by rw [Nat.pow_succ, Nat.div_div_eq_div_mul], mod_nx FA c, by rw [Nat.pow_succ, Nat.mul_comm], Nat.mod_lt _ (Nat.pow_pos (by decide))⟩
theorem wh_n {FA d : Nat} (hd : 1 ≤ d) : (2 ^ d < 2 * (FA % 2 ^ d) ∨ (2 * (FA % 2 ^ d) = 2 ^ d ∧ FA / 2 ^ d % 2 = 1)) ↔ (FA / 2 ^ (d - 1) % 2 = 1 ∧ (FA % 2 ^ (d - 1) ≠ 0 ∨ FA / 2 ^ d % 2 = 1)) := by
  obtain ⟨e1, e2, e3, e4⟩ := wh_d (FA := FA) hd
  rw [e2, e3]
  have hβ : FA / 2 ^ (d - 1) % 2 < 2 := Nat.mod_lt _ (by decide)
  generalize FA / 2 ^ (d - 1) % 2 = β at *
  generalize FA % 2 ^ (d - 1) = r at *
  generalize FA / (2 * 2 ^ (d - 1)) = q at *
  generalize 2 ^ (d - 1) = H at *
  rcases (show β = 0 ∨ β = 1 by omega) with h9 | h9 <;> subst h9
  · rw [Nat.mul_zero]
    omega
  · rw [Nat.mul_one]
    omega
theorem wh_h {FA d : Nat} (hd : 1 ≤ d) (hb : FA / 2 ^ (d - 1) % 2 = 1) : FA = (2 * (FA / 2 ^ d) + 1) * 2 ^ (d - 1) + FA % 2 ^ (d - 1) := by
  obtain ⟨e1, e2, e3, e4⟩ := wh_d (FA := FA) hd
  have e5 := Nat.div_add_mod FA (2 ^ (d - 1))
  have e6 : 2 * (FA / 2 ^ d) + 1 = FA / 2 ^ (d - 1) := by
    rw [e1]
    omega
  rw [e6, Nat.mul_comm]
  exact e5.symm
theorem wh_0 {FA d : Nat} (hF : FA < 2 ^ 54) (hd : 55 ≤ d) : FA / 2 ^ d = 0 ∧ FA % 2 ^ d = FA ∧ FA / 2 ^ (d - 1) = 0 := by
  have l1 : FA < 2 ^ d := Nat.lt_of_lt_of_le hF (Nat.pow_le_pow_right (by decide) (by omega))
  have l2 : FA < 2 ^ (d - 1) := Nat.lt_of_lt_of_le hF (Nat.pow_le_pow_right (by decide) (by omega))
  exact ⟨Nat.div_eq_of_lt l1, Nat.mod_eq_of_lt l1, Nat.div_eq_of_lt l2⟩
theorem wh_s {x : Int64} {u : Int32} {n d N : Nat} (hx : x.toBitVec.toNat = n) (hu : u.toInt = d) (hd : d < 64) (hN : N < 2 ^ 54) (hle : n * 2 ^ d ≤ N) : (xb_lshl x u).toBitVec.toNat = n * 2 ^ d := by
  rw [Z_shl hu hd, hx]
  exact Nat.mod_eq_of_lt (Nat.lt_of_le_of_lt hle (Nat.lt_trans hN (by decide)))
theorem xr_ewhole {u : Int32} {w : Nat} {Qr : Int64 → xb_H → Prop} (hk : eK ex rw_ f h) (hm : eP ex τ h) (hb : fpb τ p b) (hx : x.toBitVec.toNat = a) (wx : fW p b a) (hu : u.toInt = (w + 1 : Nat)) (w2 : 2 ≤ w) (w5 : w ≤ 5)
    (hQ : ∀ (r : Int64) (h' : xb_H) (f' : Nat → Nat), eF ex rw_ eFB h h' → eK ex rw_ f' h' → r.toBitVec.toNat = frd p b w a → Qr r h') : w_Exact_whole ex u x h Qr := by
  have k1 := hk.1.1
  have same : ∀ r : Int64, r.toBitVec.toNat = frd p b w a → Qr r h := fun r => hQ r h f eF.rf hk
  have cu : ∀ (z : Int32) (j : Nat), z.toInt = (j + 1 : Nat) → (u = z ↔ w = j) := fun z j e => by rw [z_eq, hu, e]; omega
  unfold w_Exact_whole w_Exact_whole_L16
  refine ⟨k1, xr_eisInfinite k1 hm hb hx (fun r3 _ c3 _ => ⟨fun e => same _ ?_, fun e3 => xr_eisZero k1 hm hb hx (fun r6 _ c6 _ => ⟨fun e6 => ?_, fun e => same _ ?_⟩)⟩)⟩
  · unfold frd
    rw [if_pos (.inl (Classical.byContradiction fun h9 => e (c3.mpr h9)))]
    exact hx
  · have z := c6.mp e6
    have ni := c3.mp e3
    have rA := fwt_r (a := a) hb
    have F54 := fam_54 (a := a) hb
    refine xr_esplit hk hm hb hx wx (fun h8 f8 k8 m8 a8 w8 d8 c8 _ => ?_)
    have lt0 : xb_i h8 ex 10 < 0 ↔ fwt p b a < 0 := by rw [z_lt, w8]; rfl
    rw [lt0]
    refine ⟨fun neg => ?_, fun e => hQ _ h8 f (f8.mono (by decide)) k8 ?_⟩
    · obtain ⟨d, hd⟩ : ∃ d : Nat, (d : Int) = -fwt p b a := ⟨(-fwt p b a).toNat, by omega⟩
      have d1 : 1 ≤ d := by omega
      have dn : (-xb_i h8 ex 10).toInt = d := by
        rw [z_neg, w8]
        omega
      have dn1 : (-xb_i h8 ex 10 - 1).toInt = (d - 1 : Nat) := by
        rw [z_sub, dn, show (1 : Int32).toInt = 1 from rfl]
        omega
      have val : frd p b w a = fsg p b a ||| (if fam p b a / 2 ^ d + fru w d (fam p b a) (a < fS p b) = 0 then 0 else rnF p b (fam p b a / 2 ^ d + fru w d (fam p b a) (a < fS p b)) 0) := by
        unfold frd
        rw [if_neg (fun h9 => by
          rcases h9 with h9 | h9 | h9
          · exact ni h9
          · exact z h9
          · omega), show (-(fwt p b a)).toNat = d by omega]
      have sg : (if xb_i h8 ex 8 = 0 then 0 else fS p b) = fsg p b a := by
        unfold fsg
        by_cases h9 : xb_i h8 ex 8 = 0
        · rw [if_pos h9, if_pos (c8.mp h9)]
        · rw [if_neg h9, if_neg (fun h8 => h9 (c8.mpr h8))]
      have l62 : (62 : Int32) < -xb_i h8 ex 10 ↔ 62 < d := by rw [z_lt, dn, show (62 : Int32).toInt = 62 from rfl]; omega
      have l62' : -xb_i h8 ex 10 ≤ 62 ↔ d ≤ 62 := by rw [z_le, dn, show (62 : Int32).toInt = 62 from rfl]; omega
      have l63 : (63 : Int32) < -xb_i h8 ex 10 ↔ 63 < d := by rw [z_lt, dn, show (63 : Int32).toInt = 63 from rfl]; omega
      have wn := wh_n (FA := fam p b a) d1
      have wh := fun hb => wh_h (FA := fam p b a) d1 hb
      have w0 := fun hd => wh_0 (FA := fam p b a) (d := d) F54 hd
      have dm := Nat.div_add_mod (fam p b a) (2 ^ d)
      have fne : fam p b a ≠ 0 := Nat.pos_iff_ne_zero.mp (fam_p hb z).1
      have lp : fam p b a / 2 ^ d ≤ fam p b a := Nat.div_le_self _ _
      clear hd rA neg lt0 w8 cu
      have cu : ∀ (z : Int32) (j : Nat), z.toInt = (j + 1 : Nat) → (u = z ↔ w = j) := fun z j e => by rw [z_eq, hu, e]; omega
      generalize fam p b a = FA at *
      have L259 : ∀ (y0 : Int64) (N : Nat), y0.toBitVec.toNat = N → N = FA / 2 ^ d + fru w d FA (a < fS p b) → w_Exact_whole_L259 Qr ex y0 h8 := by
        intro y0 N hy hN
        rw [← hN] at val
        have y00 : y0 = 0 ↔ N = 0 := by rw [Z_eqN, hy]; rfl
        unfold w_Exact_whole_L259
        rw [y00]
        refine ⟨fun nz => ⟨k8.1.1, fun v3 e3 => xr_eclear k8 (fun h4 f4 k4 z4 _ => ?_)⟩, fun nz => ⟨k8.1.1, xr_esigned k8.1.1 m8 hb (n := 0) rfl (fun r hr _ => hQ r h8 f (f8.mono (by decide)) k8 ?_)⟩⟩
        · have l64 : N < 2 ^ 64 := by rw [← hy]; exact y0.toBitVec.isLt
          have N0 : 0 < N := Nat.pos_of_ne_zero nz
          refine xr_eadd k4 (P := 2200) rfl (by decide) (by rw [hy, eU_zero]; exact pw_0 (pw_1 (by decide) l64)) (fun f' h' g1 g2 g3 _ => ?_)
          rw [eU_zero, Nat.zero_add, hy] at g3
          refine xr_rounded g2 ((m8.fr f4 (by decide)).fr g1 (by decide)) hb (by rw [g3]; exact Nat.mul_pos (Nat.pow_pos (by decide)) N0) (ρ := 0) (by rw [g1.2.2.2.2.2.1 4 (by decide), z4]; rfl) (fun r hr _ => hQ r h' f' (((f8.tr f4).tr g1).mono (by decide)) g2 ?_)
          rw [hr, g3, rf_v (e := 0) N0 rfl, val, if_neg nz, e3, sg]
        · rw [hr, sg, val, if_pos nz]
      have L243 : ∀ (x4 : Int64), x4.toBitVec.toNat = FA / 2 ^ d → (fru w d FA (a < fS p b) = 0 → w_Exact_whole_L243 Qr ex x4 0 h8) ∧ (fru w d FA (a < fS p b) = 1 → w_Exact_whole_L243 Qr ex x4 1 h8) := by
        intro x4 h4
        unfold w_Exact_whole_L243
        refine ⟨fun e => ⟨fun _ => L259 x4 _ h4 (by rw [e, Nat.add_zero]), fun h9 => absurd rfl h9⟩, fun e => ⟨fun h9 => absurd h9 (by decide), fun _ => L259 (x4 + 1) _ ?_ (by rw [e])⟩⟩
        rw [Z_addN, h4, show (1 : Int64).toBitVec.toNat = 1 from rfl]
        exact Nat.mod_eq_of_lt (Nat.lt_of_le_of_lt (Nat.add_le_add_right lp 1) (Nat.lt_of_lt_of_le (Nat.add_lt_add_right F54 1) (by decide)))
      have L161 : ∀ (x4 : Int64) (x6 x7 y0 : Int32), x4.toBitVec.toNat = FA / 2 ^ d → (x6 = 0 ↔ FA % 2 ^ d = 0) → (x7 = 0 ↔ ¬ FA / 2 ^ (d - 1) % 2 = 1) → (x7 ≠ 0 → (y0 = 0 ↔ FA % 2 ^ (d - 1) = 0)) → w_Exact_whole_L161 Qr ex u x4 x6 x7 y0 h8 := by
        intro x4 x6 x7 y0 h4 h6 h7 hy
        obtain ⟨q0, q1⟩ := L243 x4 h4
        have od : (x4 &&& 1) = 1 ↔ FA / 2 ^ d % 2 = 1 := by
          rw [Z_eqN, Z_and, h4, show (1 : Int64).toBitVec.toNat = 1 from rfl, Nat.and_one_is_mod]
        unfold fru at q0 q1
        have r1 : ((w = 2 ∧ a < fS p b ∧ FA % 2 ^ d ≠ 0) ∨ (w = 3 ∧ ¬ a < fS p b ∧ FA % 2 ^ d ≠ 0) ∨ (w = 5 ∧ (FA / 2 ^ (d - 1) % 2 = 1 ∧ (FA % 2 ^ (d - 1) ≠ 0 ∨ FA / 2 ^ d % 2 = 1)))) → w_Exact_whole_L243 Qr ex x4 1 h8 := fun h9 => q1 (if_pos (by rw [wn]; exact h9))
        have r0 : ¬ ((w = 2 ∧ a < fS p b ∧ FA % 2 ^ d ≠ 0) ∨ (w = 3 ∧ ¬ a < fS p b ∧ FA % 2 ^ d ≠ 0) ∨ (w = 5 ∧ (FA / 2 ^ (d - 1) % 2 = 1 ∧ (FA % 2 ^ (d - 1) ≠ 0 ∨ FA / 2 ^ d % 2 = 1)))) → w_Exact_whole_L243 Qr ex x4 0 h8 := fun h9 => q0 (if_neg (fun h8 => h9 (by rw [wn] at h8; exact h8)))
        clear q0 q1 L243 L259 val wn wh w0 dm
        unfold w_Exact_whole_L161 w_Exact_whole_L242 w_Exact_whole_L238 w_Exact_whole_L209 w_Exact_whole_L184
        rw [cu 3 2 rfl, cu 4 3 rfl, cu 6 5 rfl, od]
        generalize FA % 2 ^ d = R at *
        generalize FA / 2 ^ (d - 1) % 2 = β at *
        generalize FA % 2 ^ (d - 1) = R' at *
        generalize FA / 2 ^ d % 2 = o at *
        refine ⟨fun n2 => ⟨fun n3 => ⟨fun n5 => r0 (by omega), fun e5 => ⟨fun e7 => r0 (fun h9 => ?_), fun e7 => ⟨fun ey => r1 (.inr (.inr ⟨e5, ?_, .inl fun h9 => ey ((hy e7).mpr h9)⟩)), fun ey => ⟨fun eo => r0 (fun h9 => ?_), fun eo => r1 (.inr (.inr ⟨e5, ?_, .inr eo⟩))⟩⟩⟩⟩, fun e3 => ⟨fun e6 => r0 (fun h9 => ?_), fun e6 => ⟨k8.1.1, fun es => r0 (fun h9 => ?_), fun es => r1 (.inr (.inl ⟨e3, fun h9 => es (c8.mpr h9), fun h9 => e6 (h6.mpr h9)⟩))⟩⟩⟩, fun e2 => ⟨fun e6 => r0 (fun h9 => ?_), fun e6 => ⟨k8.1.1, fun es => r0 (fun h9 => ?_), fun es => r1 (.inl ⟨e2, c8.mp es, fun h9 => e6 (h6.mpr h9)⟩)⟩⟩⟩
        · have := h7.mp e7
          omega
        · exact Classical.byContradiction fun h9 => e7 (h7.mpr h9)
        · have := (hy e7).mp ey
          omega
        · exact Classical.byContradiction fun h9 => e7 (h7.mpr h9)
        · have := h6.mp e6
          omega
        · have := c8.mp es
          omega
        · have := h6.mp e6
          omega
        · have : ¬ a < fS p b := fun h9 => es (c8.mpr h9)
          omega
      have L125 : ∀ (x4 : Int64) (x6 y0 : Int32), x4.toBitVec.toNat = FA / 2 ^ d → (x6 = 0 ↔ FA % 2 ^ d = 0) → (y0 = 0 ↔ ¬ FA / 2 ^ (d - 1) % 2 = 1) → (y0 ≠ 0 → d ≤ 63) → w_Exact_whole_L125 Qr ex u x4 x6 y0 h8 := by
        intro x4 x6 y0 h4 h6 h7 hd
        unfold w_Exact_whole_L125 w_Exact_whole_L160
        refine ⟨fun e => L161 x4 x6 y0 0 h4 h6 h7 (fun h9 => absurd e h9), fun e => ?_⟩
        have bt : FA / 2 ^ (d - 1) % 2 = 1 := Classical.byContradiction fun h9 => e (h7.mpr h9)
        have d63 := hd e
        have fe := wh bt
        have n2 : (2 * x4 + 1).toBitVec.toNat = 2 * (FA / 2 ^ d) + 1 := by
          rw [Z_addN, Z_mulN, h4, show (2 : Int64).toBitVec.toNat = 2 from rfl, show (1 : Int64).toBitVec.toNat = 1 from rfl]
          have : FA / 2 ^ d < 18014398509481984 := Nat.lt_of_le_of_lt lp F54
          clear fe wn wh w0 dm
          generalize FA / 2 ^ d = q at *
          omega
        have sh := wh_s (N := FA) n2 dn1 (by omega) F54 (by rw [Nat.le_iff_lt_add_one]; exact Nat.lt_succ_of_le (Nat.le_trans (Nat.le_add_right _ _) (Nat.le_of_eq fe.symm)))
        have eq : (xb_l h8 ex 9) = (xb_lshl ((2 * x4) + 1) ((-(xb_i h8 ex 10)) - 1)) ↔ FA % 2 ^ (d - 1) = 0 := by
          rw [Z_eqN, a8, sh]
          generalize (2 * (FA / 2 ^ d) + 1) * 2 ^ (d - 1) = T at *
          generalize FA % 2 ^ (d - 1) = R' at *
          omega
        rw [eq]
        exact ⟨k8.1.1, fun e2 => L161 x4 x6 y0 0 h4 h6 h7 (fun _ => ⟨fun _ => e2, fun _ => rfl⟩), fun e2 => L161 x4 x6 y0 1 h4 h6 h7 (fun _ => ⟨fun h9 => absurd h9 (by decide), fun h9 => absurd h9 e2⟩)⟩
      have L89 : ∀ (x4 : Int64) (y0 : Int32), x4.toBitVec.toNat = FA / 2 ^ d → (y0 = 0 ↔ FA % 2 ^ d = 0) → w_Exact_whole_L89 Qr ex u x4 y0 h8 := by
        intro x4 y0 h4 h6
        unfold w_Exact_whole_L89 w_Exact_whole_L124
        rw [l63]
        refine ⟨k8.1.1, fun e => L125 x4 y0 0 h4 h6 ⟨fun _ h9 => ?_, fun _ => rfl⟩ (fun h9 => absurd rfl h9), fun e => ?_⟩
        · rw [(w0 (by omega)).2.2] at h9
          exact absurd h9 (by decide)
        · obtain ⟨b1, b0⟩ := Z_bit01 a8 dn1 (by omega)
          rw [b1]
          exact ⟨fun c => L125 x4 y0 0 h4 h6 ⟨fun _ => c, fun _ => rfl⟩ (fun h9 => absurd rfl h9), fun c => L125 x4 y0 1 h4 h6 ⟨fun h9 => absurd h9 (by decide), fun h9 => absurd c h9⟩ (fun _ => Nat.not_lt.mp e)⟩
      have L56 : ∀ x4 : Int64, x4.toBitVec.toNat = FA / 2 ^ d → w_Exact_whole_L56 Qr ex u x4 h8 := by
        intro x4 h4
        unfold w_Exact_whole_L56 w_Exact_whole_L84
        rw [l62]
        refine ⟨k8.1.1, fun e => L89 x4 1 h4 ⟨fun h9 => absurd h9 (by decide), fun h9 => ?_⟩, fun e => ?_⟩
        · rw [(w0 (by omega)).2.1] at h9
          exact absurd h9 fne
        · have sh := wh_s (N := FA) h4 dn (by omega) F54 (by rw [Nat.mul_comm]; exact Nat.mul_div_le FA (2 ^ d))
          have eq : (xb_l h8 ex 9) = (xb_lshl x4 (-(xb_i h8 ex 10))) ↔ FA % 2 ^ d = 0 := by
            rw [Z_eqN, a8, sh, Nat.mul_comm]
            generalize 2 ^ d * (FA / 2 ^ d) = T at *
            generalize FA % 2 ^ d = R at *
            omega
          rw [eq]
          exact ⟨fun e2 => L89 x4 0 h4 ⟨fun _ => e2, fun _ => rfl⟩, fun e2 => L89 x4 1 h4 ⟨fun h9 => absurd h9 (by decide), fun h9 => absurd h9 e2⟩⟩
      rw [l62']
      refine ⟨fun e => L56 _ ?_, fun e => L56 _ ?_⟩
      · have s := Z_sar (x := xb_l h8 ex 9) dn (by omega)
        rw [Z_nn a8 (Nat.lt_trans F54 (by decide)), ← Int.natCast_ediv] at s
        have c := Z_nat (xb_lshr (xb_l h8 ex 9) (-xb_i h8 ex 10))
        rw [s] at c
        have : FA / 2 ^ d < 18014398509481984 := Nat.lt_of_le_of_lt lp F54
        clear wn wh w0 dm L56 L89 L125 L161 L243 L259
        generalize FA / 2 ^ d = q at *
        omega
      · rw [(w0 (by omega)).1]
        rfl
    · unfold frd
      rw [if_pos (.inr (.inr (Int.not_lt.mp e)))]
      exact hx
  · unfold frd
    rw [if_pos (.inr (.inl (Classical.byContradiction fun h9 => e (c6.mpr h9))))]
    exact hx
end XFC

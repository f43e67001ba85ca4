-- equality, floating point: the reference's quotient
section XF8
variable {ex rw_ p b a ax ay A B : Nat} {f : Nat → Nat} {h h' : xb_H} {F : List Nat} {τ : Int} {x y : Int64}
theorem rf_s {q i ρ : Nat} {e : Int} (hb : fpb τ p b) (hi : 1 ≤ i) (hρ : ρ ≤ 1) (hq : 2 ^ (p + 1) ≤ 2 * q) (he : e = (i : Int) - 2201) : rnF p b (2 * (2 ^ i * q) + ρ) (-2201) = rnF p b (2 * q + ρ) e := by
  have h2 : 2 ≤ 2 ^ i := by
    have : 2 ^ 1 ≤ 2 ^ i := Nat.pow_le_pow_right (by decide) hi
    omega
  have e1 : 2 * (2 ^ i * q) + ρ = 2 ^ i * (2 * q) + ρ := by rw [Nat.mul_left_comm]
  have d1 : (2 * (2 ^ i * q) + ρ) / 2 ^ i = 2 * q := by rw [e1, Nat.mul_add_div (by omega), Nat.div_eq_of_lt (by omega), Nat.add_zero]
  have d2 : (2 * (2 ^ i * q) + ρ) % 2 ^ i = ρ := by rw [e1, Nat.mul_add_mod, Nat.mod_eq_of_lt (by omega)]
  have s : stk (2 * (2 ^ i * q) + ρ) i = 2 * q + ρ := by
    unfold stk
    rw [d1, d2]
    split <;> omega
  have k := rnF_st (N := 2 * (2 ^ i * q) + ρ) (j := i) (e := -2201) hb (by rw [d1]; exact hq)
  rw [s, show (-2201 : Int) + i = e by omega] at k
  exact k.symm
theorem qt_b {X m : Nat} (hm : m ≤ 162) : (110 ≤ m → X * 2 ^ 110 / 2 ^ m = X / 2 ^ (m - 110)) ∧ (m < 110 → X * 2 ^ 110 / 2 ^ m % 2 = 0) := by
  refine ⟨fun h1 => ?_, fun h1 => ?_⟩
  · rw [show (2 : Nat) ^ m = 2 ^ (m - 110) * 2 ^ 110 by rw [← Nat.pow_add, Nat.sub_add_cancel h1]]
    exact Nat.mul_div_mul_right _ _ (Nat.pow_pos (by decide))
  · rw [show (2 : Nat) ^ 110 = 2 ^ (109 - m) * 2 * 2 ^ m by rw [← Nat.pow_succ, ← Nat.pow_add]; congr 1; omega, ← Nat.mul_assoc, Nat.mul_div_cancel _ (Nat.pow_pos (by decide)), ← Nat.mul_assoc]
    exact Nat.mul_mod_left _ _
theorem qt_V {c V i m Q : Nat} (h1 : V = 2 ^ i * (2 ^ (m + 1) * Q)) : V = 2 ^ i * (2 ^ m * (2 * Q)) ∧ V + 2 ^ (i + m) * 1 = 2 ^ i * (2 ^ m * (2 * Q + 1)) := by
  have e1 : 2 ^ (m + 1) * Q = 2 ^ m * (2 * Q) := by rw [Nat.pow_succ, Nat.mul_assoc]
  rw [e1] at h1
  refine ⟨h1, ?_⟩
  rw [h1, Nat.pow_add, Nat.mul_one, ← Nat.mul_add, Nat.mul_add (2 ^ m), Nat.mul_one]
theorem qt_l {Y c m Q L : Nat} (hc : 0 < c) (h : Y / 2 ^ m = c * Q + L) (hY : Y < 2 ^ 164) {i : Nat} (hi : i ≤ 4190) : 2 ^ i * (2 ^ m * Q) < 2 ^ 4400 := by
  have h1 : Q ≤ c * Q := Nat.le_mul_of_pos_left _ hc
  have h2 : Q ≤ Y / 2 ^ m := Nat.le_trans h1 (by rw [h]; exact Nat.le_add_right _ _)
  have h3 : 2 ^ m * Q ≤ Y := Nat.le_trans (Nat.mul_le_mul_left _ h2) (Nat.mul_div_le Y (2 ^ m))
  refine Nat.lt_of_lt_of_le (Nat.mul_lt_mul_of_pos_left (Nat.lt_of_le_of_lt h3 hY) (Nat.pow_pos (by decide))) ?_
  rw [← Nat.pow_add]
  exact Nat.pow_le_pow_right (by decide) (by omega)
theorem qt_big {X c : Nat} (hX : 0 < X) (hc : c < 2 ^ 53) (hc0 : 0 < c) : 2 ^ 57 ≤ X * 2 ^ 110 / c := by
  refine (Nat.le_div_iff_mul_le hc0).mpr ?_
  have h1 : 2 ^ 57 * c ≤ 2 ^ 57 * 2 ^ 53 := Nat.mul_le_mul_left _ (Nat.le_of_lt hc)
  have h2 : 1 * 2 ^ 110 ≤ X * 2 ^ 110 := Nat.mul_le_mul_right _ hX
  refine Nat.le_trans h1 (Nat.le_trans ?_ h2)
  decide
theorem qt_c {l c B : Nat} (h1 : l < c) (h2 : c < 2 ^ 53) (h3 : B < 2) : 2 * l + B < 9223372036854775808 ∧ 2 * l % 18446744073709551616 = 2 * l := by
  have : (2 : Nat) ^ 53 = 9007199254740992 := by decide
  omega
theorem qt_n {m P0 : Nat} {x11 pw : Int32} (e1 : x11.toInt = ((m + 1 : Nat) : Int) - 111) (e2 : m + 1 ≤ 163) (hP : 2200 + pw.toInt = P0) (hP1 : 111 ≤ P0) (hP2 : P0 ≤ 4300) : (x11 + -1).toInt = (m : Int) - 111 ∧ m ≤ 162 ∧ m ≤ 163 ∧ 2200 + (pw + x11).toInt = ((P0 - 110 + m : Nat) : Int) ∧ P0 - 110 + m < 4400 ∧ P0 - 110 ≤ 4190 ∧ ¬ x11 < -110 ∧ ((0 : Int32) ≤ x11 ↔ 110 ≤ m) ∧ (110 ≤ m → x11.toInt = (m - 110 : Nat)) ∧ m - 110 < 64 := by
  refine ⟨?_, by omega, by omega, ?_, by omega, by omega, ?_, ?_, fun h9 => by omega, by omega⟩
  · rw [z_add, show (-1 : Int32).toInt = -1 from rfl]
    omega
  · rw [z_add]
    omega
  · rw [z_lt, show (-110 : Int32).toInt = -110 from rfl]
    omega
  · rw [z_le, show (0 : Int32).toInt = 0 from rfl]
    omega
theorem xr_equotientL {Qr : Int64 → xb_H → Prop} {s : Int32} {pw : Int32} {P0 X c : Nat} {e : Int} (hb : fpb τ p b) (hP : 2200 + pw.toInt = P0) (hP1 : 111 ≤ P0) (hP2 : P0 ≤ 4300) (hx : x.toBitVec.toNat = c) (hc : c < 2 ^ 53) (hc0 : 0 < c) (hX : X < 2 ^ 54) (X0 : 0 < X) (he : e = (P0 : Int) - 2311) (h0 : xb_H) (hQ : ∀ (r : Int64) (h' : xb_H) (f' : Nat → Nat), eF ex rw_ [2, 3, 4] h0 h' → eK ex rw_ f' h' → r.toBitVec.toNat = (if s = 0 then 0 else fS p b) ||| rnF p b (dvN X c 110) e → Qr r h') :
    ∀ (m : Nat) (x9 : Int64) (x11 : Int32) (l Q : Nat) (f : Nat → Nat) (h : xb_H), x11.toInt = (m : Int) - 111 → m ≤ 163 → x9.toBitVec.toNat = l → l < c → X * 2 ^ 110 / 2 ^ m = c * Q + l → eK ex rw_ f h → eP ex τ h → (xb_l h ex 9).toBitVec.toNat = X → eU f 0 4400 = 2 ^ (P0 - 110) * (2 ^ m * Q) → eF ex rw_ [2, 3] h0 h → w_Exact_quotient_L147 Qr (m + 1) ex s x pw x9 x11 h := by
  have hY : X * 2 ^ 110 < 2 ^ 164 := Nat.lt_of_lt_of_le (Nat.mul_lt_mul_of_pos_right hX (Nat.pow_pos (by decide))) (by decide)
  have p57 : 2 ^ (p + 1) ≤ 2 ^ 57 := by
    have hp : (p = 24 ∧ b = 127) ∨ (p = 53 ∧ b = 1023) := by unfold fpb at hb; omega
    exact Nat.pow_le_pow_right (by decide) (by omega)
  have i1 : 1 ≤ P0 - 110 := by omega
  have he' : e = ((P0 - 110 : Nat) : Int) - 2201 := by omega
  have qbig := qt_big X0 hc hc0
  clear he
  intro m
  induction m with
  | zero =>
    intro x9 x11 l Q f h e1 e2 g1 g2 g3 hk hm hX2 hU hF
    rw [Nat.pow_zero, Nat.div_one] at g3
    rw [Nat.pow_zero, Nat.one_mul] at hU
    have q1 : X * 2 ^ 110 / c = Q := by rw [g3, Nat.mul_add_div hc0, Nat.div_eq_of_lt g2, Nat.add_zero]
    have q2 : X * 2 ^ 110 % c = l := by rw [g3, Nat.mul_add_mod, Nat.mod_eq_of_lt g2]
    have qb := qbig
    rw [q1] at qb
    have Q0 : 0 < Q := Nat.lt_of_lt_of_le (by decide) qb
    have hq : 2 ^ (p + 1) ≤ 2 * Q := Nat.le_trans p57 (Nat.le_trans qb (Nat.le_mul_of_pos_left _ (by decide)))
    have L225 : ∀ (v : Int32) (ρ : Nat), (v = 0 ∨ v = 1) → v.toInt = ρ → ρ ≤ 1 → (if l = 0 then 0 else 1) = ρ → w_Exact_quotient_L225 Qr ex s v ex h := by
      intro v ρ hv hv2 hρ hl
      unfold w_Exact_quotient_L225
      refine ⟨hk.1.1, hv, fun h3 e3 => ?_⟩
      have k3 : eK ex rw_ f h3 := by rw [e3]; exact hk.rs hv
      have f3 : eF ex rw_ [4] h h3 := by rw [e3]; exact eF.I hk.1
      have z3 : (xb_i h3 ex 4).toInt = ρ := by rw [e3, xh_iI, if_pos rfl, xh_up, if_pos rfl]; exact hv2
      refine ⟨k3.1.1, xr_rounded k3 (hm.fr f3 (by decide)) hb (by rw [hU]; exact Nat.mul_pos (Nat.pow_pos (by decide)) Q0) z3 (fun r hr _ => hQ r h3 f ((hF.tr f3).mono (by decide)) k3 ?_)⟩
      unfold dvN
      rw [hr, hU, q1, q2, hl, rf_s hb i1 hρ hq he']
    have z9 : x9 = 0 ↔ l = 0 := by rw [Z_eqN, g1]; rfl
    unfold w_Exact_quotient_L147
    rw [z9]
    refine ⟨fun _ => ⟨fun c0 => L225 0 0 (.inl rfl) rfl (by decide) (if_pos c0), fun c0 => L225 1 1 (.inr rfl) rfl (by decide) (if_neg c0)⟩, fun e => ?_⟩
    rw [z_lt, e1, show (-110 : Int32).toInt = -110 from rfl] at e
    exact absurd (by decide) e
  | succ m ih =>
    intro x9 x11 l Q f h e1 e2 g1 g2 g3 hk hm hX2 hU hF
    obtain ⟨e3, m162, m163, pe, pl, i41, n110, x0, x11k, l64⟩ := qt_n e1 e2 hP hP1 hP2
    obtain ⟨t1, t2⟩ := qt_b (X := X) m162
    have dc := dd_core hc0 g3 g2
    have hB2 : X * 2 ^ 110 / 2 ^ m % 2 < 2 := Nat.mod_lt _ (by decide)
    obtain ⟨v1', v2'⟩ := qt_V (c := c) hU
    have q0 : m < 110 → X * 2 ^ 110 / 2 ^ m % 2 = 0 := t2
    have q1 : 110 ≤ m → (xb_lshr (xb_l h ex 9) x11 &&& 1).toBitVec.toNat = X * 2 ^ 110 / 2 ^ m % 2 := fun h9 => by
      rw [Z_bit hX2 (x11k h9) l64, t1 h9]
    have ql : ∀ Q L, X * 2 ^ 110 / 2 ^ m = c * Q + L → 2 ^ (P0 - 110) * (2 ^ m * Q) < 2 ^ 4400 := fun Q L h9 => qt_l hc0 h9 hY i41
    have ih' : ∀ (x9 : Int64) (l Q : Nat) (f : Nat → Nat) (h : xb_H), x9.toBitVec.toNat = l → l < c → X * 2 ^ 110 / 2 ^ m = c * Q + l → eK ex rw_ f h → eP ex τ h → (xb_l h ex 9).toBitVec.toNat = X → eU f 0 4400 = 2 ^ (P0 - 110) * (2 ^ m * Q) → eF ex rw_ [2, 3] h0 h → w_Exact_quotient_L147 Qr (m + 1) ex s x pw x9 (x11 + -1) h := fun x9 l Q f h => ih x9 _ l Q f h e3 m163
    clear ih g3 hU e1 e2 e3 t1 t2
    generalize X * 2 ^ 110 / 2 ^ m = Ym at *
    generalize Ym % 2 = Bt at *
    obtain ⟨c1, c2⟩ := qt_c g2 hc hB2
    have L178 : ∀ y0 : Int64, y0.toBitVec.toNat = Bt → w_Exact_quotient_L178 (w_Exact_quotient_L147 Qr (m + 1)) Qr ex s x pw x11 y0 (2 * x9) h := by
      intro y0 hy0
      unfold w_Exact_quotient_L178 w_Exact_quotient_L206
      intro v1 ev1
      have n1 : v1.toBitVec.toNat = 2 * l + Bt := by
        rw [ev1, Z_addN, Z_mulN, g1, hy0, show (2 : Int64).toBitVec.toNat = 2 from rfl, c2]
        exact Nat.mod_eq_of_lt (Nat.lt_trans c1 (by decide))
      have lt : v1 < x ↔ 2 * l + Bt < c := by
        rw [Z_ltN (by rw [n1]; exact c1) (by rw [hx]; exact Nat.lt_trans hc (by decide)), n1, hx]
      rw [lt]
      refine ⟨fun d => ih' v1 (2 * l + Bt) (2 * Q) f h n1 d dc hk hm hX2 v1' hF, fun d v3 ev3 => ⟨hk.1.1, ?_⟩⟩
      have d3 := dl_3 hc0 dc (Nat.not_lt.mp d)
      have n3 : v3.toBitVec.toNat = 2 * l + Bt - c := by
        rw [ev3, Z_subN _ _ (by rw [n1, hx]; exact Nat.not_lt.mp d), n1, hx]
      refine xr_eadd hk pe pl (by rw [show (1 : Int64).toBitVec.toNat = 1 from rfl, v2']; exact ql _ _ d3) (fun f' h' j1 j2 j3 _ => ih' v3 (2 * l + Bt - c) (2 * Q + 1) f' h' n3 (dl_1 g2 hB2 (Nat.not_lt.mp d)) d3 j2 (hm.fr j1 (by decide)) ?_ ?_ ((hF.tr j1).mono (by decide)))
      · rw [j1.2.2.2.2.2.2 (by decide)]
        exact hX2
      · rw [j3, show (1 : Int64).toBitVec.toNat = 1 from rfl, v2']
    unfold w_Exact_quotient_L147
    rw [x0]
    refine ⟨fun e => absurd e n110, fun _ => ⟨fun c0 => ⟨hk.1.1, L178 _ (q1 c0)⟩, fun c0 => L178 _ ?_⟩⟩
    rw [q0 (Nat.not_le.mp c0)]
    rfl
end XF8

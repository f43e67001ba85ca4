-- equality, floating point: the reference's root
section XFA
variable {ex rw_ p b a : Nat} {f : Nat → Nat} {h h' : xb_H} {F : List Nat} {τ : Int} {x y : Int64}
theorem rq_b {X m : Nat} (hm : m ≤ 56) : (30 ≤ m → X * 4 ^ 30 / 4 ^ m = X / 4 ^ (m - 30)) ∧ (m < 30 → X * 4 ^ 30 / 4 ^ m % 4 = 0) := by
  refine ⟨fun h1 => ?_, fun h1 => ?_⟩
  · rw [show (4 : Nat) ^ m = 4 ^ (m - 30) * 4 ^ 30 by rw [← Nat.pow_add, Nat.sub_add_cancel h1]]
    exact Nat.mul_div_mul_right _ _ (Nat.pow_pos (by decide))
  · rw [show (4 : Nat) ^ 30 = 4 ^ (29 - m) * 4 * 4 ^ m by rw [← Nat.pow_succ, ← Nat.pow_add]; congr 1; omega, ← Nat.mul_assoc, Nat.mul_div_cancel _ (Nat.pow_pos (by decide)), ← Nat.mul_assoc]
    exact Nat.mul_mod_left _ _
theorem rq_s {Z m q l : Nat} (h1 : Z / 4 ^ (m + 1) = q * q + l) (h2 : l ≤ 2 * q) : (¬ 4 * q + 1 ≤ 4 * l + Z / 4 ^ m % 4 → Z / 4 ^ m = (2 * q) * (2 * q) + (4 * l + Z / 4 ^ m % 4) ∧ 4 * l + Z / 4 ^ m % 4 ≤ 2 * (2 * q)) ∧ (4 * q + 1 ≤ 4 * l + Z / 4 ^ m % 4 → Z / 4 ^ m = (2 * q + 1) * (2 * q + 1) + (4 * l + Z / 4 ^ m % 4 - (4 * q + 1)) ∧ 4 * l + Z / 4 ^ m % 4 - (4 * q + 1) ≤ 2 * (2 * q + 1)) := by
  have e1 : Z / 4 ^ (m + 1) = Z / 4 ^ m / 4 := by rw [Nat.pow_succ, Nat.div_div_eq_div_mul]
  have e2 : (2 * q) * (2 * q) = 4 * (q * q) := by rw [Nat.mul_mul_mul_comm]
  have e3 := sq_s (2 * q)
  rw [e1] at h1
  rw [e2] at e3
  rw [e2, e3]
  generalize Z / 4 ^ m = Y at *
  generalize q * q = S at *
  omega
theorem rq_lt {Z m q : Nat} (h1 : q * q ≤ Z / 4 ^ m) (hZ : Z < 2 ^ 57 * 2 ^ 57) : 2 ^ m * q < 2 ^ 57 := by
  refine sq_lt (Nat.lt_of_le_of_lt ?_ hZ)
  rw [Nat.mul_mul_mul_comm, ← Nat.pow_add, show (2 : Nat) ^ (m + m) = 4 ^ m by rw [← Nat.two_mul, Nat.pow_mul]]
  exact Nat.le_trans (Nat.mul_le_mul_left _ h1) (Nat.mul_div_le Z (4 ^ m))
theorem rq_V {V i j : Nat} (hi : i ≤ 4300) (hj : j < 2 ^ 57) : 2 ^ i * j < 2 ^ 4400 := by
  refine Nat.lt_of_lt_of_le (Nat.mul_lt_mul_of_pos_left hj (Nat.pow_pos (by decide))) ?_
  rw [← Nat.pow_add]
  exact Nat.pow_le_pow_right (by decide) (by omega)
theorem Z_pair {v : Int64} {u : Int32} {A k : Nat} (hA : v.toBitVec.toNat = A) (lA : A < 2 ^ 54) (hu : u.toInt = k) (hk : k < 27) : (xb_lshr v (2 * u) &&& 3).toBitVec.toNat = A / 4 ^ k % 4 := by
  have e1 : (2 * u).toInt = (2 * k : Nat) := by
    rw [z_mul, hu, show (2 : Int32).toInt = 2 from rfl]
    omega
  have p54 : (2 : Nat) ^ 54 = 18014398509481984 := by decide
  have e2 := Z_sar (x := v) e1 (by omega)
  rw [Z_nn hA (by omega), ← Int.natCast_ediv] at e2
  have e3 : A / 2 ^ (2 * k) ≤ A := Nat.div_le_self _ _
  have e4 : (xb_lshr v (2 * u)).toBitVec.toNat = A / 2 ^ (2 * k) := by
    have := Z_nat (xb_lshr v (2 * u))
    rw [e2] at this
    generalize A / 2 ^ (2 * k) = q at *
    omega
  rw [Z_and_mod _ 2 rfl, e4, Nat.pow_mul]
theorem rq_n {m P0 : Nat} {x7 u : Int32} (e1 : x7.toInt = ((m + 1 : Nat) : Int) - 31) (e2 : m + 1 ≤ 57) (hP : 2200 + u.toInt = P0) (hP1 : 1000 ≤ P0) (hP2 : P0 ≤ 3000) : (x7 + -1).toInt = (m : Int) - 31 ∧ m ≤ 56 ∧ m ≤ 57 ∧ 2200 + (u + x7).toInt = ((P0 - 30 + m : Nat) : Int) ∧ P0 - 30 + m < 4400 ∧ P0 - 30 ≤ 4300 ∧ ¬ x7 < -30 ∧ ((0 : Int32) ≤ x7 ↔ 30 ≤ m) ∧ (30 ≤ m → x7.toInt = (m - 30 : Nat)) ∧ m - 30 < 27 := by
  refine ⟨?_, by omega, by omega, ?_, by omega, by omega, ?_, ?_, fun h9 => by omega, by omega⟩
  · rw [z_add, show (-1 : Int32).toInt = -1 from rfl]
    omega
  · rw [z_add]
    omega
  · rw [z_lt, show (-30 : Int32).toInt = -30 from rfl]
    omega
  · rw [z_le, show (0 : Int32).toInt = 0 from rfl]
    omega
theorem rq_o {q l B : Nat} (h1 : q < 2 ^ 57) (h2 : l ≤ 2 * q) (h3 : B < 4) : 4 * l % 18446744073709551616 = 4 * l ∧ (4 * l + B) % 18446744073709551616 = 4 * l + B ∧ 4 * l + B < 9223372036854775808 ∧ 4 * q % 18446744073709551616 = 4 * q ∧ (4 * q + 1) % 18446744073709551616 = 4 * q + 1 ∧ 4 * q + 1 < 9223372036854775808 ∧ q * 2 ^ 1 % 18446744073709551616 = 2 * q ∧ (2 * q + 1) % 18446744073709551616 = 2 * q + 1 := by
  have p57 : (2 : Nat) ^ 57 = 144115188075855872 := by decide
  omega
theorem xr_erootL {Qr : Int64 → xb_H → Prop} {P0 A : Nat} {e : Int} (hb : fpb τ p b) (hP1 : 1000 ≤ P0) (hP2 : P0 ≤ 3000) (h0 : xb_H) (hP : 2200 + ((xb_i h0 ex 10) / 2).toInt = P0) (hA : 2 ^ 52 ≤ A) (hA2 : A < 2 ^ 54) (he : e = (P0 : Int) - 2231) (hQ : ∀ (r : Int64) (h' : xb_H) (f' : Nat → Nat), eF ex rw_ [2, 3, 4] h0 h' → eK ex rw_ f' h' → r.toBitVec.toNat = rnF p b (sqS (A * 4 ^ 30)) e → Qr r h') :
    ∀ (m : Nat) (x3 x5 : Int64) (x7 : Int32) (l q : Nat) (f : Nat → Nat) (h : xb_H), x7.toInt = (m : Int) - 31 → m ≤ 57 → x3.toBitVec.toNat = l → x5.toBitVec.toNat = q → l ≤ 2 * q → A * 4 ^ 30 / 4 ^ m = q * q + l → eK ex rw_ f h → eP ex τ h → (xb_l h ex 9).toBitVec.toNat = A → eU f 0 4400 = 2 ^ (P0 - 30) * (2 ^ m * q) → eF ex rw_ [2, 3] h0 h → w_Exact_root_L115 Qr (m + 1) ex x3 x5 x7 h := by
  have hZ : A * 4 ^ 30 < 2 ^ 57 * 2 ^ 57 := Nat.lt_of_lt_of_le (Nat.mul_lt_mul_of_pos_right hA2 (Nat.pow_pos (by decide))) (by decide)
  have hZ2 : 2 ^ 56 * 2 ^ 56 ≤ A * 4 ^ 30 := Nat.le_trans (by decide) (Nat.mul_le_mul_right (4 ^ 30) hA)
  have p57 : 2 ^ (p + 1) ≤ 2 ^ 56 := by
    have hp : (p = 24 ∧ b = 127) ∨ (p = 53 ∧ b = 1023) := by unfold fpb at hb; omega
    exact Nat.pow_le_pow_right (by decide) (by omega)
  have i1 : 1 ≤ P0 - 30 := by omega
  have he' : e = ((P0 - 30 : Nat) : Int) - 2201 := by omega
  clear he
  intro m
  induction m with
  | zero =>
    intro x3 x5 x7 l q f h e1 e2 g1 g2 g3 g4 hk hm hA9 hU hF
    rw [Nat.pow_zero, Nat.div_one] at g4
    rw [Nat.pow_zero, Nat.one_mul] at hU
    have iq : isq (A * 4 ^ 30) = q := isq_u (by rw [g4]; exact Nat.le_add_right _ _) (by rw [g4, sq_s]; omega)
    have qb : 2 ^ 56 ≤ q := by
      have h1 := (isq_s (A * 4 ^ 30)).2
      rw [iq] at h1
      exact Nat.le_of_lt_succ (sq_lt (Nat.lt_of_le_of_lt hZ2 h1))
    have Q0 : 0 < q := Nat.lt_of_lt_of_le (by decide) qb
    have hq : 2 ^ (p + 1) ≤ 2 * q := Nat.le_trans p57 (Nat.le_trans qb (Nat.le_mul_of_pos_left _ (by decide)))
    have ez : q * q = A * 4 ^ 30 ↔ l = 0 := by
      rw [g4]
      generalize q * q = S at *
      omega
    have L217 : ∀ (v : Int32) (ρ : Nat), (v = 0 ∨ v = 1) → v.toInt = ρ → ρ ≤ 1 → (if q * q = A * 4 ^ 30 then 0 else 1) = ρ → w_Exact_root_L217 Qr ex v ex h := by
      intro v ρ hv hv2 hρ hl
      unfold w_Exact_root_L217
      refine ⟨hk.1.1, hv, fun h3 e3 => ?_⟩
      have k3 : eK ex rw_ f h3 := by rw [e3]; exact hk.rs hv
      have f3 : eF ex rw_ [4] h h3 := by rw [e3]; exact eF.I hk.1
      have z3 : (xb_i h3 ex 4).toInt = ρ := by rw [e3, xh_iI, if_pos rfl, xh_up, if_pos rfl]; exact hv2
      refine ⟨k3.1.1, xr_rounded k3 (hm.fr f3 (by decide)) hb (by rw [hU]; exact Nat.mul_pos (Nat.pow_pos (by decide)) Q0) z3 (fun r hr _ => hQ r h3 f ((hF.tr f3).mono (by decide)) k3 ?_)⟩
      unfold sqS
      rw [hr, if_pos rfl, Nat.zero_or, hU, iq, hl, rf_s hb i1 hρ hq he']
    have z9 : x3 = 0 ↔ l = 0 := by rw [Z_eqN, g1]; rfl
    unfold w_Exact_root_L115
    rw [z9]
    refine ⟨fun _ => ⟨fun c0 => L217 0 0 (.inl rfl) rfl (by decide) (if_pos (ez.mpr c0)), fun c0 => L217 1 1 (.inr rfl) rfl (by decide) (if_neg (fun h9 => c0 (ez.mp h9)))⟩, fun e => ?_⟩
    rw [z_lt, e1, show (-30 : Int32).toInt = -30 from rfl] at e
    exact absurd (by decide) e
  | succ m ih =>
    intro x3 x5 x7 l q f h e1 e2 g1 g2 g3 g4 hk hm hA9 hU hF
    obtain ⟨e3, m56, m57, pe, pl, i43, n30, x0, x7k, l27⟩ := rq_n e1 e2 hP hP1 hP2
    obtain ⟨t1, t2⟩ := rq_b (X := A) m56
    obtain ⟨s1, s2⟩ := rq_s g4 g3
    have hB4 : A * 4 ^ 30 / 4 ^ m % 4 < 4 := Nat.mod_lt _ (by decide)
    have qs : q * q ≤ A * 4 ^ 30 / 4 ^ (m + 1) := by rw [g4]; exact Nat.le_add_right _ _
    have ql : q < 2 ^ 57 := Nat.lt_of_le_of_lt (Nat.le_mul_of_pos_left _ (Nat.pow_pos (by decide))) (rq_lt qs hZ)
    obtain ⟨v1', v2'⟩ := qt_V (c := 0) hU
    have q1 : 30 ≤ m → (xb_lshr (xb_l h ex 9) (2 * x7) &&& 3).toBitVec.toNat = A * 4 ^ 30 / 4 ^ m % 4 := fun h9 => by
      rw [Z_pair hA9 hA2 (x7k h9) l27, t1 h9]
    have vl : ∀ u, u * u ≤ A * 4 ^ 30 / 4 ^ m → 2 ^ (P0 - 30) * (2 ^ m * u) < 2 ^ 4400 := fun u hu => rq_V (V := 0) i43 (rq_lt hu hZ)
    have ih' : ∀ (x3 x5 : Int64) (l q : Nat) (f : Nat → Nat) (h : xb_H), x3.toBitVec.toNat = l → x5.toBitVec.toNat = q → l ≤ 2 * q → A * 4 ^ 30 / 4 ^ m = q * q + l → eK ex rw_ f h → eP ex τ h → (xb_l h ex 9).toBitVec.toNat = A → eU f 0 4400 = 2 ^ (P0 - 30) * (2 ^ m * q) → eF ex rw_ [2, 3] h0 h → w_Exact_root_L115 Qr (m + 1) ex x3 x5 (x7 + -1) h := fun x3 x5 l q f h => ih x3 x5 _ l q f h e3 m57
    have w10 : xb_i h ex 10 = xb_i h0 ex 10 := hF.2.2.2.2.2.1 10 (by decide)
    clear ih g4 hU e1 e2 e3 t1 qs
    generalize A * 4 ^ 30 / 4 ^ m = Ym at *
    generalize Ym % 4 = Bt at *
    obtain ⟨o1, o2, o3, o4, o5, o6, o7, o8⟩ := rq_o ql g3 hB4
    have L149 : ∀ y0 : Int64, y0.toBitVec.toNat = Bt → w_Exact_root_L149 (w_Exact_root_L115 Qr (m + 1)) Qr ex x5 x7 y0 (4 * x3) h := by
      intro y0 hy0
      unfold w_Exact_root_L149 w_Exact_root_L199
      intro v1 ev1 v2 ev2 v3 ev3
      have n1 : v1.toBitVec.toNat = 4 * l + Bt := by
        rw [ev1, Z_addN, Z_mulN, g1, hy0, show (4 : Int64).toBitVec.toNat = 4 from rfl, o1, o2]
      have n2 : v2.toBitVec.toNat = 4 * q + 1 := by
        rw [ev2, Z_addN, Z_mulN, g2, show (4 : Int64).toBitVec.toNat = 4 from rfl, show (1 : Int64).toBitVec.toNat = 1 from rfl, o4, o5]
      have n3 : v3.toBitVec.toNat = 2 * q := by
        rw [ev3, Z_shl (k := 1) rfl (by decide), g2, o7]
      have lt : v1 < v2 ↔ ¬ 4 * q + 1 ≤ 4 * l + Bt := by
        rw [Z_ltN (by rw [n1]; exact o3) (by rw [n2]; exact o6), n1, n2, Nat.not_le]
      rw [lt]
      refine ⟨fun d => ih' v1 v3 _ _ f h n1 n3 (s1 d).2 (s1 d).1 hk hm hA9 v1' hF, fun d v5 ev5 v6 ev6 => ⟨hk.1.1, ?_⟩⟩
      have d' := Classical.not_not.mp d
      obtain ⟨d1, d2⟩ := s2 d'
      have n5 : v5.toBitVec.toNat = 4 * l + Bt - (4 * q + 1) := by
        rw [ev5, Z_subN _ _ (by rw [n1, n2]; exact d'), n1, n2]
      have n6 : v6.toBitVec.toNat = 2 * q + 1 := by
        rw [ev6, Z_addN, n3, show (1 : Int64).toBitVec.toNat = 1 from rfl, o8]
      rw [w10]
      refine xr_eadd hk pe pl (by rw [show (1 : Int64).toBitVec.toNat = 1 from rfl, v2']; exact vl _ (by rw [d1]; exact Nat.le_add_right _ _)) (fun f' h' j1 j2 j3 _ => ih' v5 v6 _ _ f' h' n5 n6 d2 d1 j2 (hm.fr j1 (by decide)) ?_ ?_ ((hF.tr j1).mono (by decide)))
      · rw [j1.2.2.2.2.2.2 (by decide)]
        exact hA9
      · rw [j3, show (1 : Int64).toBitVec.toNat = 1 from rfl, v2']
    unfold w_Exact_root_L115
    rw [x0]
    refine ⟨fun e => absurd e n30, fun _ => ⟨fun c0 => ⟨hk.1.1, L149 _ (q1 c0)⟩, fun c0 => L149 _ ?_⟩⟩
    rw [t2 (Nat.not_le.mp c0)]
    rfl
end XFA

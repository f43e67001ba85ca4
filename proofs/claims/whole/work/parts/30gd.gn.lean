-- equality: constants, an instruction
section GN
variable {cb : Nat → Int32} {p K : Nat}
theorem byv_n : ∀ (n p : Nat) (x : Int64) (k : Int32) (K : Nat), k.toInt = K → K + n ≤ 8 → x.toBitVec.toNat < 256 ^ K → (byv cb n p x k).toBitVec.toNat < 256 ^ (K + n)
  | 0, p, x, k, K, _, _, hx => hx
  | n + 1, p, x, k, K, hk, hn, hx => by
    have hu := ub_r (cb := cb) (p := p)
    have hk1 : (k + 1).toInt = (K + 1 : Nat) := by
      rw [z_add, hk]
      simp only [Int32.reduceToInt]
      omega
    have h8 : (8 * k).toInt = (8 * K : Nat) := by
      rw [z_mul, hk]
      simp only [Int32.reduceToInt]
      omega
    obtain ⟨w, hw⟩ : ∃ w : Nat, (ub cb p).toInt = w := ⟨(ub cb p).toInt.toNat, by omega⟩
    have m2 : (Int32.toInt64 (ub cb p)).toBitVec.toNat = w := by
      have e1 := Z_nat (Int32.toInt64 (ub cb p))
      rw [Z_of32] at e1
      omega
    have m3 := Z_shl (x := Int32.toInt64 (ub cb p)) h8 (by omega)
    rw [m2] at m3
    have e2 : 2 ^ (8 * K) = 256 ^ K := by rw [Nat.pow_mul]
    have e3 : 256 ^ (K + 1) = 256 ^ K * 256 := Nat.pow_succ ..
    have e4 : 256 ^ (K + 1) ≤ 256 ^ 8 := Nat.pow_le_pow_right (by decide) (by omega)
    have e5 : (256 : Nat) ^ 8 = 18446744073709551616 := rfl
    have e6 : w * 256 ^ K + 256 ^ K ≤ 256 ^ K * 256 := by
      have : (w + 1) * 256 ^ K ≤ 256 * 256 ^ K := Nat.mul_le_mul_right _ (by omega)
      rw [Nat.add_mul, Nat.one_mul, Nat.mul_comm 256] at this
      exact this
    have e7 : 0 < 256 ^ K := Nat.pow_pos (by decide)
    rw [Nat.mod_eq_of_lt (by rw [e2]; omega)] at m3
    have := byv_n n (p + 1) (x ||| (xb_lshl (Int32.toInt64 (ub cb p)) (8 * k))) (k + 1) (K + 1) hk1 (by omega) (by
      rw [Z_or, m3, Nat.or_comm, or_ad (by rw [e2]; exact hx), e2]
      omega)
    rw [show K + 1 + n = K + (n + 1) by omega] at this
    exact this
theorem byv_4 {p : Nat} : (byv cb 4 p 0 0).toBitVec.toNat < 4294967296 := byv_n 4 p 0 0 0 rfl (by decide) (by decide)
/-- what a constant is worth, by the class's notes -/
theorem kc_x {d : mD} {cA ν : Nat → Int32} {b j q op : Nat} (hcb : dcb d j = cA (b + j)) (hop : (cA (b + j)).toInt = op) (h1 : 65 ≤ op) (h2 : op ≤ 68) (hn : nXc cA ν b (wk_sh op) j q) (hν : ∀ i, j ≤ i → b + i < q → dnu d i = ν i) (hW : rW cA (wk_sh op) (b + j + 1) q) : kc d j = if op = 65 then svl cA 32 4 5 (b + j + 1) 0 0 &&& 4294967295 else if op = 66 then svl cA 64 9 10 (b + j + 1) 0 0 else byv cA (if op = 67 then 4 else 8) (b + j + 1) 0 0 := by
  have hq := (rW_b hW).2.1
  have s65 : op = 65 → wk_sh op = 9 := fun e => by rw [e]; rfl
  have s66 : op = 66 → wk_sh op = 10 := fun e => by rw [e]; rfl
  have s67 : op = 67 → wk_sh op = 11 := fun e => by rw [e]; rfl
  have s68 : op = 68 → wk_sh op = 12 := fun e => by rw [e]; rfl
  have h4 : 4 ≤ wk_sh op := by
    rcases (show op = 65 ∨ op = 66 ∨ op = 67 ∨ op = 68 by omega) with e | e | e | e
    · rw [s65 e]; decide
    · rw [s66 e]; decide
    · rw [s67 e]; decide
    · rw [s68 e]; decide
  have hq1 := hq h4
  have d1 := hν (j + 1) (by omega) (by omega)
  have d0 := hν j (by omega) (by omega)
  have k0 : dcb d j = 65 ∨ dcb d j = 67 ↔ op = 65 ∨ op = 67 := by
    rw [hcb, z_eq, z_eq, hop]
    simp only [Int32.reduceToInt]
    omega
  unfold kc
  rcases (show op = 65 ∨ op = 66 ∨ op = 67 ∨ op = 68 by omega) with e | e | e | e
  · rw [if_pos (k0.mpr (.inl e)), if_pos e, d1, hn.2.2.2.2.1 (s65 e)]
    apply Int64.toInt.inj
    rw [Z_low, Z_low, Z_of32, z_of64]
    have h9 : (svC cA 5 (b + j + 1) 0 0).toInt % 4294967296 = (svl cA 32 4 5 (b + j + 1) 0 0).toInt % 4294967296 := sv_32 (cb := cA) 4 0 (b + j + 1) 0 0 rfl rfl (by decide)
    omega
  · rw [if_neg (show ¬ (dcb d j = 65 ∨ dcb d j = 67) from fun h9 => by have := k0.mp h9; omega), if_neg (show ¬ op = 65 by omega), if_pos e, d1, d0]
    obtain ⟨n1, n2⟩ := hn.2.2.2.2.2.1 (s66 e)
    rw [← sv_64 9 0 (b + j + 1) 0 0 rfl rfl (by decide)]
    have hnj := hn.1
    split
    · next h9 =>
      rw [n1]
      have hq2 : q = b + j + 1 + 1 := by omega
      rw [s66 e, rW_10i, hq2] at hW
      have hub : ¬ 128 ≤ ub cA (b + j + 1) := by
        intro h8
        unfold rds at hW
        rw [if_neg (fun h9 => absurd h9.1 (by decide)), if_pos h8] at hW
        have := (rds_b hW).1
        omega
      unfold svC
      rw [if_neg hub, if_pos (by decide)]
      obtain ⟨w, w1, w2, w3⟩ := sv_u (cb := cA) (p := b + j + 1) (x := 0) (k := 0) (K := 0) rfl (by omega) (by decide)
      obtain ⟨w4, -⟩ := sv_l (x := 0) (K := 0) (by decide) w1 w3
      have h7 := sv_e (K := 0) (s := 64 - 7 * (0 + 1)) (u := ((0 : Int64) ||| xb_lshl (Int32.toInt64 (ub cA (b + j + 1) &&& 127)) (7 * 0))) (by omega) rfl w4
      apply Int64.toInt.inj
      rw [Z_of32, z_of64, h7]
      generalize ((0 : Int64) ||| xb_lshl (Int32.toInt64 (ub cA (b + j + 1) &&& 127)) (7 * 0)).toBitVec.toNat = y at *
      simp only [Nat.reduceMul, Nat.reduceAdd, Nat.reducePow] at *
      split <;> omega
    · next h9 =>
      have hq2 : b + j + 2 < q := by omega
      rw [hν (j + 2) (by omega) (by omega), n1, n2 hq2]
      exact rec64 _
  · rw [if_pos (k0.mpr (.inr e)), if_neg (show ¬ op = 65 by omega), if_neg (show ¬ op = 66 by omega), if_pos e, d1, hn.2.2.2.2.2.2.1 (s67 e)]
    have := byv_4 (cb := cA) (p := b + j + 1)
    apply Int64.toInt.inj
    rw [Z_low, Z_of32, z_of64]
    have h9 := Z_nat (byv cA 4 (b + j + 1) 0 0)
    have h8 := Z_rg (byv cA 4 (b + j + 1) 0 0)
    omega
  · have hq2 : q = b + j + 1 + 8 := by
      rw [s68 e, rW_12i] at hW
      exact hW
    obtain ⟨n1, n2⟩ := hn.2.2.2.2.2.2.2 (s68 e)
    have hnj := hn.1
    rw [if_neg (show ¬ (dcb d j = 65 ∨ dcb d j = 67) from fun h9 => by have := k0.mp h9; omega), if_neg (show ¬ op = 65 by omega), if_neg (show ¬ op = 66 by omega), if_neg (show ¬ op = 67 by omega), d1, d0, if_neg (show ¬ (ν j).toInt = j + 2 by omega), hν (j + 2) (by omega) (by omega), n1, n2]
    exact rec64 _
end GN
section GN2
variable {own own' ad ad' : Nat → Nat} {h h' : xb_H} {W : wD} {σ D : Nat} {gx : Nat → fG} {t P lcn p0 E : Nat} {lo ν0 : Nat → Int32} {g : Nat} {G : ctG} {A : Nat → Nat} {F : Nat → Nat → Int32} {DM : Nat → zM} {most : Nat → Int64} {x : cX} {r : List cX} {n : Nat} {v ω : Nat → Int64} {T p0' E' : Nat} {lo' ν0' ν1' : Nat → Int32} {G' : ctG} {V' : Nat → Prop} {rm : Int} {w w' : rWd} {z : cZ} {z' : rZ} {op np i0 : Nat} {φ : Nat → Nat → Int32} {ε : wEf} {e : Option Int64} {o : Oc}
/-- a constant, in both -/
theorem cq_kc (hc : cmP own ad h W σ D gx t P lcn p0 E lo ν0 g G A F DM most x r n ω T p0' E' lo' ν0' ν1' G' V' rm) (hop : (dcb (wd W (gI (gx (D - 1)))) (gA (gx (D - 1)))).toInt % 256 = op) (h1 : 65 ≤ op) (h2 : op ≤ 68)
    (hco : ∃ y : Nat, ct_B (dnu (wd W (gI (gx (D - 1))))) p0 E (gA (gx (D - 1))) y ∧ o = .inl (D, va_up gx (D - 1) (gT_ (gx (D - 1)) y ((192 - op) :: gC (gx (D - 1))) (gS (gx (D - 1)))), va_up (xb_l h (ad 37)) (gO (gx (D - 1)) + (gC (gx (D - 1))).length) (kc (wd W (gI (gx (D - 1)))) (gA (gx (D - 1))))))
    (hst : stR A F DM (fMo (fun k => F (A k)) DM x.1) (fTy (fun k => F (A k)) DM x.1) x.1 x.2.1 x.2.2.1 (ct_B ν1' p0' E') ν0' op x.2.2.2.1 x.2.2.2.2.1 x.2.2.2.2.2 r ω most w w' z) (htz : tzR A F x z z') : oQ W (fun k => F (A k)) DM o z' ∧ w' = w := by
  obtain ⟨hpl, hp0, h0, e1, e2, e3, e4⟩ := hc.pl
  obtain ⟨hvs, hbo, hb0, hbD, hLC, hv, -⟩ := hc.ty
  have hO := hc.2.2.2.2.2.1
  have hgq := hpl.2.2.2.2.2.2.2
  rw [e3] at hst
  have s9 : wk_sh ((dcb (wd W (gI (gx (D - 1)))) (gA (gx (D - 1)))).toInt % 256) = 9 + (op - 65) := by
    rw [hop]
    unfold wk_sh
    rw [if_neg (by omega), if_pos (by omega)]
    omega
  obtain ⟨w1, x', rb, rz⟩ := hst.2.2.2.2.1 h1 (by omega)
  obtain ⟨yy, kb, ko⟩ := hco
  obtain ⟨q1, q2⟩ := hpl.nx2 (by omega) kb rb
  subst q1
  subst rz
  have ez' : z' = _ := htz
  subst ez'
  obtain ⟨q9, n1, n2, n3, n4, n5, n6, n7, n8⟩ := hpl.n4 (by omega)
  have hcx := hpl.core.2.2.1
  have hsh := hpl.sh
  have hb9 := hcx.2.1 (qb (fMo (fun k => F (A k)) DM x.1) + gA (gx (D - 1)))
  have hop' : (qc (fMo (fun k => F (A k)) DM x.1) (qb (fMo (fun k => F (A k)) DM x.1) + gA (gx (D - 1)))).toInt = op := by
    rw [hsh]
    rw [hsh] at hb9
    omega
  have hkc := kc_x (d := wd W (gI (gx (D - 1)))) hsh.symm hop' h1 h2 (by rw [hop] at n2; exact n2) (fun i i1 i2 => n8 (by omega) i i1 i2) (by rw [hop] at n1; exact n1)
  refine ⟨?_, w1⟩
  rw [ko]
  refine oQ.go hO (by rw [hp0]; exact q2) (by rw [List.length_cons, List.length_cons, e4]) (by rw [hp0]; exact hgq) (fun j hj => ?_)
  rw [List.length_cons] at hj
  have hval : kc (wd W (gI (gx (D - 1)))) (gA (gx (D - 1))) = arV (192 - op) (ktV (fMo (fun k => F (A k)) DM x.1) op (qb (fMo (fun k => F (A k)) DM x.1) + gA (gx (D - 1)))) := by
    rw [hkc]
    unfold ktV
    rcases (show op = 65 ∨ op = 66 ∨ op = 67 ∨ op = 68 by omega) with e | e | e | e
    · rw [if_pos e, if_pos e]
      unfold arV
      rw [if_pos (by omega)]
    · rw [if_neg (show ¬ op = 65 by omega), if_neg (show ¬ op = 65 by omega), if_pos e]
      unfold arV
      rw [if_neg (by omega)]
    · rw [if_neg (show ¬ op = 65 by omega), if_neg (show ¬ op = 65 by omega), if_neg (show ¬ op = 66 by omega), if_pos e]
      exact (arV_m _ (fun _ => byv_4)).symm
    · rw [if_neg (show ¬ op = 65 by omega), if_neg (show ¬ op = 65 by omega), if_neg (show ¬ op = 66 by omega)]
      unfold arV
      rw [if_neg (show ¬ ((192 : Int) - op = 127 ∨ (192 : Int) - op = 125) by omega)]
  rw [e2, e4, xh_up, xh_up, hval]
  split
  · rfl
  · exact hv j (by omega)
end GN2

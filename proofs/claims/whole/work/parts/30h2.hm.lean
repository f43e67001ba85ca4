-- equality: instantiate, constants and rows of a module in both
/-- a constant at p of the class's module, at qb D + p of the reference's -/
def knQ (d : mD) (D : zM) (p : Nat) : Prop :=
  (ub (qc D) (qb D + p) = 35 ∧ dcb d p = 35 ∧ (dnu d (p + 1)).toInt = cV (qc D) (qb D + p + 1) ∧ cV (qc D) (qb D + p + 1) < iM D 3) ∨
  (ub (qc D) (qb D + p) ≠ 35 ∧ dcb d p ≠ 35 ∧ kc d p = if ub (qc D) (qb D + p) = 65 then svl (qc D) 32 4 5 (qb D + p + 1) 0 0 &&& 4294967295 else if ub (qc D) (qb D + p) = 66 then svl (qc D) 64 9 10 (qb D + p + 1) 0 0 else byv (qc D) (if ub (qc D) (qb D + p) = 67 then 4 else 8) (qb D + p + 1) 0 0)
section HO
variable {own : Nat → Nat} {h : xb_H} {md k i p E E2 b N : Nat} {d : mD} {D : zM} {cA ν0 : Nat → Int32} {en : Nat → Nat → Nat} {vs0 : Nat → Nat → Int64} {S : Sm}
theorem z_small {x : Int32} {n : Nat} (h1 : x.toBitVec.toNat = n) (h2 : n < 2147483648) : x.toInt = n := by
  have h3 := z_nat x
  have h4 := x.le_toInt
  have h5 := x.toInt_lt
  omega
/-- a constant's list: its end, its notes -/
theorem kn_li (hD : D = zk b N cA S) (hJ : md_DJ en (dn d) vs0 (div_ d)) (hν : ∀ j : Nat, (∀ i, i < dn d 9 / 5 → (j : Int) < (vs0 9 (5 * i)).toInt ∨ en 9 i ≤ j) → dnu d j = ν0 j) (hcx : cx_ cA (dcb d) b N) (hm : mex (dcb d) ν0 N p (en k i)) (hV : md_V (dn d) vs0 (div_ d) k i p) (hk : k ≠ 9) (hW : eW cA ν0 b N E (b + p)) (hc : ckE D (b + p) E2) (hi3 : iM D 3 < 2147483648) : E = E2 ∧ knQ d D p := by
  have eqc : qc D = cA := by rw [hD]; rfl
  have eqb : qb D = b := by rw [hD]; rfl
  obtain ⟨-, hE, m, hw⟩ := hW
  cases m with
  | zero => exact False.elim hw
  | succ m =>
  obtain ⟨hpE, q', hq', hn, hr⟩ := hw
  have hN : p < N := by omega
  have ecb := hcx.1 p hN
  unfold ckE at hc
  rw [eqc] at hc
  obtain ⟨q, e1, e2, e3⟩ := hc
  have uop : ((cA (b + p)).toInt % 256) = (ub cA (b + p)).toInt := ub_op
  -- the shape
  have hsh : 4 ≤ wk_sh ((cA (b + p)).toInt % 256) ∧ rW cA (wk_sh ((cA (b + p)).toInt % 256)) (b + p + 1) q := by
    rw [uop]
    rcases e3 with ⟨e4, x, e5, e6⟩ | ⟨op, e4, e5, e6, e7⟩
    · rw [e4]
      exact ⟨by decide, rW_4i.mpr ⟨x, e5⟩⟩
    · rw [e4]
      have := wk_shc (b := (op : Int)) (by omega) (by omega)
      exact ⟨by omega, e7⟩
  have eq9 : q' = q := rW_f hq' hsh.2
  subst eq9
  have hn' := hn hsh.1
  have hbp : b + p - b = p := by omega
  rw [hbp] at hn'
  have h3 : ¬ wk_sh ((cA (b + p)).toInt % 256) = 3 := by omega
  have h1 : ¬ wk_sh ((cA (b + p)).toInt % 256) = 1 := by omega
  rcases hr with ⟨-, h9, -⟩ | ⟨-, hq9, hw2⟩
  · exact absurd h9 h3
  rw [if_neg h1, if_neg h3] at hw2
  have e11 : wk_sh ((cA q').toInt % 256) = 3 := by
    rw [show ((cA q').toInt % 256) = (ub cA q').toInt from ub_op, e2]
    decide
  have eE : E = E2 := by
    cases m with
    | zero => exact False.elim hw2
    | succ m =>
    obtain ⟨-, q2, -, -, hr2⟩ := hw2
    rcases hr2 with ⟨a1, -⟩ | ⟨a1, -⟩
    · omega
    · exact absurd ⟨e11, rfl⟩ a1
  refine ⟨eE, ?_⟩
  -- the notes are the reader's
  obtain ⟨p', m', f1, f2, f3, f4⟩ := hm
  have ep : p' = p := by omega
  subst ep
  obtain ⟨q1, g1, -, g3⟩ := f4.first (by rw [ecb]; exact hsh.1)
  have hnu : ∀ j, p' ≤ j → b + j < q' → dnu d j = ν0 j := fun j hj1 hj2 => by
    refine hν j (fun i' hi' => ?_)
    have hb1 := hn'.1
    have hV9 : md_V (dn d) vs0 (div_ d) 9 i' (vs0 9 (5 * i')).toInt := by
      refine ⟨.inr (.inr (.inl rfl)), ?_, fun e => by omega, ?_⟩
      · show 5 * i' + 5 ≤ dn d 9
        omega
      · rfl
    rcases hJ k i p' 9 i' _ hV hV9 (fun e => hk e.1) with h9 | h9
    · left
      omega
    · right
      omega
  unfold knQ
  rw [eqc, eqb]
  have hby := hcx.2.1 (b + p')
  have hub := ub_r (cb := cA) (p := b + p')
  rcases e3 with ⟨e4, x, e5, e6⟩ | ⟨op, e4, e5, e6, e7⟩
  · left
    have c35 : dcb d p' = 35 := by
      rw [ecb, ← ub_cb (cb := cA) (p := b + p') hby (by rw [e4]; decide), e4]
    have hs4 : wk_sh ((cA (b + p')).toInt % 256) = 4 := by rw [uop, e4]; decide
    have hq1 := (rW_b hsh.2).2.1 hsh.1
    have k1 := hn'.2.1 (.inl hs4)
    have kE := rC_E e5
    have kb := rC_b e5
    have hlt : cV cA (b + p' + 1) < iM D 3 := by
      rw [kE.2]
      omega
    refine ⟨e4, c35, ?_, hlt⟩
    rw [hnu (p' + 1) (by omega) (by omega)]
    exact z_small k1 (by omega)
  · right
    have hne : ub cA (b + p') ≠ 35 := fun h9 => by
      rw [h9] at e4
      have : (35 : Int32).toInt = 35 := rfl
      omega
    have ecA : (cA (b + p')).toInt = op := by
      rw [← ub_cb (cb := cA) (p := b + p') hby (by omega), e4]
    have hop : ((cA (b + p')).toInt % 256) = (op : Int) := by omega
    rw [hop] at hn' hsh
    have key := kc_x (d := d) (cA := cA) (ν := ν0) (b := b) (j := p') (q := q') (op := op) ecb ecA e5 e6 hn' hnu e7
    have u65 : ∀ c : Int32, ∀ n : Nat, c.toInt = n → (ub cA (b + p') = c ↔ op = n) := fun c n hc => by
      rw [z_eq, e4, hc]
      omega
    refine ⟨hne, fun h9 => ?_, ?_⟩
    · rw [ecb, z_eq, ecA] at h9
      have : (35 : Int32).toInt = 35 := rfl
      omega
    · rw [key]
      simp only [u65 65 65 rfl, u65 66 66 rfl, u65 67 67 rfl]
theorem mdR.i3 (hR : mdR D) : iM D 3 < 2147483648 := by
  have h8 : iM D 3 ≤ qt D 2 := kcn_le (cb := qc D) (P2 := qp D 2) (κ := 3) (qt D 2)
  have h9 := (hR.2.2.2.1 2 (by decide)).1
  omega
/-- an own variable's constant -/
theorem mdQ.k5 (hq : mdQ d D) (hR : mdR D) (hV : MV0 D) (hk : k < qt D 6) : ∃ p : Nat, (dvs d 5 (4 * (iM D 3 + k) + 3)).toInt = p ∧ qb D + p = qp D 6 k + 2 ∧ knQ d D p := by
  obtain ⟨b, N, cA, S, ω, hD, hL, -⟩ := hq
  obtain ⟨vs0, ν0, hE, k9, -, -, ⟨en, hJ, hν, -⟩, hcx, hdN, -⟩ := hL
  have eqb : qb D = b := by rw [hD]; rfl
  have ow := (zk_ow hE hD (κ := 3) (k := k) (by decide) hk).2.2.2 rfl
  have n5 := zk_n5 hE hD
  have iv3 := zk_iv hE hD (κ := 3) (by decide)
  obtain ⟨-, -, -, w3⟩ := ow
  have w3' : (vs0 5 (4 * (iM D 3 + k) + 3)).toInt + b = (qp D 6 k + 2 : Nat) := w3
  obtain ⟨m5, hm5, hl5⟩ := hJ.2.2.2.2.2.1
  have hi : iM D 3 + k < m5 := by omega
  have hx := (hl5 (iM D 3 + k) hi).2.2.2.2.2.2 (by rw [iv3]; omega)
  obtain ⟨p, m, f1, f2, f3, f4⟩ := id hx
  have f1' : (vs0 5 (4 * (iM D 3 + k) + 3)).toInt = p := f1
  rw [k9 5 (by decide)]
  refine ⟨p, f1', by rw [eqb]; omega, ?_⟩
  have hS6 : qt D 6 = S.1 6 := by rw [hD]; rfl
  have hP6 : qp D 6 k = S.2 6 k := by rw [hD]; rfl
  obtain ⟨E, hW⟩ := hE.2.2.2.2.1 k (by rw [← hS6]; exact hk)
  obtain ⟨E2, hc, -⟩ := hV.2.2.1 k hk
  have e6 : qp D 6 k + 2 = b + p := by omega
  rw [← hP6, e6] at hW
  rw [e6] at hc
  refine (kn_li hD hJ.2.2.2.2.2.2.2.2.2.2.2.2.2.2.2.2.2 hν hcx (k := 5) (i := iM D 3 + k) (p := p) ?_ ⟨.inl rfl, ?_, fun _ => ?_, ?_⟩ (by decide) hW hc hR.i3).2
  · exact ⟨p, m, rfl, f2, f3, f4⟩
  · show 4 * (iM D 3 + k) + 4 ≤ dn d 5
    omega
  · rw [iv3]
    omega
  · exact f1'
theorem rwE_of {s : Nat} (hc : ckE D (cE (qc D) (qp D s k)) E) : rwE D s k = E := by
  unfold rwE
  have hx : ∃ E, ckE D (cE (qc D) (qp D s k)) E := ⟨E, hc⟩
  rw [dif_pos hx]
  exact ckE_f (Classical.choose_spec hx) hc
/-- a row of elements: its constant, how long it is, its items -/
theorem mdQ.k7 (hq : mdQ d D) (hR : mdR D) (hV : MV0 D) (hk : k < qt D 9) : ∃ p f : Nat, (dvs d 7 (5 * k + 2)).toInt = p ∧ qb D + p = cE (qc D) (qp D 9 k) ∧ knQ d D p ∧ (dvs d 7 (5 * k + 3)).toInt = f ∧ (dvs d 7 (5 * k + 4)).toInt = cV (qc D) (rwE D 9 k) ∧ ∀ t, t < cV (qc D) (rwE D 9 k) → (dvs d 8 (2 * (f + t) + 1)).toInt = cV (qc D) ((cks (qc D) t (cE (qc D) (rwE D 9 k))).getD 0) := by
  obtain ⟨b, N, cA, S, ω, hD, hL, -⟩ := hq
  obtain ⟨vs0, ν0, hE, k9, -, -, ⟨en, hJ, hν, -⟩, hcx, hdN, -⟩ := hL
  have eqb : qb D = b := by rw [hD]; rfl
  have eqc : qc D = cA := by rw [hD]; rfl
  have hS9 : qt D 9 = S.1 9 := by rw [hD]; rfl
  have hP9 : qp D 9 k = S.2 9 k := by rw [hD]; rfl
  obtain ⟨n7, l7⟩ := hE.2.2.2.2.2.2.1
  obtain ⟨E, f, hW, w0, w1, w2, w3, w4, w5, w6⟩ := l7 k (by rw [← hS9]; exact hk)
  obtain ⟨-, E2, p3, L, hc, hrc, hcv⟩ := hV.2.2.2.2.2.1 k hk
  obtain ⟨m7, hm7, hl7⟩ := hJ.2.2.2.2.2.2.2.1
  have hi : k < m7 := by omega
  have hx := (hl7 k hi).2.2.2.2.1
  obtain ⟨p, m, f1, f2, f3, f4⟩ := id hx
  have f1' : (vs0 7 (5 * k + 2)).toInt = p := f1
  have ep : b + p = cE cA (S.2 9 k) := by omega
  have hc' : ckE D (b + p) E2 := by rw [ep, ← hP9, ← eqc]; exact hc
  rw [← ep] at hW
  obtain ⟨eE, kn⟩ := kn_li hD hJ.2.2.2.2.2.2.2.2.2.2.2.2.2.2.2.2.2 hν hcx (k := 7) (i := k) (p := p) ⟨p, m, rfl, f2, f3, f4⟩ ⟨.inr (.inl rfl), (by show 5 * k + 5 ≤ dn d 7; omega), fun e => by omega, f1'⟩ (by decide) hW hc' hR.i3
  subst eE
  have er : rwE D 9 k = E := rwE_of hc
  rw [k9 7 (by decide), k9 8 (by decide), er]
  refine ⟨p, f, f1', by rw [eqb, eqc, hP9]; exact ep, kn, w3, by rw [eqc]; exact w4, fun t ht => ?_⟩
  rw [eqc] at ht ⊢
  have h8 := (w6 t ht).2
  rw [eqc] at hrc
  obtain ⟨r1, r2⟩ := rC_E hrc
  unfold cvE at hcv
  rw [eqc] at hcv
  obtain ⟨pj, q, x, c1, c2, c3⟩ := hcv t (by rw [← r2]; exact ht)
  rw [r1] at h8 ⊢
  rw [itE_c c1] at h8
  rw [c1]
  rw [show 2 * (f + t) + 1 = 2 * f + 2 * t + 1 by omega]
  exact h8
/-- a row of data -/
theorem mdQ.k11 (hq : mdQ d D) (hR : mdR D) (hV : MV0 D) (hk : k < qt D 11) : ∃ p f : Nat, (dvs d 11 (5 * k + 2)).toInt = p ∧ qb D + p = cE (qc D) (qp D 11 k) ∧ knQ d D p ∧ (dvs d 11 (5 * k + 3)).toInt = f ∧ qb D + f = cE (qc D) (rwE D 11 k) ∧ (dvs d 11 (5 * k + 4)).toInt = cV (qc D) (rwE D 11 k) ∧ f + cV (qc D) (rwE D 11 k) ≤ dN d := by
  obtain ⟨b, N, cA, S, ω, hD, hL, -⟩ := hq
  obtain ⟨vs0, ν0, hE, k9, -, -, ⟨en, hJ, hν, -⟩, hcx, hdN, -⟩ := hL
  have eqb : qb D = b := by rw [hD]; rfl
  have eqc : qc D = cA := by rw [hD]; rfl
  have hS9 : qt D 11 = S.1 11 := by rw [hD]; rfl
  have hP9 : qp D 11 k = S.2 11 k := by rw [hD]; rfl
  obtain ⟨n7, l7⟩ := hE.2.2.2.2.2.2.2.2.1
  obtain ⟨E, hW, w0, w1, w2, w3, w4⟩ := l7 k (by rw [← hS9]; exact hk)
  obtain ⟨-, E2, hc⟩ := hV.2.2.2.2.2.2 k hk
  obtain ⟨m7, hm7, hl7⟩ := hJ.2.2.2.2.2.2.2.2.2.2.2.1
  have hi : k < m7 := by omega
  obtain ⟨-, -, -, -, hx, x3, x4, x5⟩ := hl7 k hi
  obtain ⟨p, m, f1, f2, f3, f4⟩ := id hx
  have f1' : (vs0 11 (5 * k + 2)).toInt = p := f1
  have x3' : 0 ≤ (vs0 11 (5 * k + 3)).toInt := x3
  have x5' : (vs0 11 (5 * k + 3)).toInt + (vs0 11 (5 * k + 4)).toInt ≤ N := x5
  have ep : b + p = cE cA (S.2 11 k) := by omega
  have hc' : ckE D (b + p) E2 := by rw [ep, ← hP9, ← eqc]; exact hc
  rw [← ep] at hW
  obtain ⟨eE, kn⟩ := kn_li hD hJ.2.2.2.2.2.2.2.2.2.2.2.2.2.2.2.2.2 hν hcx (k := 11) (i := k) (p := p) ⟨p, m, rfl, f2, f3, f4⟩ ⟨.inr (.inr (.inr rfl)), (by show 5 * k + 5 ≤ dn d 11; omega), fun e => by omega, f1'⟩ (by decide) hW hc' hR.i3
  subst eE
  have er : rwE D 11 k = E := rwE_of hc
  rw [k9 11 (by decide), er]
  refine ⟨p, (vs0 11 (5 * k + 3)).toInt.toNat, f1', by rw [eqb, eqc, hP9]; exact ep, kn, by omega, by rw [eqb, eqc]; omega, by rw [eqc]; exact w4, ?_⟩
  rw [eqc, hdN]
  omega
/-- how many rows -/
theorem mdQ.n7 (hq : mdQ d D) : dn d 7 = 5 * qt D 9 ∧ dn d 11 = 5 * qt D 11 := by
  obtain ⟨b, N, cA, S, ω, hD, hL, -⟩ := hq
  obtain ⟨vs0, ν0, hE, -⟩ := hL
  have hS9 : qt D 9 = S.1 9 := by rw [hD]; rfl
  have hS11 : qt D 11 = S.1 11 := by rw [hD]; rfl
  exact ⟨by rw [hS9]; exact hE.2.2.2.2.2.2.1.1, by rw [hS11]; exact hE.2.2.2.2.2.2.2.2.1.1⟩
end HO

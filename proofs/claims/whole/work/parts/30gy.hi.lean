-- equality: instantiate, what an import is given
section HJ0
variable {own : Nat → Nat} {h : xb_H} {md k κ : Nat} {d : mD} {D : zM}
theorem mdQ.im (hq : mdQ d D) (hk : k < qt D 2) : (dvs d 1 (7 * k + 1)).toInt = (ub (qc D) (kpo D k)).toInt ∧ (dvs d 1 (7 * k + 3)).toInt + qb D = cE (qc D) (qp D 2 k) ∧ (dvs d 1 (7 * k + 4)).toInt = cV (qc D) (qp D 2 k) ∧ (dvs d 1 (7 * k + 5)).toInt + qb D = cE (qc D) (qN (qc D) (qp D 2 k)) ∧ (dvs d 1 (7 * k + 6)).toInt = cV (qc D) (qN (qc D) (qp D 2 k)) := by
  obtain ⟨b, N, cA, S, ω, h1, h2, h3⟩ := hq
  obtain ⟨vs0, νr, hE, k9, k9', -, -, hcx, hdN, hS10⟩ := h2
  subst h1
  obtain ⟨-, w1, -, w3, w4, w5, w6⟩ := hE.2.1.2 k hk
  rw [k9 1 (by decide)]
  exact ⟨w1, w3, w4, w5, w6⟩
theorem mdQ.ii (hq : mdQ d D) (hκ : κ < 4) (hk : k < qt D 2) (hd : (ub (qc D) (kpo D k)).toInt = κ) : epI (qc D) (qb D) κ (qp D 2 k) (fun j => (dvs d (2 + κ) (imL κ * kcn (qc D) (qp D 2) κ k + j)).toInt) := by
  obtain ⟨b, N, cA, S, ω, h1, h2, h3⟩ := hq
  obtain ⟨vs0, νr, hE, k9, k9', -, -, hcx, hdN, hS10⟩ := h2
  have := zk_im hE h1 hκ hk hd
  subst h1
  rw [k9 (2 + κ) (by omega)]
  exact this
theorem mdQ.mc (hq : mdQ d D) {κ : Nat} : ∀ k, k ≤ qt D 2 → mcnt (dvs d 1) κ k = kcn (qc D) (qp D 2) κ k
  | 0, _ => rfl
  | k + 1, hk => by
    have e := (hq.im (k := k) (by omega)).1
    unfold mcnt kcn
    rw [hq.mc k (by omega), e]
    rfl
theorem mdQ.nb (hq : mdQ d D) (hm : mo own h md d) (hk : k < qt D 2) : (∀ t, t < cV (qc D) (qp D 2 k) → dcb d ((dvs d 1 (7 * k + 3)).toInt.toNat + t) = qc D (cE (qc D) (qp D 2 k) + t)) ∧ (∀ t, t < cV (qc D) (qN (qc D) (qp D 2 k)) → dcb d ((dvs d 1 (7 * k + 5)).toInt.toNat + t) = qc D (cE (qc D) (qN (qc D) (qp D 2 k)) + t)) ∧ (qb D ≤ cE (qc D) (qp D 2 k) ∧ cE (qc D) (qp D 2 k) + cV (qc D) (qp D 2 k) ≤ qe D) ∧ qb D ≤ cE (qc D) (qN (qc D) (qp D 2 k)) ∧ cE (qc D) (qN (qc D) (qp D 2 k)) + cV (qc D) (qN (qc D) (qp D 2 k)) ≤ qe D := by
  obtain ⟨x1, x3, x4, x5, x6⟩ := hq.im hk
  have n1 := hq.n2.1
  have c1 := hm.2.1.2.1.1
  obtain ⟨pj, hj7⟩ := c1.at (by omega) (i := k) (by omega)
  dsimp only [mp1] at pj
  obtain ⟨cx, qe1, -⟩ := hq.cx
  refine ⟨fun t ht => ?_, fun t ht => ?_, ⟨by omega, by omega⟩, by omega, by omega⟩
  · rw [cx.1 _ (by omega)]
    congr 1
    omega
  · rw [cx.1 _ (by omega)]
    congr 1
    omega
end HJ0
section HJ
variable {own ad A : Nat → Nat} {H : xb_H} {F : Nat → Nat → Int32} {ν : Nat → Int32} {u : Nat → Int32} {nn p l o k m len : Nat} {r r' x : Int32} {d : mD} {D : zM} {h : xb_H} {md : Nat} {DM : Nat → zM}
theorem gNm.eq (hN : gNm ad H (fun k => F (A k)) ν) (hu : ∀ t, t < l → F (A 3) (o + t) = u (p + t)) (hk : k < vN ν 42) : nmS ad H u p l k ↔ inS A F o l k := by
  obtain ⟨g1, g2, g3⟩ := hN.2 k hk
  have g1' : (F (A 40) k).toInt = (xb_l H (ad 30) (3 * k + 1)).toInt := g1
  have g3' : ∀ j : Nat, (j : Int) < (xb_l H (ad 30) (3 * k + 1)).toInt → F (A 3) ((F (A 39) k).toInt.toNat + j) = xb_i H (ad 31) ((xb_l H (ad 30) (3 * k)).toInt.toNat + j) := g3
  constructor
  · rintro ⟨e1, e2⟩
    refine ⟨by omega, fun t ht => ?_⟩
    rw [g3' t (by omega), e2 t ht, hu t ht]
  · rintro ⟨e1, e2⟩
    refine ⟨by omega, fun t ht => ?_⟩
    rw [← g3' t (by omega), e2 t ht, hu t ht]
theorem gNm.ix (hN : gNm ad H (fun k => F (A k)) ν) (hnn : (xb_i H (ad 29) 1).toInt = (3 * nn : Nat)) (hu : ∀ t, t < l → F (A 3) (o + t) = u (p + t)) (h1 : nmR ad H nn u p l r) (h2 : inR A F (vN ν 42) o l r') : r' = r := by
  have en : nn = vN ν 42 := by
    have h9 := hN.1
    omega
  subst en
  rcases h1 with ⟨a1, a2⟩ | ⟨i, a1, a2, a3, a4⟩
  · rcases h2 with ⟨b1, b2⟩ | ⟨j, b1, b2, b3, b4⟩
    · rw [a1, b1]
    · exact absurd ((hN.eq hu b1).mpr b2) (a2 j b1)
  · rcases h2 with ⟨b1, b2⟩ | ⟨j, b1, b2, b3, b4⟩
    · exact absurd ((hN.eq hu a1).mp a2) (b2 i a1)
    · have e : i = j := by
        rcases Nat.lt_trichotomy i j with h9 | h9 | h9
        · exact absurd ((hN.eq hu b1).mpr b2) (a3 j h9 b1)
        · exact h9
        · exact absurd ((hN.eq hu a1).mp a2) (b3 i h9 a1)
      subst e
      apply Int32.toInt.inj
      rw [b4, a4]
      exact (hN.2 i a1).2.1
/-- the host's own name -/
theorem mdQ.hst (hq : mdQ d D) (hm : mo own h md d) (hk : k < qt D 2) (hp : mdP (fun k => F (A k)) len m D) (hx : x.toInt = cV (qc D) (qp D 2 k)) : hstN d k ↔ hsR A F (cE (qc D) (qp D 2 k)) x := by
  obtain ⟨b1, b2, ⟨b3, b4⟩, -⟩ := hq.nb hm hk
  obtain ⟨x1, x3, x4, x5, x6⟩ := hq.im hk
  have p3 : ∀ j, qb D ≤ j → j < qe D → F (A 3) j = qc D j := hp.2.2.2.1
  have n4 : (4 : Int32).toInt = 4 := rfl
  constructor
  · rintro ⟨e1, e2⟩
    have e4 : cV (qc D) (qp D 2 k) = 4 := by omega
    have ex : x = 4 := Int32.toInt.inj (by omega)
    refine ⟨ex, ?_, ?_, ?_, ?_⟩
    · have := e2 0 (by decide)
      rw [b1 0 (by omega)] at this
      rw [p3 _ (by omega) (by omega)]
      exact this
    · have := e2 1 (by decide)
      rw [b1 1 (by omega)] at this
      rw [p3 _ (by omega) (by omega)]
      exact this
    · have := e2 2 (by decide)
      rw [b1 2 (by omega)] at this
      rw [p3 _ (by omega) (by omega)]
      exact this
    · have := e2 3 (by decide)
      rw [b1 3 (by omega)] at this
      rw [p3 _ (by omega) (by omega)]
      exact this
  · rintro ⟨e1, e2, e3, e4, e5⟩
    have e9 : cV (qc D) (qp D 2 k) = 4 := by
      rw [e1] at hx
      omega
    rw [p3 _ (by omega) (by omega)] at e2 e3 e4 e5
    refine ⟨by omega, fun t ht => ?_⟩
    rw [b1 t (by omega)]
    rcases (show t = 0 ∨ t = 1 ∨ t = 2 ∨ t = 3 by omega) with e | e | e | e
    · rw [e]
      exact e2
    · rw [e]
      exact e3
    · rw [e]
      exact e4
    · rw [e]
      exact e5
/-- an import's type, where it is a function -/
theorem mdQ.ift (hq : mdQ d D) (hm : mo own h md d) (hk : k < qt D 2) (h0 : (ub (qc D) (kpo D k)).toInt = 0) (ht : cV (qc D) (kpo D k + 1) < qt D 1) : ftm d (mcnt (dvs d 1) 0 k) = (ptl (qc D) (tPa D (cV (qc D) (kpo D k + 1))) (tPn D (cV (qc D) (kpo D k + 1))), tRt D (cV (qc D) (kpo D k + 1))) := by
  have := (hq.ii (κ := 0) (by decide) hk h0).1 rfl
  have e1 : (dvs d 2 (2 * kcn (qc D) (qp D 2) 0 k + 1)).toInt = cV (qc D) (kpo D k + 1) := this.2
  have e2 : mcnt (dvs d 1) 0 k = kcn (qc D) (qp D 2) 0 k := hq.mc k (by omega)
  unfold ftm
  rw [e2, e1, Int.toNat_natCast]
  exact (hq.ty hm ht).1
end HJ

-- equality: what the class's module and the reference's hold alike
section GC
variable {own : Nat → Nat} {h : xb_H} {md t k i : Nat} {d : mD} {D : zM}
theorem mdQ.n (hq : mdQ d D) : dn d 0 = 5 * qt D 1 ∧ dn d 2 = 2 * (iM D 0 + qt D 3) ∧ dn d 3 = 3 * (iM D 1 + qt D 4) ∧ dn d 4 = 3 * (iM D 2 + qt D 5) ∧ dn d 5 = 4 * (iM D 3 + qt D 6) ∧ (∀ κ, κ < 4 → ni d κ = iM D κ) ∧ qt D 10 = qt D 3 := by
  obtain ⟨b, N, cA, S, ω, h1, h2, h3⟩ := hq
  obtain ⟨vs0, νr, hE, k9, k9', -, -, hcx, hdN, hS10⟩ := h2
  refine ⟨zk_n0 hE h1, zk_n2 hE h1, zk_n3 hE h1, zk_n4 hE h1, zk_n5 hE h1, fun κ hκ => ?_, ?_⟩
  · have := zk_iv hE h1 hκ
    unfold ni
    omega
  · subst h1
    exact hS10
theorem mdQ.ty (hq : mdQ d D) (hm : mo own h md d) (ht : t < qt D 1) : tyf d t = (ptl (qc D) (tPa D t) (tPn D t), tRt D t) ∧ (dvs d 0 (5 * t + 4)).toInt = tRt D t ∧ (dvs d 0 (5 * t + 2)).toInt = tPn D t := by
  have hn := hq.n.1
  obtain ⟨cx, -, -⟩ := hq.cx
  obtain ⟨b, N, cA, S, ω, h1, h2, h3⟩ := hq
  obtain ⟨vs0, νr, hE, k9, k9', -, -, hcx, hdN, hS10⟩ := h2
  obtain ⟨z1, z2, z3, z4, z5⟩ := zk_ty hE h1 ht
  obtain ⟨m1, m2, m3, m4, m5, m6⟩ := hm.ty (t := t) (by omega)
  rw [← k9 0 (by omega)] at z1 z2 z3 z4 z5
  have eb : qb D = b := by rw [h1]; rfl
  refine ⟨?_, z5, z3⟩
  unfold tyf
  rw [z5, z3, Int.toNat_natCast]
  congr 1
  apply ptl_eq
  intro j hj
  rw [cx.1 _ (by omega), eb]
  congr 1
  omega
theorem mdQ.ft (hq : mdQ d D) (hm : mo own h md d) (hk : k < nf d) : k < iM D 0 + qt D 3 ∧ (dvs d 2 (2 * k + 1)).toInt = fty D k ∧ fty D k < qt D 1 ∧ ftm d k = (ptl (qc D) (tPa D (fty D k)) (tPn D (fty D k)), tRt D (fty D k)) := by
  have hn := hq.n
  have hq' := hq
  obtain ⟨b, N, cA, S, ω, h1, h2, h3⟩ := hq
  obtain ⟨vs0, νr, hE, k9, k9', -, -, hcx, hdN, hS10⟩ := h2
  have k1 : k < iM D 0 + qt D 3 := by
    unfold nf at hk
    omega
  obtain ⟨z1, z2⟩ := zk_fn hE h1 k1
  rw [← k9 2 (by omega)] at z1 z2
  have m1 := hm.fn hk
  have k2 : fty D k < qt D 1 := by omega
  refine ⟨k1, z2, k2, ?_⟩
  unfold ftm
  rw [z2, Int.toNat_natCast]
  exact (hq'.ty hm k2).1
theorem mdQ.va (hq : mdQ d D) (hi : i < nvr d) : i < iM D 3 + qt D 6 ∧ (dvs d 5 (4 * i + 1)).toInt = vty D i ∧ (dvs d 5 (4 * i + 2)).toInt = vmu D i := by
  have hn := hq.n
  obtain ⟨b, N, cA, S, ω, h1, h2, h3⟩ := hq
  obtain ⟨vs0, νr, hE, k9, k9', -, -, hcx, hdN, hS10⟩ := h2
  have k1 : i < iM D 3 + qt D 6 := by
    unfold nvr at hi
    omega
  obtain ⟨z1, z2⟩ := zk_va hE h1 k1
  rw [← k9 5 (by omega)] at z1 z2
  exact ⟨k1, z1, z2⟩
/-- a body: where it begins, how many locals it has, its room -/
theorem mdQ.bo (hq : mdQ d D) (hi : i < qt D 3) : (dvs d 9 (5 * i)).toInt + qb D = lgE (qc D) (cV (qc D) (cE (qc D) (qp D 10 i))) (cE (qc D) (cE (qc D) (qp D 10 i))) ∧ (dvs d 9 (5 * i + 1)).toInt = (lgf (qc D) (cV (qc D) (cE (qc D) (qp D 10 i))) (cE (qc D) (cE (qc D) (qp D 10 i)))).length ∧ bdF D i = .ok (dvs d 9 (5 * i + 4)).toInt ∧ dn d 9 = 5 * qt D 3 := by
  obtain ⟨b, N, cA, S, ω, h1, h2, h3⟩ := hq
  obtain ⟨vs0, νr, hE, k9, k9', hbd, -, hcx, hdN, hS10⟩ := h2
  obtain ⟨q9, r9⟩ := hE.2.2.2.2.2.2.2.1
  subst h1
  have hi' : i < S.1 10 := by
    rw [hS10]
    exact hi
  obtain ⟨f, -, ⟨w1, w2, -⟩, -⟩ := r9 i hi'
  have e0 : dvs d 9 (5 * i) = vs0 9 (5 * i) := k9' _ (fun j hj => by omega)
  have e1 : dvs d 9 (5 * i + 1) = vs0 9 (5 * i + 1) := k9' _ (fun j hj => by omega)
  rw [e0, e1]
  exact ⟨w1, w2, hbd i (by rw [q9]; omega), by rw [q9, hS10]; rfl⟩
end GC

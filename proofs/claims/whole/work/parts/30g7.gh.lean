-- equality: control
section GH
variable {own ad : Nat → Nat} {h : xb_H} {W : wD} {σ D : Nat} {gx : Nat → fG} {t P lcn p0 E : Nat} {lo ν0 : Nat → Int32} {g : Nat} {G : ctG} {A : Nat → Nat} {F : Nat → Nat → Int32} {DM : Nat → zM} {most : Nat → Int64} {x : cX} {r : List cX} {n : Nat} {v ω : Nat → Int64} {T p0' E' : Nat} {lo' ν0' ν1' : Nat → Int32} {G' : ctG} {V' : Nat → Prop} {rm : Int} {w w' : rWd} {z : cZ} {z' : rZ} {op : Nat} {φ : Nat → Nat → Int32} {d : mD} {Dz : zM} {k t' a : Nat} {c c' : List Int} {gs gs' : List gF}
/-- what a function's number in an instance means -/
theorem fnI_ty {i : Nat} (hW : wI own ad h W σ) (hi : i < wic W) (hk : k < nf (wd W i)) : vf W (fnI h W i k) ∧ fT W (fnI h W i k) = ftm (wd W i) k := by
  obtain ⟨-, ⟨fa, b1, b2, b3, b4, b5⟩, -, ⟨c1, c2, c3⟩, -⟩ := (hW.2.2.2.2.2.2.1.2.2.2 i hi).2
  have hno := hW.1.2.1
  unfold fnI
  split
  · next h1 =>
    obtain ⟨f, f1, f2, f3⟩ := b5 k h1
    rw [b1, Option.getD_some, f1, Int.toNat_natCast]
    exact ⟨f2, f3⟩
  · next h1 =>
    have o1 := c3 (k - ni (wd W i) 0) (by omega)
    refine ⟨.inl (by omega), ?_⟩
    unfold fT
    rw [if_neg (by omega), o1]
    congr 1
    omega
theorem vnI_ty {i : Nat} (hW : wI own ad h W σ) (hi : i < wic W) (hk : k < nvr (wd W i)) : vnI h W i k < wnv W ∧ wvt W (vnI h W i k) = (dvs (wd W i) 5 (4 * k + 1)).toInt := by
  obtain ⟨-, -, ⟨fa, b1, b2, b3, b4, b5⟩, -, ⟨c1, c2, c3⟩, -⟩ := (hW.2.2.2.2.2.2.1.2.2.2 i hi).2
  unfold vnI
  split
  · next h1 =>
    obtain ⟨f, f1, f2, f3⟩ := b5 k h1
    rw [b1, Option.getD_some, f1, Int.toNat_natCast]
    exact ⟨f2, f3⟩
  · next h1 =>
    have o1 := c3 (k - ni (wd W i) 3) (by omega)
    refine ⟨by omega, ?_⟩
    rw [o1]
    congr 3
    omega
theorem nt2_x {x y : Int32} {i j : Nat} (h1 : x.toInt = i) (h2 : y.toInt = j) (h3 : x.toBitVec.toNat = y.toBitVec.toNat) : j = i := by
  have a1 := z_nat x
  have a2 := z_nat y
  have := x.toInt_lt
  have := y.toInt_lt
  omega
/-- the count that is written is the same -/
theorem plQ.cnt {i i' : Nat} (h : plQ d Dz k t P lcn p0 E lo ν0 g G t' T p0' E' lo' ν0' ν1' G' V' rm a c gs c' gs') (hs : wk_sh ((dcb d a).toInt % 256) = 4 ∨ wk_sh ((dcb d a).toInt % 256) = 5 ∨ wk_sh ((dcb d a).toInt % 256) = 6) (h1 : (ν0 (a + 1)).toInt = i) (h2 : (ν0' (qb Dz + a + 1)).toInt = i') : i' = i := by
  obtain ⟨q, -, n1, n2, -⟩ := h.n4 (by omega)
  have eb := h.sh
  obtain ⟨q1, y, y1, y2, -⟩ := n2.2.2 (by rw [eb]; exact hs)
  have e1 := n1.2.1 (by omega)
  rw [← (cVE y1).2] at y2
  exact nt2_x h1 h2 (by rw [e1, y2])
theorem plQ.nx2 {y y' : Nat} (h : plQ d Dz k t P lcn p0 E lo ν0 g G t' T p0' E' lo' ν0' ν1' G' V' rm a c gs c' gs') (hs : 4 ≤ wk_sh ((dcb d a).toInt % 256)) (h1 : ct_B (dnu d) p0 E a y) (h2 : ct_B ν1' p0' E' (qb Dz + a) y') : y' = qb Dz + y ∧ lw (qc Dz) (qb Dz + p0) (qb Dz + y) := by
  obtain ⟨q, -, n1, n2, n3, n4, n5, -⟩ := h.n4 hs
  have e1 : (dnu d a).toInt = y := h1.2.2
  have e2 : (ν1' (qb Dz + a)).toInt = y' := h2.2.2
  have e3 : q = qb Dz + y := by omega
  subst e3
  exact ⟨by omega, n3⟩
theorem plQ.lb {L j i i' : Nat} (h : plQ d Dz k t P lcn p0 E lo ν0 g G t' T p0' E' lo' ν0' ν1' G' V' rm a c gs c' gs') (hs : wk_sh ((dcb d a).toInt % 256) = 5) (hL : (ν0 (a + 1)).toInt = L) (hj : j ≤ L) (h1 : (ν0 (a + 2 + j)).toInt = i) (h2 : (ν0' (qb Dz + a + 2 + j)).toInt = i') : i' = i := by
  obtain ⟨q, -, n1, n2, -⟩ := h.n4 (by omega)
  have eb := h.sh
  obtain ⟨q1, y, y1, y2, y3⟩ := n2.2.2 (by rw [eb]; exact .inr (.inl hs))
  have e1 := n1.2.1 (by omega)
  have e0 := z_nat (ν0 (a + 1))
  have := (ν0 (a + 1)).toInt_lt
  have ecv : cV (qc Dz) (qb Dz + a + 1) = L := by omega
  have e2 := n1.2.2.1 hs j (by omega)
  have ey : y.toInt.toNat = cV (qc Dz) (qb Dz + a + 1) := by
    unfold cV
    rw [y1]
  obtain ⟨pk, q2, y4, k1, k2, k3⟩ := y3 (by rw [eb]; exact hs) j (by omega)
  unfold lbl at e2
  rw [(cVE y1).1, itE_c k1] at e2
  rw [← (cVE k2).2] at k3
  exact nt2_x h1 h2 (by rw [e2, k3])
end GH

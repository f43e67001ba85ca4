-- equality: free moves, branches
/-- a place of a run in both, with the witnesses of both -/
def cmP (own ad : Nat → Nat) (h : xb_H) (W : wD) (σ D : Nat) (gx : Nat → fG) (t P lcn p0 E : Nat) (lo ν0 : Nat → Int32) (g : Nat) (G : ctG) (A : Nat → Nat) (F : Nat → Nat → Int32) (DM : Nat → zM) (most : Nat → Int64) (x : cX) (r : List cX) (n : Nat) (ω : Nat → Int64) (T p0' E' : Nat) (lo' ν0' ν1' : Nat → Int32) (G' : ctG) (V' : Nat → Prop) (rm : Int) : Prop :=
  (∀ i, i < wic W → moB (wd W i)) ∧ wI own ad h W σ ∧ rX ad h W D gx t P lcn p0 E lo ν0 g G ∧ G 0 (gA (gx (D - 1))) (gC (gx (D - 1))) (gS (gx (D - 1))) ∧ stQ h ad W A F DM most ∧ oQ W (fun k => F (A k)) DM (.inl (D, gx, xb_l h (ad 37))) (.inl (x :: r, n, ω)) ∧ bWt (fMo (fun k => F (A k)) DM x.1) (fTy (fun k => F (A k)) DM x.1) T p0' E' lo' ν0' ν1' G' V' rm ∧ G' 0 x.2.2.2.1 x.2.2.2.2.1 x.2.2.2.2.2 ∧ ∀ y ∈ x.2.2.2.2.2, V' y.1
theorem gsQ.cn {cA : Nat → Int32} {b p0 o : Nat} {c c' : List Int} {gs gs' : List gF} (hg : gsQ cA b p0 gs gs') (hc : c'.length = c.length) (hl : lw cA (b + p0) (b + o)) (hs : wk_sh ((cA (b + o)).toInt % 256) = 1) : gsQ cA b p0 ((o, c) :: gs) ((b + o, c') :: gs') := by
  refine ⟨by rw [List.length_cons, List.length_cons, hg.1], fun i o1 c1 hi => ?_⟩
  cases i with
  | zero =>
    have e : (o, c) = (o1, c1) := by simpa using hi
    cases e
    exact ⟨c', rfl, hc, hl, hs⟩
  | succ i =>
    obtain ⟨c2, k1, k2⟩ := hg.2 i o1 c1 (by simpa using hi)
    exact ⟨c2, by simpa using k1, k2⟩
theorem gsQ.dr {cA : Nat → Int32} {b p0 : Nat} {gs gs' : List gF} (k : Nat) (hg : gsQ cA b p0 gs gs') : gsQ cA b p0 (gs.drop k) (gs'.drop k) := by
  refine ⟨by rw [List.length_drop, List.length_drop, hg.1], fun i o1 c1 hi => ?_⟩
  rw [List.getElem?_drop] at hi
  obtain ⟨c2, k1, k2⟩ := hg.2 _ o1 c1 hi
  exact ⟨c2, by rw [List.getElem?_drop]; exact k1, k2⟩
theorem gsQ.tl {cA : Nat → Int32} {b p0 : Nat} {e e' : gF} {gs gs' : List gF} (hg : gsQ cA b p0 (e :: gs) (e' :: gs')) : gsQ cA b p0 gs gs' := hg.dr 1
section GG
variable {own ad : Nat → Nat} {h : xb_H} {W : wD} {σ D : Nat} {gx : Nat → fG} {t P lcn p0 E : Nat} {lo ν0 : Nat → Int32} {g : Nat} {G : ctG} {A : Nat → Nat} {F : Nat → Nat → Int32} {DM : Nat → zM} {most : Nat → Int64} {x : cX} {r : List cX} {n : Nat} {v ω : Nat → Int64} {T p0' E' : Nat} {lo' ν0' ν1' : Nat → Int32} {G' : ctG} {V' : Nat → Prop} {rm : Int} {w w' : rWd} {z : cZ} {z' : rZ} {op : Nat} {φ : Nat → Nat → Int32}
theorem cmP.pl (hc : cmP own ad h W σ D gx t P lcn p0 E lo ν0 g G A F DM most x r n ω T p0' E' lo' ν0' ν1' G' V' rm) : plQ (wd W (gI (gx (D - 1)))) (fMo (fun k => F (A k)) DM x.1) (gK (gx (D - 1))) t P lcn p0 E lo ν0 g G (fTy (fun k => F (A k)) DM x.1) T p0' E' lo' ν0' ν1' G' V' rm (gA (gx (D - 1))) (gC (gx (D - 1))) (gS (gx (D - 1))) x.2.2.2.2.1 x.2.2.2.2.2 ∧ bE0 (wd W (gI (gx (D - 1)))) (gK (gx (D - 1))) = p0 ∧ 0 < D ∧ x.2.1 = gB (gx (D - 1)) ∧ x.2.1 + x.2.2.1 = gO (gx (D - 1)) ∧ x.2.2.2.1 = qb (fMo (fun k => F (A k)) DM x.1) + gA (gx (D - 1)) ∧ x.2.2.2.2.1.length = (gC (gx (D - 1))).length := by
  obtain ⟨c1, c2, c3, c4, c5, c6, c7, c8, c9⟩ := hc
  obtain ⟨h0, ⟨D', e, f, fr⟩, hv⟩ := c6
  subst e
  rw [Nat.add_sub_cancel] at *
  obtain ⟨m1, m2, m3, m4, m5, m6, m7, m8, m9, m10⟩ := f.md c2 c5
  obtain ⟨f1, f2, f3, f4, f5, f6, f7⟩ := f
  have hF := c3.2.2.2.1
  rw [Nat.add_sub_cancel] at hF
  have hfB := hF.2.2.1
  have e0 : bE0 (wd W (gI (gx D'))) (gK (gx D')) = p0 := by
    have := hfB.2.1.1
    unfold bE0
    omega
  rw [e0] at f6 f7
  exact ⟨⟨m2, hfB, c4, c7, by rw [← f4]; exact c8, c9, f6, f7⟩, e0, h0, f2, f3, f4, f5⟩
theorem cmP.rt (hc : cmP own ad h W σ D gx t P lcn p0 E lo ν0 g G A F DM most x r n ω T p0' E' lo' ν0' ν1' G' V' rm) : tRt (fMo (fun k => F (A k)) DM x.1) (fTy (fun k => F (A k)) DM x.1) = rT W (gx (D - 1)) ∧ rT W (gx (D - 1)) = (dvs (wd W (gI (gx (D - 1)))) 0 (5 * t + 4)).toInt := by
  obtain ⟨c1, c2, c3, c4, c5, c6, c7, c8, c9⟩ := hc
  obtain ⟨h0, ⟨D', e, f, fr⟩, hv⟩ := c6
  have h9 := c3.rT_
  subst e
  rw [Nat.add_sub_cancel] at *
  exact ⟨(f.md c2 c5).2.2.2.2.2.2.2.2.2.symm, h9⟩
/-- types and values of the latest call; what its instruction needs -/
theorem cmP.ty (hc : cmP own ad h W σ D gx t P lcn p0 E lo ν0 g G A F DM most x r n ω T p0' E' lo' ν0' ν1' G' V' rm) : vst (xb_l h (ad 37)) (gO (gx (D - 1))) (gC (gx (D - 1))) ∧ gB (gx (D - 1)) ≤ gO (gx (D - 1)) ∧ gB (gx 0) = 0 ∧ (∀ j, j + 1 < D → gB (gx (j + 1)) = gO (gx j) + (gC (gx j)).length) ∧ ct_LC (dn (wd W (gI (gx (D - 1))))) (dvs (wd W (gI (gx (D - 1))))) (dcb (wd W (gI (gx (D - 1))))) lo t lcn ν0 G (ct_B (dnu (wd W (gI (gx (D - 1))))) p0 E) ((dcb (wd W (gI (gx (D - 1)))) (gA (gx (D - 1)))).toInt % 256) (gA (gx (D - 1))) (gC (gx (D - 1))) (gS (gx (D - 1))) ∧ (∀ j, j < gO (gx (D - 1)) + (gC (gx (D - 1))).length → xb_l h (ad 37) j = ω j) ∧ gO (gx (D - 1)) = gB (gx (D - 1)) + P + lcn := by
  obtain ⟨c1, c2, c3, c4, c5, c6, c7, c8, c9⟩ := hc
  obtain ⟨r1, r2, r3, r4, r5, r6⟩ := c3
  obtain ⟨k1, k2, k3, k4, k5, k6, k7, k8⟩ := r4
  exact ⟨k8, by omega, r6, fun j hj => (r5 j hj).2, (k3.2.2.2.1 _ _ _ c4).2, c6.2.2, k4⟩
/-- a branch, in both -/
theorem cq_br {d : mD} {k t' a i : Nat} {c c' : List Int} {res wn : Int} {o : Oc} {y : uZ} (hO : oQ W φ DM (.inl (D, gx, v)) (.inl (x :: r, n, ω))) (hd : wd W (gI (gx (D - 1))) = d) (hpl : plQ d (fMo φ DM x.1) k t P lcn p0 E lo ν0 g G t' T p0' E' lo' ν0' ν1' G' V' rm a c (gS (gx (D - 1))) c' x.2.2.2.2.2) (hp0 : bE0 (wd W (gI (gx (D - 1)))) (gK (gx (D - 1))) = p0) (hbr : ct_br (dcb d) res G (ct_B (dnu d) p0 E) i wn (gC (gx (D - 1))) (gS (gx (D - 1)))) (hres : rT W (gx (D - 1)) = res) (htt : tRt (fMo φ DM x.1) t' = res)
    (hb0 : gB (gx 0) = 0) (hbD : ∀ j, j + 1 < D → gB (gx (j + 1)) = gO (gx j) + (gC (gx j)).length) (hvs : vst v (gO (gx (D - 1))) (gC (gx (D - 1)))) (hbo : gB (gx (D - 1)) ≤ gO (gx (D - 1))) (hc : brC W D gx v (ct_B (dnu d) p0 E) i (gS (gx (D - 1))) o) (hr : brR (fMo φ DM x.1) t' x.2.1 x.2.2.1 (ct_B ν1' p0' E') x.2.2.2.2.1 x.2.2.2.2.2 ω i y) : ∃ yy, uC (fMo φ DM x.1) t' x.1 x.2.1 x.2.2.1 r y = .inl yy ∧ oQ W φ DM o (.inl yy) := by
  have hgq := hpl.2.2.2.2.2.2.2
  have hO' := hO
  obtain ⟨h0, ⟨D', e, ⟨f1, f2, f3, f4, f5, f6, f7⟩, fr⟩, hv⟩ := hO'
  have eD : D - 1 = D' := by omega
  rcases hc with ⟨c1, c2⟩ | ⟨oo, bb, c1, c2⟩
  · rcases hr with ⟨r1, r2⟩ | ⟨o1, bl, r1, -⟩
    · subst r2
      refine ⟨_, rfl, ?_⟩
      rw [c2]
      rcases hbr with ⟨-, -, c0, b3⟩ | ⟨o2, b2, ex, b3, -⟩
      · rw [← hres] at b3
        exact oQ.le hO hb0 hbD b3 hvs hbo (by rw [htt, hres])
      · have := (List.getElem?_eq_some_iff.mp b3).1
        omega
    · have := (List.getElem?_eq_some_iff.mp r1).1
      have := hgq.1
      omega
  · obtain ⟨cc, g1, g2, g3, g4⟩ := hgq.2 i oo bb c1
    obtain ⟨p1, p2, p3, p4, p, p5, p6, p7, p8, p9⟩ := hpl.br c1
    rcases hr with ⟨r1, -⟩ | ⟨o1, bl, r1, r2⟩
    · have := (List.getElem?_eq_some_iff.mp g1).1
      omega
    rw [g1] at r1
    have e1 : qb (fMo φ DM x.1) + oo = o1 ∧ cc = bl := by
      have := Option.some.inj r1
      exact ⟨congrArg Prod.fst this, congrArg Prod.snd this⟩
    obtain ⟨e1, e2⟩ := e1
    subst e1
    subst e2
    rcases hbr with ⟨b1, -⟩ | ⟨o2, b2, ex, b3, b4, b5, b6⟩
    · have := (List.getElem?_eq_some_iff.mp c1).1
      omega
    rw [c1] at b3
    have e3 := Option.some.inj b3
    cases e3
    rw [hd] at c2
    rcases c2 with ⟨c2, c3⟩ | ⟨c2, e, xx, c3, c4, c5⟩
    · rcases r2 with ⟨r2, r3⟩ | ⟨r2, -⟩
      · subst r3
        refine ⟨_, rfl, ?_⟩
        rw [c3]
        rcases b6 with ⟨b6, b7, -⟩ | ⟨b6, -⟩
        · refine oQ.go hO (a' := oo + 2) (by rw [hp0]; exact p4) g2 (by rw [hp0]; exact hgq.dr i) (fun j hj => hv j ?_)
          rw [b7, List.length_append]
          omega
        · exact absurd c2 b6
      · rw [p1] at r2
        exact absurd c2 r2
    · rcases r2 with ⟨r2, r3⟩ | ⟨r2, e', x', r3, r4, r5⟩
      · rw [p1] at r2
        exact absurd r2 c2
      subst r5
      refine ⟨_, rfl, ?_⟩
      have ex1 := p5 e xx c3 c4
      have ex2 := p6 e' x' r3 r4
      subst ex1
      subst ex2
      rw [c5]
      rcases b6 with ⟨b6, -⟩ | ⟨b6, b7, -⟩
      · exact absurd b6 c2
      rw [← Nat.add_assoc] at p2
      rw [p2]
      refine oQ.go hO (a' := xx + 1) (by rw [hp0]; exact p8) (by rw [List.length_append, List.length_append, g2]) (by rw [hp0]; exact hgq.dr (i + 1)) (fun j hj => ?_)
      rw [List.length_append] at hj
      by_cases h64 : (dcb d (oo + 1)).toInt = 64
      · rw [if_pos h64, if_pos h64]
        apply hv
        rw [h64, tp, if_pos rfl, List.length_nil] at hj
        rw [b7, List.length_append, List.length_append]
        omega
      · rw [if_neg h64, if_neg h64]
        rw [tp, if_neg h64, List.length_singleton] at hj
        have hl : (gC (gx (D - 1))).length = 1 + (ex ++ bb).length := by
          rw [b7, tp, if_neg h64, List.length_append, List.length_singleton]
        have hl2 : (ex ++ bb).length = ex.length + bb.length := List.length_append
        have eN : x.2.1 + x.2.2.1 = gO (gx (D - 1)) := by rw [eD]; exact f3
        have eM : x.2.2.2.2.1.length = (gC (gx (D - 1))).length := by rw [eD]; exact f5
        rw [eN, eM, g2, xh_up, xh_up, ← hv _ (by omega)]
        have hvv : vr (dcb d (oo + 1)).toInt (v (gO (gx (D - 1)) + (gC (gx (D - 1))).length - 1)) := by
          rw [b7, tp, if_neg h64, List.singleton_append] at hvs
          rw [hl, show gO (gx (D - 1)) + (1 + (ex ++ bb).length) - 1 = gO (gx (D - 1)) + (ex ++ bb).length by omega]
          exact hvs.1
        rw [arV_of hvv]
        split
        · rfl
        · exact hv j (by omega)
/-- a free move, in both -/
theorem cq_free {o : Oc} (hc : cmP own ad h W σ D gx t P lcn p0 E lo ν0 g G A F DM most x r n ω T p0' E' lo' ν0' ν1' G' V' rm) (hop : (dcb (wd W (gI (gx (D - 1)))) (gA (gx (D - 1)))).toInt % 256 = op) (hf : frC W D gx (xb_l h (ad 37)) (ct_B (dnu (wd W (gI (gx (D - 1))))) p0 E) op o)
    (hst : stR A F DM (fMo (fun k => F (A k)) DM x.1) (fTy (fun k => F (A k)) DM x.1) x.1 x.2.1 x.2.2.1 (ct_B ν1' p0' E') ν0' op x.2.2.2.1 x.2.2.2.2.1 x.2.2.2.2.2 r ω most w w' z) (htz : tzR A F x z z') : w' = w ∧ oQ W (fun k => F (A k)) DM o z' := by
  obtain ⟨hpl, hp0, h0, e1, e2, e3, e4⟩ := hc.pl
  obtain ⟨hvs, hbo, hb0, hbD, hLC, hv, -⟩ := hc.ty
  have hO := hc.2.2.2.2.2.1
  have hgq := hpl.2.2.2.2.2.2.2
  have hl := hpl.2.2.2.2.2.2.1
  rw [hop] at hLC
  have hlt : op < 16 := by
    rcases hf with ⟨k, -⟩ | ⟨k, -⟩ | ⟨k, -⟩ | ⟨k, -⟩ <;> omega
  obtain ⟨w1, y, hfl, ez⟩ := hst.1 hlt
  obtain ⟨-, z1, z2, -, z5, z11, -⟩ := hfl
  refine ⟨w1, ?_⟩
  rcases hf with ⟨k, ho⟩ | ⟨k, ho⟩ | ⟨k, yy, hB, ho⟩ | ⟨k, ho⟩
  · have ey := z1 k
    subst ey
    subst ez
    have ez' : z' = _ := htz
    subst ez'
    rw [ho]
    rw [show x.2.2.2.1 + 1 = qb (fMo (fun k => F (A k)) DM x.1) + (gA (gx (D - 1)) + 1) by omega]
    refine oQ.go hO ?_ e4 (by rw [hp0]; exact hgq) hv
    rw [hp0]
    exact hpl.n0 (by rw [hop, k]; exact .inl rfl)
  · have ey := z2 k
    subst ey
    subst ez
    have ez' : z' = _ := htz
    subst ez'
    have s1 : wk_sh ((dcb (wd W (gI (gx (D - 1)))) (gA (gx (D - 1)))).toInt % 256) = 1 := by
      rw [hop]
      rcases k with k | k <;> (rw [k]; rfl)
    rw [ho]
    rw [show x.2.2.2.1 + 2 = qb (fMo (fun k => F (A k)) DM x.1) + (gA (gx (D - 1)) + 2) by omega, e3]
    refine oQ.go hO ?_ e4 (by rw [hp0]; exact hgq.cn e4 hl (by rw [hpl.sh]; exact s1)) hv
    rw [hp0]
    exact (hpl.op s1).1.1
  · obtain ⟨y', hB', ey⟩ := z5 k
    subst ey
    subst ez
    have ez' : z' = _ := htz
    subst ez'
    have s2 : wk_sh ((dcb (wd W (gI (gx (D - 1)))) (gA (gx (D - 1)))).toInt % 256) = 2 := by
      rw [hop, k]
      rfl
    obtain ⟨p, p1, p2, p3, p4⟩ := hpl.el s2
    have q1 : (dnu (wd W (gI (gx (D - 1)))) (gA (gx (D - 1)))).toInt = yy := hB.2.2
    have q2 : (ν1' x.2.2.2.1).toInt = y' := hB'.2.2
    rw [e3] at q2
    have q3 : yy = p := by omega
    have q4 : y' = qb (fMo (fun k => F (A k)) DM x.1) + p := by omega
    subst q3
    subst q4
    rw [ho]
    exact oQ.go hO (by rw [hp0]; exact p3) e4 (by rw [hp0]; exact hgq) hv
  · have s3 : wk_sh ((dcb (wd W (gI (gx (D - 1)))) (gA (gx (D - 1)))).toInt % 256) = 3 := by
      rw [hop, k]
      rfl
    rcases ho with ⟨e, gs1, g1, ho⟩ | ⟨g1, ho⟩
    · rcases z11 k with ⟨e', gs2, g2, ey⟩ | ⟨g2, -⟩
      · subst ey
        subst ez
        have ez' : z' = _ := htz
        subst ez'
        rw [ho]
        rw [show x.2.2.2.1 + 1 = qb (fMo (fun k => F (A k)) DM x.1) + (gA (gx (D - 1)) + 1) by omega]
        rw [g1, g2] at hgq
        refine oQ.go hO ?_ e4 (by rw [hp0]; exact hgq.tl) hv
        rw [hp0]
        exact hpl.n0 (.inr (.inr s3))
      · have := hgq.1
        rw [g1, g2] at this
        simp at this
    · rcases z11 k with ⟨e', gs2, g2, -⟩ | ⟨g2, ey⟩
      · have := hgq.1
        rw [g1, g2] at this
        simp at this
      · subst ey
        subst ez
        have ez' : z' = _ := htz
        subst ez'
        rw [ho]
        obtain ⟨t1, t2⟩ := hc.rt
        have hLC11 := hLC.2.2.2.2.1 (by rw [k]; rfl)
        rcases hLC11 with ⟨-, -, l3⟩ | ⟨o1, b1, gs3, l1, -⟩
        · rw [← t2] at l3
          exact oQ.le (c0 := []) hO hb0 hbD (by rw [List.append_nil]; exact l3) hvs hbo t1
        · rw [g1] at l1
          cases l1
end GG

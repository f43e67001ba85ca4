-- equality: the world after a step; locals and variables; numbers
theorem sgN_12 : ∀ o, o < 192 → (sgN o = 1 ∨ sgN o = 2) := by decide +kernel
section GJ
variable {own own' ad ad' : Nat → Nat} {h h' : xb_H} {W : wD} {σ D : Nat} {gx : Nat → fG} {t P lcn p0 E : Nat} {lo ν0 : Nat → Int32} {g : Nat} {G : ctG} {A : Nat → Nat} {F : Nat → Nat → Int32} {DM : Nat → zM} {most : Nat → Int64} {x : cX} {r : List cX} {n : Nat} {v ω : Nat → Int64} {T p0' E' : Nat} {lo' ν0' ν1' : Nat → Int32} {G' : ctG} {V' : Nat → Prop} {rm : Int} {w w' : rWd} {z : cZ} {z' : rZ} {op np i0 : Nat} {φ : Nat → Nat → Int32} {ε : wEf} {e : Option Int64} {o : Oc}
/-- variables and bytes change, pages don't -/
theorem wQ.vb (hs : stQ h ad W A F DM most) (hw : wQ ad h W np (gmV A F DM) w) (hnp : np = wnp W) (a27 : ad' 27 = ad 27) (hF : wF ad h ad' h' W i0 ε) (hU : oU ad h ad' h' none) (hi0 : i0 < wic W) (h0 : ε.2.2 = 0) (h2 : w'.2.2 = w.2.2) (hV : ∀ j, j < wnv W → w'.1 j = eV ε (xb_l h (ad 22)) j) (hb : ∀ a, a < 65536 * np → byR w'.2.1 a = ε.2.1 a) (hz : ∀ a, 65536 * np ≤ a → a < 1048576 → byR w'.2.1 a = 0) : wQ ad' h' W (np + ε.2.2) (gmV A F DM) w' := by
  have hw' := hw
  obtain ⟨w1, ⟨w2, w3⟩, w4, w5, w6, w7⟩ := hw
  refine wQ.nx hs hw' hnp a27 hF ⟨none, hU, fun _ => by rw [h2], fun y hy => by cases hy⟩ hV (by rw [h0]; exact hb) (by rw [h0]; exact hz) (by rw [h2, h0]; exact w5) hi0 (fun h9 => by omega) (fun i hi hm => ?_)
  rw [h2, h0]
  obtain ⟨q1, q2⟩ := w4 i hi hm
  exact ⟨fun _ => ⟨q1, fun j _ => rfl, fun j j1 j2 => by omega⟩, fun _ => ⟨rfl, fun j _ => rfl⟩⟩
/-- nothing changes, or something is put out -/
theorem wQ.ou (hs : stQ h ad W A F DM most) (hw : wQ ad h W np (gmV A F DM) w) (hnp : np = wnp W) (a27 : ad' 27 = ad 27) (hF : wF ad h ad' h' W i0 (w0 ad h)) (hU : oU ad h ad' h' e) (hi0 : i0 < wic W) (hw' : (e = none ∧ w' = w) ∨ ∃ y, e = some y ∧ w' = (w.1, w.2.1, w.2.2.1, w.2.2.2.1, w.2.2.2.2.1, w.2.2.2.2.2.1 + 1, va_up w.2.2.2.2.2.2 w.2.2.2.2.2.1.toInt.toNat y)) : wQ ad' h' W (np + (w0 ad h).2.2) (gmV A F DM) w' := by
  have hw9 := hw
  obtain ⟨w1, ⟨w2, w3⟩, w4, w5, w6, w7⟩ := hw
  have k1 : w'.1 = w.1 ∧ w'.2.1 = w.2.1 ∧ w'.2.2.1 = w.2.2.1 ∧ w'.2.2.2.1 = w.2.2.2.1 ∧ w'.2.2.2.2.1 = w.2.2.2.2.1 := by
    rcases hw' with ⟨-, e2⟩ | ⟨y, -, e2⟩
    · rw [e2]
      exact ⟨rfl, rfl, rfl, rfl, rfl⟩
    · rw [e2]
      exact ⟨rfl, rfl, rfl, rfl, rfl⟩
  obtain ⟨k1, k2, k3, k4, k5⟩ := k1
  refine wQ.nx hs hw9 hnp a27 hF ⟨e, hU, fun he => ?_, fun y hy => ?_⟩ (fun j hj => by rw [k1]; exact w1 j hj) (fun a ha => by rw [k2]; exact w2 a ha) (fun a a1 a2 => by rw [k2]; exact w3 a a1 a2) (by rw [k5]; exact w5) hi0 (fun h9 => absurd h9 (Nat.lt_irrefl 0)) (fun i hi hm => ?_)
  · rcases hw' with ⟨-, e2⟩ | ⟨y, e1, e2⟩
    · rw [e2]
    · rw [he] at e1
      cases e1
  · rcases hw' with ⟨e1, -⟩ | ⟨y', e1, e2⟩
    · rw [hy] at e1
      cases e1
    · rw [hy] at e1
      have := Option.some.inj e1
      subst this
      rw [e2]
      exact ⟨rfl, rfl⟩
  · rw [k3, k4]
    obtain ⟨q1, q2⟩ := w4 i hi hm
    exact ⟨fun _ => ⟨q1, fun j _ => rfl, fun j j1 j2 => absurd j2 (Nat.not_lt.mpr j1)⟩, fun _ => ⟨rfl, fun j _ => rfl⟩⟩
theorem cmP.fq (hc : cmP own ad h W σ D gx t P lcn p0 E lo ν0 g G A F DM most x r n ω T p0' E' lo' ν0' ν1' G' V' rm) : fQ W (fun k => F (A k)) DM (gx (D - 1)) x := by
  obtain ⟨h0, ⟨D', ed, f, fr⟩, -⟩ := hc.2.2.2.2.2.1
  have eD : D - 1 = D' := by omega
  rw [eD]
  exact f
/-- locals and variables, in both -/
theorem cq_un (hc : cmP own ad h W σ D gx t P lcn p0 E lo ν0 g G A F DM most x r n ω T p0' E' lo' ν0' ν1' G' V' rm) (hop : (dcb (wd W (gI (gx (D - 1)))) (gA (gx (D - 1)))).toInt % 256 = op) (h1 : 32 ≤ op) (h2 : op ≤ 36) (hw1 : ∀ j, j < wnv W → w.1 j = xb_l h (ad 22) j)
    (hco : ∃ (i y : Nat) (c' : List Int) (v' u' : Nat → Int64), (ν0 (gA (gx (D - 1)) + 1)).toInt = i ∧ ct_B (dnu (wd W (gI (gx (D - 1))))) p0 E (gA (gx (D - 1))) y ∧ unC op (gx (D - 1)) (xb_l h (ad 37)) v' (xb_l h (ad 22)) u' i (vnI h W (gI (gx (D - 1))) i) c' ∧ o = .inl (D, va_up gx (D - 1) (gT_ (gx (D - 1)) y c' (gS (gx (D - 1)))), v') ∧ ε = (if op = 36 then some (vnI h W (gI (gx (D - 1))) i, xb_l h (ad 37) (gO (gx (D - 1)) + (gC (gx (D - 1))).length - 1)) else none, byA (xb_l h (ad 26)), 0))
    (hst : stR A F DM (fMo (fun k => F (A k)) DM x.1) (fTy (fun k => F (A k)) DM x.1) x.1 x.2.1 x.2.2.1 (ct_B ν1' p0' E') ν0' op x.2.2.2.1 x.2.2.2.2.1 x.2.2.2.2.2 r ω most w w' z) (htz : tzR A F x z z') :
    oQ W (fun k => F (A k)) DM o z' ∧ w'.2 = w.2 ∧ ε.2 = (byA (xb_l h (ad 26)), 0) ∧ ∀ j, j < wnv W → w'.1 j = eV ε (xb_l h (ad 22)) j := by
  obtain ⟨hpl, hp0, h0, e1, e2, e3, e4⟩ := hc.pl
  obtain ⟨hvs, hbo, hb0, hbD, hLC, hv, -⟩ := hc.ty
  have hO := hc.2.2.2.2.2.1
  have hW := hc.2.1
  have hs := hc.2.2.2.2.1
  have hgq := hpl.2.2.2.2.2.2.2
  obtain ⟨hfM, hmQ, hmR, h44, h45, hnik, hgk, ⟨md, hmo⟩, hfT, hrT⟩ := hc.fq.md hW hs
  have hgi : gI (gx (D - 1)) < wic W := hc.fq.1.2.2.2.1
  rw [hop] at hLC
  rw [e3] at hst
  have s4 : wk_sh ((dcb (wd W (gI (gx (D - 1)))) (gA (gx (D - 1)))).toInt % 256) = 4 := by
    rw [hop]
    rcases (show op = 32 ∨ op = 33 ∨ op = 34 ∨ op = 35 ∨ op = 36 by omega) with e | e | e | e | e <;> (rw [e]; rfl)
  obtain ⟨y, u2, ⟨i', x', ri, rb, rz⟩, rw9, ez⟩ := hst.2.2.1 h1 (by omega)
  obtain ⟨i, yy, c', v', u', ki, kb, kun, ko, kε⟩ := hco
  have ei := hpl.cnt (.inl s4) ki ri
  subst ei
  obtain ⟨q1, q2⟩ := hpl.nx2 (by omega) kb rb
  subst q1
  rw [h44, Int.toNat_natCast] at rz
  have hvar : 35 ≤ op → i' < nvr (wd W (gI (gx (D - 1)))) := by
    intro h9
    obtain ⟨i9, x9, l1, -, l3, -⟩ := hLC.2.2.2.2.2.2.2.2.2.2.2.2.2.2.1 (by omega) (by omega)
    unfold nvr
    omega
  have go : ∀ (c9 c9' : List Int) (v9 ω9 : Nat → Int64), y = .inl (c9', x.2.2.2.2.2, qb (fMo (fun k => F (A k)) DM x.1) + yy, ω9) → c' = c9 → v' = v9 → c9'.length = c9.length → (∀ j, j < gO (gx (D - 1)) + c9.length → v9 j = ω9 j) → oQ W (fun k => F (A k)) DM o z' := by
    intro c9 c9' v9 ω9 y1 y2 y3 y4 y5
    subst y1
    subst ez
    have ez' : z' = _ := htz
    subst ez'
    subst y2
    subst y3
    rw [ko]
    exact oQ.go hO (by rw [hp0]; exact q2) y4 (by rw [hp0]; exact hgq) y5
  have ew2 : w'.2 = w.2 := by rw [rw9]
  have ew1 : w'.1 = u2 := by rw [rw9]
  have eε2 : ε.2 = (byA (xb_l h (ad 26)), 0) := by rw [kε]
  rcases kun with ⟨k1, k2, k3, k4⟩ | ⟨k1, k2, k3, k4⟩ | ⟨k1, k2, k3, k4⟩ | ⟨k1, k2, k3, k4⟩ | ⟨k1, k2, k3, k4⟩
  · rcases rz with ⟨r1, r2, r3, τ, r4⟩ | ⟨r1, -⟩ | ⟨r1, -⟩ | ⟨r1, -⟩ | ⟨r1, -⟩
    rotate_left
    · omega
    · omega
    · omega
    · omega
    refine ⟨go _ _ _ _ r4 rfl k2 (by rw [List.length_cons]; omega) (fun j hj => ?_), ew2, eε2, fun j hj => ?_⟩
    · rw [e2, e4, xh_up, xh_up, e1, ← hv (gB (gx (D - 1)) + i') (by omega)]
      split
      · rfl
      · exact hv j (by omega)
    · rw [ew1, r3, kε, if_neg (by omega)]
      exact hw1 j hj
  · rcases rz with ⟨r1, -⟩ | ⟨r1, r2, r3, τ, c2, r4, r5⟩ | ⟨r1, -⟩ | ⟨r1, -⟩ | ⟨r1, -⟩
    · omega
    rotate_left
    · omega
    · omega
    · omega
    rw [r4, List.length_cons] at e4
    refine ⟨go _ _ _ _ r5 rfl k2 (by omega) (fun j hj => ?_), ew2, eε2, fun j hj => ?_⟩
    · rw [e2, e1, xh_up, xh_up, show gO (gx (D - 1)) + (gC (gx (D - 1))).length - 1 = gO (gx (D - 1)) + c2.length by omega, ← hv (gO (gx (D - 1)) + c2.length) (by omega)]
      split
      · rfl
      · exact hv j (by omega)
    · rw [ew1, r3, kε, if_neg (by omega)]
      exact hw1 j hj
  · rcases rz with ⟨r1, -⟩ | ⟨r1, -⟩ | ⟨r1, r2, r3, τ, c2, r4, r5⟩ | ⟨r1, -⟩ | ⟨r1, -⟩
    · omega
    · omega
    rotate_left
    · omega
    · omega
    have e4' := e4
    rw [r4, List.length_cons] at e4
    refine ⟨go _ _ _ _ r5 rfl k2 (by omega) (fun j hj => ?_), ew2, eε2, fun j hj => ?_⟩
    · rw [e2, e1, xh_up, xh_up, show gO (gx (D - 1)) + (gC (gx (D - 1))).length - 1 = gO (gx (D - 1)) + c2.length by omega, ← hv (gO (gx (D - 1)) + c2.length) (by omega)]
      split
      · rfl
      · exact hv j (by omega)
    · rw [ew1, r3, kε, if_neg (by omega)]
      exact hw1 j hj
  · rcases rz with ⟨r1, -⟩ | ⟨r1, -⟩ | ⟨r1, -⟩ | ⟨r1, r2, r3, r4⟩ | ⟨r1, -⟩
    · omega
    · omega
    · omega
    rotate_left
    · omega
    have hi := hvar (by omega)
    obtain ⟨n1, n2⟩ := vnI_ty hW hgi hi
    obtain ⟨n3, n4, -⟩ := hmQ.va hi
    have emn := (hs.2.2.1 _ hgi).2 i' hi
    have hvr := (hW.2.1.2.2 _ n1).2
    rw [n2, n4] at hvr
    refine ⟨go _ _ _ _ r4 rfl k2 (by rw [List.length_cons]; omega) (fun j hj => ?_), ew2, eε2, fun j hj => ?_⟩
    · rw [e2, e4, emn, hw1 _ n1, arV_of hvr, xh_up, xh_up]
      split
      · rfl
      · exact hv j (by omega)
    · rw [ew1, r3, kε, if_neg (by omega)]
      exact hw1 j hj
  · rcases rz with ⟨r1, -⟩ | ⟨r1, -⟩ | ⟨r1, -⟩ | ⟨r1, -⟩ | ⟨r1, r2, c2, r3, r4, r5⟩
    · omega
    · omega
    · omega
    · omega
    have hi := hvar (by omega)
    obtain ⟨n1, n2⟩ := vnI_ty hW hgi hi
    have emn := (hs.2.2.1 _ hgi).2 i' hi
    have e4' := e4
    rw [r3, List.length_cons] at e4
    refine ⟨go _ _ _ _ r5 rfl k2 (by omega) (fun j hj => hv j (by omega)), ew2, eε2, fun j hj => ?_⟩
    rw [ew1, r4, kε, if_pos k1, e2, emn]
    show va_up w.1 _ _ j = va_up (xb_l h (ad 22)) _ _ j
    rw [xh_up, xh_up, show gO (gx (D - 1)) + (gC (gx (D - 1))).length - 1 = gO (gx (D - 1)) + c2.length by omega, ← hv (gO (gx (D - 1)) + c2.length) (by omega)]
    split
    · rfl
    · exact hw1 j hj
/-- numbers, in both -/
theorem cq_nm (hc : cmP own ad h W σ D gx t P lcn p0 E lo ν0 g G A F DM most x r n ω T p0' E' lo' ν0' ν1' G' V' rm) (hop : (dcb (wd W (gI (gx (D - 1)))) (gA (gx (D - 1)))).toInt % 256 = op) (h69 : 69 ≤ op)
    (hco : ∃ (c : List Int) (κ : Nat), gC (gx (D - 1)) = List.replicate (sgN op) (sgA op) ++ c ∧ κ = nmt op (nVa (xb_l h (ad 37)) (gO (gx (D - 1)) + c.length)) (nVb op (xb_l h (ad 37)) (gO (gx (D - 1)) + c.length)) ∧ ((κ ≠ 0 ∧ o = trD κ D gx (gA (gx (D - 1)))) ∨ (κ = 0 ∧ o = .inl (D, va_up gx (D - 1) (gT_ (gx (D - 1)) (gA (gx (D - 1)) + 1) (sgR op :: c) (gS (gx (D - 1)))), va_up (xb_l h (ad 37)) (gO (gx (D - 1)) + c.length) (nmI op (nVa (xb_l h (ad 37)) (gO (gx (D - 1)) + c.length)) (nVb op (xb_l h (ad 37)) (gO (gx (D - 1)) + c.length)))))))
    (hst : stR A F DM (fMo (fun k => F (A k)) DM x.1) (fTy (fun k => F (A k)) DM x.1) x.1 x.2.1 x.2.2.1 (ct_B ν1' p0' E') ν0' op x.2.2.2.1 x.2.2.2.2.1 x.2.2.2.2.2 r ω most w w' z) (htz : tzR A F x z z') : oQ W (fun k => F (A k)) DM o z' ∧ w' = w := by
  obtain ⟨hpl, hp0, h0, e1, e2, e3, e4⟩ := hc.pl
  obtain ⟨hvs, hbo, hb0, hbD, hLC, hv, -⟩ := hc.ty
  have hO := hc.2.2.2.2.2.1
  have hgq := hpl.2.2.2.2.2.2.2
  rw [hop] at hLC
  rw [e3] at hst
  obtain ⟨o192, -⟩ := hLC.nm h69
  obtain ⟨w1, y, ⟨c2, r1, r2⟩, ez⟩ := hst.2.2.2.2.2 h69
  obtain ⟨c, κ, k1, k2, k3⟩ := hco
  have hl2 : c2.length = c.length := by
    rw [r1, k1, List.length_append, List.length_append, List.length_replicate] at e4
    omega
  have hlen : (gC (gx (D - 1))).length = sgN op + c.length := by
    rw [k1, List.length_append, List.length_replicate]
  have hn12 : sgN op = 1 ∨ sgN op = 2 := sgN_12 op o192
  have ea : nVa ω (x.2.1 + x.2.2.1 + c2.length) = nVa (xb_l h (ad 37)) (gO (gx (D - 1)) + c.length) := by
    unfold nVa
    rw [e2, hl2, ← hv _ (by omega)]
  have eb : nVb op ω (x.2.1 + x.2.2.1 + c2.length) = nVb op (xb_l h (ad 37)) (gO (gx (D - 1)) + c.length) := by
    unfold nVb
    split
    · rw [e2, hl2, ← hv _ (by omega)]
    · rfl
  have hv12 : vr (sgA op) (xb_l h (ad 37) (gO (gx (D - 1)) + c.length)) ∧ (sgN op = 2 → vr (sgA op) (xb_l h (ad 37) (gO (gx (D - 1)) + c.length + 1))) := by
    rw [k1] at hvs
    rcases hn12 with e | e
    · rw [e] at hvs
      exact ⟨hvs.1, fun h9 => by omega⟩
    · rw [e] at hvs
      exact ⟨hvs.2.1, fun _ => hvs.1⟩
  obtain ⟨m1, m2⟩ := nmw_c op o192 h69
  have rng : ∀ q : Int64, vr (sgA op) q → q.toBitVec.toNat < 2 ^ nmw op := by
    intro q hq
    rcases m2 with e | e
    · rw [e]
      have hA : sgA op = 127 ∨ sgA op = 125 := by
        have := sgA_r op o192 h69
        have := m1.mpr e
        omega
      exact vr_w hq hA
    · rw [e]
      exact q.toBitVec.isLt
  have ra : nVa (xb_l h (ad 37)) (gO (gx (D - 1)) + c.length) < 2 ^ nmw op := rng _ hv12.1
  have rb : nVb op (xb_l h (ad 37)) (gO (gx (D - 1)) + c.length) < 2 ^ nmw op := by
    unfold nVb
    split
    · next h9 => exact rng _ (hv12.2 h9)
    · exact Nat.pow_pos (by decide)
  have r3 := r2 (by rw [ea]; exact ra) (by rw [eb]; exact rb)
  rw [ea, eb, ← k2] at r3
  refine ⟨?_, w1⟩
  rcases k3 with ⟨k3, k4⟩ | ⟨k3, k4⟩
  · rcases r3 with ⟨-, κ', r4, r5⟩ | ⟨r3, -⟩
    · subst r5
      subst ez
      rw [k4]
      exact trQ hc.2.1 hc.2.2.2.2.1 hO (by rw [r4]; omega) r4 htz
    · exact absurd r3 k3
  · rcases r3 with ⟨r3, -⟩ | ⟨-, r4⟩
    · exact absurd k3 r3
    · subst r4
      subst ez
      have ez' : z' = _ := htz
      subst ez'
      rw [k4, Nat.add_assoc (qb (fMo (fun k => F (A k)) DM x.1)) (gA (gx (D - 1))) 1]
      refine oQ.go hO ?_ (by rw [List.length_cons, List.length_cons, hl2]) (by rw [hp0]; exact hgq) (fun j hj => ?_)
      · rw [hp0]
        refine hpl.n0 (.inl ?_)
        rw [hop]
        unfold wk_sh
        rw [if_pos (by omega), if_pos (by omega)]
      · rw [List.length_cons] at hj
        rw [e2, hl2, xh_up, xh_up]
        split
        · rfl
        · exact hv j (by omega)
end GJ

-- equality: a trap, a call
section GF
variable {own own' ad ad' : Nat → Nat} {h h' : xb_H} {W : wD} {σ D : Nat} {gx gx' : Nat → fG} {v v1 ω ω1 : Nat → Int64} {A : Nat → Nat} {F F' : Nat → Nat → Int32} {DM : Nat → zM} {most : Nat → Int64} {gm : Nat → Nat} {w w' : rWd} {np i0 n n' : Nat} {ε : wEf} {x : cX} {r cs : List cX}
/-- an open call's module, type, place -/
theorem fQ.md (hW : wI own ad h W σ) (hs : stQ h ad W A F DM most) {g : fG} {y : cX} (hf : fQ W (fun k => F (A k)) DM g y) : fMo (fun k => F (A k)) DM y.1 = DM (F (A 31) (gI g)).toInt.toNat ∧ mdQ (wd W (gI g)) (fMo (fun k => F (A k)) DM y.1) ∧ mdR (fMo (fun k => F (A k)) DM y.1) ∧ (F (A 44) y.1).toInt = gI g ∧ (F (A 45) y.1).toInt = (gK g - ni (wd W (gI g)) 0 : Nat) ∧ ni (wd W (gI g)) 0 ≤ gK g ∧ gK g < nf (wd W (gI g)) ∧ (∃ md, mo own h md (wd W (gI g))) ∧ fTy (fun k => F (A k)) DM y.1 = fty (fMo (fun k => F (A k)) DM y.1) (gK g) ∧ rT W g = tRt (fMo (fun k => F (A k)) DM y.1) (fTy (fun k => F (A k)) DM y.1) := by
  obtain ⟨⟨f1, f2, f3, f4, f5, f6⟩, -⟩ := hf
  obtain ⟨s1, s2⟩ := hs.2.1 _ f1
  rw [f3] at s1 s2
  obtain ⟨o1, o2, o3, o4⟩ := hW.1.2.2 _ f1
  rw [f3] at o3 o4
  have em : fMo (fun k => F (A k)) DM y.1 = DM (F (A 31) (gI g)).toInt.toNat := by
    unfold fMo aV
    rw [s1]
    rfl
  obtain ⟨q1, q2, -⟩ := hs.1 _ f4
  have hi := (hW.2.2.2.2.2.2.1.2.2.2 _ f4).2
  have hk : gK g < nf (wd W (gI g)) := by omega
  have nn := q1.n.2.2.2.2.2.1 0 (by omega)
  have et : fTy (fun k => F (A k)) DM y.1 = fty (DM (F (A 31) (gI g)).toInt.toNat) (gK g) := by
    unfold fTy aV
    rw [em, s2, Int.toNat_natCast, f6, nn, Nat.add_comm]
  refine ⟨em, by rw [em]; exact q1, by rw [em]; exact q2, s1, by rw [s2]; omega, by omega, hk, ⟨_, hi.1.2.2.2.2⟩, by rw [et, em], ?_⟩
  rw [et, em]
  unfold rT
  rw [(q1.ft hi.1.2.2.2.2 hk).2.2.2]
/-- a trap -/
theorem trQ (hW : wI own ad h W σ) (hs : stQ h ad W A F DM most) {v' : Nat → Int64} (hO : oQ W (fun k => F (A k)) DM (.inl (D, gx, v')) (.inl (x :: r, n, ω))) {κ : Int32} {κ' : Int} {z' : rZ} (hκ0 : 0 < κ.toInt) (hκ : κ.toInt = κ') (ht : tzR A F x (.inr κ) z') : oQ W (fun k => F (A k)) DM (trD κ' D gx (gA (gx (D - 1)))) z' := by
  obtain ⟨h0, ⟨D', e, f, fr⟩, -⟩ := hO
  subst e
  rw [Nat.add_sub_cancel]
  obtain ⟨m1, m2, m3, m4, m5, m6, m7, -⟩ := f.md hW hs
  obtain ⟨⟨f1, f2, f3, f4, f5, f6⟩, -, -, g4, -⟩ := f
  obtain ⟨p, p1, p2⟩ := ht
  rw [p2]
  have em : mzF A F x.1 = (F (A 31) (gI (gx D'))).toInt.toNat := by
    unfold mzF
    rw [m4]
    rfl
  obtain ⟨q1, q2, q3, q4, -⟩ := hs.1 _ f4
  have q5 := q2.2.2.1
  have nn := q1.n
  have n0 := nn.2.2.2.2.2.1 0 (by omega)
  have hN := q1.cx.2.1
  obtain ⟨o1, o2, o3, o4⟩ := hW.1.2.2 _ f1
  have hno := hW.1.2.1
  rw [f3] at o3 o4
  have iM12 : iM (DM (F (A 31) (gI (gx D'))).toInt.toNat) 0 ≤ 65536 := by
    have := (hW.2.2.2.2.2.2.1.2.2.2 _ f4).2.1.2.2.2.2.nn
    omega
  unfold trD trZ
  rw [if_neg (by omega), Nat.add_sub_cancel]
  refine ⟨hκ0, hκ, m4, ?_, ?_⟩
  · show (F (A 10) (4 * mzF A F x.1) + F (A 45) x.1).toInt = (gK (gx D') : Int)
    rw [z_add, em, q4, m5, ← n0]
    omega
  · show (p - F (A 6) (mzF A F x.1)).toInt = (gA (gx D') : Int)
    rw [z_sub, em, q3, p1, g4, m1]
    have : qb (DM (F (A 31) (gI (gx D'))).toInt.toNat) + gA (gx D') < 2147483648 := by
      have := p.toInt_lt
      rw [p1, g4, m1] at this
      omega
    omega
/-- a function is called -/
theorem clQ (hX : ∀ i, i < wic W → moB (wd W i)) (hW : wI own ad h W σ) (hs : stQ h ad W A F DM most) (hfr : frQ W (fun k => F (A k)) DM gx cs D) {f T n0 : Nat} {A0 : Int} {o : Oc} {e : Option Int64} {z : cZ} (hT : 0 < D → T = gO (gx (D - 1)) + (gC (gx (D - 1))).length) (hv : ∀ j, j < T + (fT W f).1.length → v j = ω j) (hn0 : w.2.2.2.2.2.1.toInt = n0) (hcl : clR W D gx v f T n0 A0 o e) (hca : caR A F DM cs T (fmp f) ω w w' z) :
    (e = none ∧ w' = w ∧ ((∃ y, z = .inl y ∧ oQ W (fun k => F (A k)) DM o (.inl y)) ∨ ∃ κ : Int32, κ ≠ 0 ∧ 0 < κ.toInt ∧ z = .inr κ ∧ o = trD κ.toInt D gx A0)) ∨ (e = some (v T) ∧ 8192 ≤ f ∧ w' = (w.1, w.2.1, w.2.2.1, w.2.2.2.1, w.2.2.2.2.1, w.2.2.2.2.2.1 + 1, va_up w.2.2.2.2.2.2 w.2.2.2.2.2.1.toInt.toNat (ω T)) ∧ z = .inl (cs, 0, ω) ∧ oQ W (fun k => F (A k)) DM o (.inl (cs, 0, ω))) := by
  have hlen := hfr.len
  rcases hcl with ⟨c1, c2, c3, c4, c5, c6, c7⟩ | ⟨c1, c2, c3⟩
  · have e1 : fmp f = f := by unfold fmp; rw [if_neg (by omega)]
    rw [e1] at hca
    rcases hca with ⟨-, iz, mz, bz, d1, d2, d3, p1, nB, p2, gg, p3, T', r1, r2, r3, f8, rmm, k1, k2, k3, k4⟩ | ⟨d1, -⟩
    · left
      refine ⟨c6, k3, ?_⟩
      obtain ⟨s1, s2⟩ := hs.2.1 f c1
      have ez : iz = wfo W f := by omega
      subst ez
      obtain ⟨q1, q2, q3, q4, q5⟩ := hs.1 _ c3
      have emz : (F (A 31) (wfo W f)).toInt.toNat = mz := by omega
      rw [emz] at q1 q2 q3 q4 q5
      have ebz : bz = f - wff W (wfo W f) := by omega
      subst ebz
      have nn := q1.n
      have n0' := nn.2.2.2.2.2.1 0 (by omega)
      have hi := (hW.2.2.2.2.2.2.1.2.2.2 _ c3).2
      obtain ⟨t1, t2, t3, t4⟩ := q1.ft hi.1.2.2.2.2 c5
      have hb : f - wff W (wfo W f) < qt (DM mz) 3 := by omega
      obtain ⟨b1, b2, b3, -⟩ := q1.bo hb
      obtain ⟨t9, P9, lcn9, p09, E9, lo9, ν9, g9, G9, ⟨-, ⟨y1, y2, -, -, -, y3, -⟩, -⟩, -⟩ := hX _ c3 (f - wff W (wfo W f) + ni (wd W (wfo W f)) 0) (by omega) c5
      rw [Nat.add_sub_cancel] at y1 y2 y3
      rw [q5 _ hb] at b3
      have b4 : (F (A 12) ((F (A 8) (12 * mz + 10)).toInt.toNat + (f - wff W (wfo W f)))).toInt = (dvs (wd W (wfo W f)) 9 (5 * (f - wff W (wfo W f)) + 4)).toInt := by
        injection b3
      rw [k1, Int.toNat_natCast, k2] at b4
      have x1 := cVE r1
      have x2 := cVE r2
      have x3 := lgE_q r3
      have x4 := (lgs_l r3).1
      have gg9 : gg.toInt.toNat = cV (qc (DM mz)) p1 := by
        unfold cV
        rw [r2]
      rw [x1.1, ← gg9, x2.1, x3] at b1
      rw [x1.1, ← gg9, x2.1, x4] at b2
      have eP : tPn (DM mz) (fty (DM mz) (iM (DM mz) 0 + (f - wff W (wfo W f)))) = (fT W f).1.length := by
        unfold fT
        rw [if_neg (by omega), t4, ptl_len, ← n0', Nat.add_comm]
      rw [eP] at k4
      have eL : (dvs (wd W (wfo W f)) 9 (5 * (f - wff W (wfo W f)) + 1)).toInt.toNat = T' := by omega
      rw [eL] at c7
      have hg0 : 0 ≤ rmm ∧ (dvs (wd W (wfo W f)) 9 (5 * (f - wff W (wfo W f)) + 4)).toInt.toNat = rmm.toNat := ⟨by omega, by rw [b4]⟩
      rw [hg0.2] at c7
      unfold cfO at c7
      rcases k4 with ⟨k4, k5⟩ | ⟨k4, k5, k6⟩
      · right
        refine ⟨9, by decide, by decide, k5, ?_⟩
        rw [c7, if_pos (by omega)]
        rfl
      · left
        refine ⟨_, k6, ?_⟩
        rw [c7, if_neg (by omega)]
        refine ⟨by omega, ⟨D, rfl, ?_, hfr.cg (fun j hj => by rw [xh_up, if_neg (by omega)])⟩, ?_⟩
        · rw [xh_up, if_pos rfl]
          have em : fMo (fun k => F (A k)) DM f = DM mz := by
            unfold fMo aV
            rw [s1]
            show DM (F (A 31) (wfo W f)).toInt.toNat = _
            rw [emz]
          have eb : bE0 (wd W (wfo W f)) (f - wff W (wfo W f) + ni (wd W (wfo W f)) 0) = (dvs (wd W (wfo W f)) 9 (5 * (f - wff W (wfo W f)))).toInt.toNat := by
            unfold bE0
            rw [Nat.add_sub_cancel]
          have ep : p3 = qb (DM mz) + (dvs (wd W (wfo W f)) 9 (5 * (f - wff W (wfo W f)))).toInt.toNat := by
            omega
          refine ⟨⟨c1, c2, rfl, c3, c4, rfl⟩, rfl, ?_, ?_, rfl, ?_, rfl, ?_⟩
          · show T + ((fT W f).1.length + T') = T + (fT W f).1.length + T'
            omega
          · show p3 = _
            rw [em]
            exact ep
          · show lw _ (qb (fMo (fun k => F (A k)) DM f) + bE0 (wd W (wfo W f)) (f - wff W (wfo W f) + ni (wd W (wfo W f)) 0)) _
            rw [eb]
            exact lw.rf
          · intro i o c hc
            cases hc
        · rw [Nat.add_sub_cancel, xh_up, if_pos rfl]
          intro j hj
          have hj' : j < T + (fT W f).1.length + T' := hj
          show (if T + (fT W f).1.length ≤ j ∧ j < T + (fT W f).1.length + T' then (0 : Int64) else v j) = zrW ω (T + (fT W f).1.length) (T + ((fT W f).1.length + T')) j
          unfold zrW
          rw [← Nat.add_assoc]
          split
          · rfl
          · exact hv j (by omega)
    · omega
  · have e1 : fmp f = f - 8192 + 100000 := by unfold fmp; rw [if_pos c1]
    rcases hca with ⟨d1, -⟩ | ⟨d1, d2⟩
    · rw [e1] at d1
      omega
    · unfold hcO at c2 c3
      rcases d2 with ⟨d2, d3, d4, d5⟩ | ⟨d2, d3, d4⟩
      · right
        rw [if_neg (by omega)] at c2 c3
        refine ⟨c3, c1, d5, d3, ?_⟩
        rw [c2]
        by_cases hD : D = 0
        · rw [if_pos hD]
          refine ⟨List.length_eq_zero_iff.mp (by omega), rfl⟩
        · rw [if_neg hD]
          refine ⟨by omega, hfr, fun j hj => hv j ?_⟩
          have := hT (by omega)
          omega
      · left
        rw [if_pos (by omega)] at c2 c3
        exact ⟨c3, d4, .inr ⟨10, by decide, by decide, d3, by rw [c2]; rfl⟩⟩
end GF

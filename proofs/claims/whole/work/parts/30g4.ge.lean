-- equality: how a step moves on in both
section GE
variable {own own' ad ad' : Nat → Nat} {h h' : xb_H} {W : wD} {σ D : Nat} {gx gx' : Nat → fG} {v v1 ω ω1 : Nat → Int64} {A : Nat → Nat} {F F' : Nat → Nat → Int32} {φ φ' : Nat → Nat → Int32} {DM : Nat → zM} {most : Nat → Int64} {gm : Nat → Nat} {w w' : rWd} {np i0 n n' : Nat} {ε : wEf} {x : cX} {r cs : List cX}
theorem sgo1 (hB : cB own ad h) (s : stg own ad own' ad' h h') {a : Nat} (ha : xb_k h a ≠ 0) (ho : own a = 1) : xh_sm h h' a :=
  s.2.2.2.2.1 a ha (by omega) (by omega) (fun k hk e => by
    have h1 := hB.o k (goC_lt k hk)
    rw [← e] at h1
    omega)
theorem sgoI (hB : cB own ad h) (hW : wI own ad h W σ) (s : stg own ad own' ad' h h') {i : Nat} (hi : i < wic W) : (∀ k, k < nf (wd W i) → fnI h' W i k = fnI h W i k) ∧ (∀ k, k < nvr (wd W i) → vnI h' W i k = vnI h W i k) ∧ (0 < dn (wd W i) 3 / 3 → tbF h' W i = tbF h W i ∧ tbZ h' W i = tbZ h W i) := by
  obtain ⟨⟨a1, a2, a3, a4, a5⟩, ⟨fa, b1, b2, b3, b4, b5⟩, ⟨va, c1, c2, c3, c4, c5⟩, -, -, ⟨d1, d2⟩, -⟩ := (hW.2.2.2.2.2.2.1.2.2.2 i hi).2
  have e1 := (sgo1 hB s (by rw [a1]; decide) a2).2.2
  have e2 := (sgo1 hB s (by rw [b2]; decide) b3).2.1
  have e3 := (sgo1 hB s (by rw [c2]; decide) c3).2.1
  refine ⟨fun k hk => ?_, fun k hk => ?_, fun ht => ?_⟩
  · unfold fnI
    rw [e1, b1, Option.getD_some, e2]
  · unfold vnI
    rw [e1, c1, Option.getD_some, e3]
  · obtain ⟨ta, t1⟩ := d1 ht
    obtain ⟨t2, t3, -⟩ := d2 ta t1
    have e4 := (sgo1 hB s (by rw [t2]; decide) t3).1
    unfold tbF tbZ
    rw [e1, t1, Option.getD_some, e4]
    exact ⟨rfl, rfl⟩
theorem stQ.nx (hB : cB own ad h) (hW : wI own ad h W σ) (s : stg own ad own' ad' h h') (hF : wF ad h ad' h' W i0 ε) (hs : stQ h ad W A F DM most) : stQ h' ad' W A F DM most := by
  obtain ⟨s1, s2, s3, s4, s5, s6⟩ := hs
  obtain ⟨a24, m24⟩ := s.cm hB (k := 24) (by decide) (by decide)
  refine ⟨s1, s2, fun i hi => ⟨fun k hk => ?_, fun k hk => ?_⟩, fun i hi ht => ?_, fun e he => ?_, fun i hi hm => ?_⟩
  · rw [(sgoI hB hW s hi).1 k hk]
    exact (s3 i hi).1 k hk
  · rw [(sgoI hB hW s hi).2.1 k hk]
    exact (s3 i hi).2 k hk
  · rw [((sgoI hB hW s hi).2.2 ht).1, ((sgoI hB hW s hi).2.2 ht).2]
    exact s4 i hi ht
  · rw [a24, m24.2.1]
    exact s5 e he
  · obtain ⟨m1, m2, m3⟩ := s6 i hi hm
    obtain ⟨⟨k1, k2, k3⟩, -⟩ := hF.2.2 i hi hm
    refine ⟨m1, by rw [k3]; exact m2, fun i9 hi9 hm9 => ?_⟩
    rw [k1, (hF.2.2 i9 hi9 hm9).1.1]
    exact m3 i9 hi9 hm9
/-- the world after a step -/
theorem wQ.nx (hs : stQ h ad W A F DM most) (hw : wQ ad h W np (gmV A F DM) w) (hnp : np = wnp W) (a27 : ad' 27 = ad 27) (hF : wF ad h ad' h' W i0 ε) (hU : ∃ e, oU ad h ad' h' e ∧ (e = none → w'.2.2.2.2.2 = w.2.2.2.2.2) ∧ ∀ y, e = some y → w'.2.2.2.2.2.1 = w.2.2.2.2.2.1 + 1 ∧ w'.2.2.2.2.2.2 = va_up w.2.2.2.2.2.2 w.2.2.2.2.2.1.toInt.toNat y)
    (hV : ∀ j, j < wnv W → w'.1 j = eV ε (xb_l h (ad 22)) j) (hb : ∀ a, a < 65536 * (np + ε.2.2) → byR w'.2.1 a = ε.2.1 a) (hz : ∀ a, 65536 * (np + ε.2.2) ≤ a → a < 1048576 → byR w'.2.1 a = 0) (hps : w'.2.2.2.2.1.toInt = (np + ε.2.2 : Nat))
    (hi0 : i0 < wic W) (hm0 : 0 < ε.2.2 → 0 < dn (wd W i0) 4 / 3)
    (hpc : ∀ i, i < wic W → 0 < dn (wd W i) 4 / 3 → (gmV A F DM i = gmV A F DM i0 → (w'.2.2.1 (gmV A F DM i)).toInt = (mmP h W i + ε.2.2 : Nat) ∧ (∀ j, j < mmP h W i → w'.2.2.2.1 (16 * gmV A F DM i + j) = w.2.2.2.1 (16 * gmV A F DM i + j)) ∧ ∀ j, mmP h W i ≤ j → j < mmP h W i + ε.2.2 → (w'.2.2.2.1 (16 * gmV A F DM i + j)).toInt = (np + (j - mmP h W i) : Nat)) ∧ (gmV A F DM i ≠ gmV A F DM i0 → w'.2.2.1 (gmV A F DM i) = w.2.2.1 (gmV A F DM i) ∧ ∀ j, j < mmP h W i → w'.2.2.2.1 (16 * gmV A F DM i + j) = w.2.2.2.1 (16 * gmV A F DM i + j))) : wQ ad' h' W (np + ε.2.2) (gmV A F DM) w' := by
  obtain ⟨w1, ⟨w2, w3⟩, w4, w5, w6, w7⟩ := hw
  obtain ⟨⟨f1, f2⟩, f3, f4⟩ := hF
  refine ⟨fun j hj => ?_, ⟨fun a ha => ?_, hz⟩, fun i hi hm => ?_, hps, ?_⟩
  · rw [f1, f2]
    exact hV j hj
  · rw [hb a ha, f3 a (by rw [← hnp]; exact ha)]
  · obtain ⟨⟨g1, g2, g3⟩, g4, g5⟩ := f4 i hi hm
    obtain ⟨p1, p2⟩ := hpc i hi hm
    obtain ⟨q1, q2⟩ := w4 i hi hm
    by_cases he : mmA h W i = mmA h W i0
    · obtain ⟨k1, k2, k3⟩ := g4 he
      rw [g2]
      by_cases hg : gmV A F DM i = gmV A F DM i0
      · obtain ⟨r1, r2, r3⟩ := p1 hg
        rw [k1]
        refine ⟨r1, fun j hj => ?_⟩
        by_cases hj2 : j < mmP h W i
        · rw [k2 j hj2, r2 j hj2]
          exact q2 j hj2
        · apply Int32.toInt.inj
          rw [k3 j (by omega) hj, r3 j (by omega) hj, hnp]
      · have e0 : ε.2.2 = 0 := by
          apply Nat.eq_zero_of_not_pos
          intro h9
          exact hg (((hs.2.2.2.2.2 i hi hm).2.2 i0 hi0 (hm0 h9)).mpr he)
        obtain ⟨r1, r2⟩ := p2 hg
        rw [k1, e0, Nat.add_zero, r1]
        refine ⟨q1, fun j hj => ?_⟩
        rw [k2 j hj, r2 j hj]
        exact q2 j hj
    · obtain ⟨k1, k2⟩ := g5 he
      rw [g2, k1]
      by_cases hg : gmV A F DM i = gmV A F DM i0
      · obtain ⟨r1, r2, r3⟩ := p1 hg
        have e0 : ε.2.2 = 0 := by
          apply Nat.eq_zero_of_not_pos
          intro h9
          exact he (((hs.2.2.2.2.2 i hi hm).2.2 i0 hi0 (hm0 h9)).mp hg)
        rw [e0, Nat.add_zero] at r1
        refine ⟨r1, fun j hj => ?_⟩
        rw [k2 j hj, r2 j hj]
        exact q2 j hj
      · obtain ⟨r1, r2⟩ := p2 hg
        rw [r1]
        refine ⟨q1, fun j hj => ?_⟩
        rw [k2 j hj, r2 j hj]
        exact q2 j hj
  · obtain ⟨e, u1, u2, u3⟩ := hU
    cases e with
    | none =>
      obtain ⟨a1, a2, a3⟩ := u1
      rw [u2 rfl, a27, a1, a2, a3]
      exact ⟨w6, w7⟩
    | some y =>
      obtain ⟨n, n1, n2, n3, n4, n5⟩ := u1
      obtain ⟨u4, u5⟩ := u3 y rfl
      have e9 : (w.2.2.2.2.2.1 + 1).toInt = (n + 1 : Nat) := by
        rw [z_add, w6, n1]
        simp only [Int32.reduceToInt]
        omega
      rw [u4, u5, a27]
      refine ⟨?_, fun j hj => ?_⟩
      · apply Int32.toInt.inj
        rw [e9, n3]
      · rw [n3] at hj
        have e8 : w.2.2.2.2.2.1.toInt.toNat = n := by rw [w6, n1]; rfl
        rw [e8, xh_up]
        split
        · next e =>
          rw [e]
          exact n5.symm
        · next e =>
          rw [n4 j (by omega)]
          exact w7 j (by rw [n1]; omega)
theorem oQ.vv (hO : oQ W φ DM (.inl (D, gx, v)) (.inl (cs, n, ω))) (hv : ∀ j, j < gO (gx (D - 1)) + (gC (gx (D - 1))).length → v1 j = v j) : oQ W φ DM (.inl (D, gx, v1)) (.inl (cs, n, ω)) :=
  ⟨hO.1, hO.2.1, fun j hj => (hv j hj).trans (hO.2.2 j hj)⟩
/-- the latest call goes on -/
theorem oQ.go {a' : Nat} {c1 c1' : List Int} {gs1 gs1' : List gF} (hO : oQ W φ DM (.inl (D, gx, v)) (.inl (x :: r, n, ω))) (hl : lw (qc (fMo φ DM x.1)) (qb (fMo φ DM x.1) + bE0 (wd W (gI (gx (D - 1)))) (gK (gx (D - 1)))) (qb (fMo φ DM x.1) + a')) (hc : c1'.length = c1.length) (hg : gsQ (qc (fMo φ DM x.1)) (qb (fMo φ DM x.1)) (bE0 (wd W (gI (gx (D - 1)))) (gK (gx (D - 1)))) gs1 gs1')
    (hv : ∀ j, j < gO (gx (D - 1)) + c1.length → v1 j = ω1 j) : oQ W φ DM (.inl (D, va_up gx (D - 1) (gT_ (gx (D - 1)) a' c1 gs1), v1)) (.inl ((x.1, x.2.1, x.2.2.1, qb (fMo φ DM x.1) + a', c1', gs1') :: r, n', ω1)) := by
  obtain ⟨h0, ⟨D', e, ⟨f1, f2, f3, f4, f5, f6, f7⟩, fr⟩, hv0⟩ := hO
  subst e
  rw [Nat.add_sub_cancel] at *
  refine ⟨h0, ⟨D', rfl, ?_, fr.cg (fun j hj => by rw [xh_up, if_neg (by omega)])⟩, ?_⟩
  · rw [xh_up, if_pos rfl]
    exact ⟨f1, f2, f3, rfl, hc, hl, hg⟩
  · rw [Nat.add_sub_cancel, xh_up, if_pos rfl]
    exact hv
/-- the same frames, a value more or less: what a call holds while it calls -/
theorem frQ.go {a' : Nat} {c1 c1' : List Int} {gs1 gs1' : List gF} (hO : oQ W φ DM (.inl (D, gx, v)) (.inl (x :: r, n, ω))) (hl : lw (qc (fMo φ DM x.1)) (qb (fMo φ DM x.1) + bE0 (wd W (gI (gx (D - 1)))) (gK (gx (D - 1)))) (qb (fMo φ DM x.1) + a')) (hc : c1'.length = c1.length) (hg : gsQ (qc (fMo φ DM x.1)) (qb (fMo φ DM x.1)) (bE0 (wd W (gI (gx (D - 1)))) (gK (gx (D - 1)))) gs1 gs1') :
    frQ W φ DM (va_up gx (D - 1) (gT_ (gx (D - 1)) a' c1 gs1)) ((x.1, x.2.1, x.2.2.1, qb (fMo φ DM x.1) + a', c1', gs1') :: r) D :=
  (oQ.go (n' := 0) (v1 := fun _ => 0) (ω1 := fun _ => 0) hO hl hc hg (fun _ _ => rfl)).2.1
/-- the latest call ends -/
theorem oQ.le {t' : Nat} {c0 : List Int} (hO : oQ W φ DM (.inl (D, gx, v)) (.inl (x :: r, n, ω))) (hb0 : gB (gx 0) = 0) (hbD : ∀ j, j + 1 < D → gB (gx (j + 1)) = gO (gx j) + (gC (gx j)).length) (hc : gC (gx (D - 1)) = tp (rT W (gx (D - 1))) ++ c0) (hvs : vst v (gO (gx (D - 1))) (gC (gx (D - 1)))) (hbo : gB (gx (D - 1)) ≤ gO (gx (D - 1))) (ht : tRt (fMo φ DM x.1) t' = rT W (gx (D - 1))) :
    oQ W φ DM (ecO W D gx v) (.inl (rtC (tRt (fMo φ DM x.1) t') r, (tp (tRt (fMo φ DM x.1) t')).length, leW (fMo φ DM x.1) t' x.2.1 ω (x.2.1 + x.2.2.1 + x.2.2.2.2.1.length - 1))) := by
  obtain ⟨h0, ⟨D', e, ⟨f1, f2, f3, f4, f5, f6, f7⟩, fr⟩, hv0⟩ := hO
  subst e
  rw [Nat.add_sub_cancel] at *
  rw [ht]
  have key : rT W (gx D') ≠ 64 → leW (fMo φ DM x.1) t' x.2.1 ω (x.2.1 + x.2.2.1 + x.2.2.2.2.1.length - 1) = va_up ω (gB (gx D')) (v (gO (gx D') + (gC (gx D')).length - 1)) := by
    intro hne
    have hl : (gC (gx D')).length = c0.length + 1 := by
      rw [hc, tp, if_neg hne, List.singleton_append, List.length_cons]
    unfold leW
    rw [ht, if_neg hne, f3, f5, f2, ← hv0 _ (by omega)]
    congr 1
    apply arV_of
    rw [hc, tp, if_neg hne, List.singleton_append] at hvs
    rw [show gO (gx D') + (gC (gx D')).length - 1 = gO (gx D') + c0.length by omega]
    exact hvs.1
  have key0 : rT W (gx D') = 64 → leW (fMo φ DM x.1) t' x.2.1 ω (x.2.1 + x.2.2.1 + x.2.2.2.2.1.length - 1) = ω := by
    intro he
    unfold leW
    rw [ht, if_pos he]
  unfold ecO
  rw [Nat.add_sub_cancel]
  by_cases h1 : D' + 1 = 1
  · rw [if_pos h1]
    have e0 : D' = 0 := by omega
    subst e0
    have er : r = [] := List.length_eq_zero_iff.mp fr.len
    subst er
    refine ⟨rfl, ?_⟩
    unfold ecV
    by_cases he : rT W (gx 0) = 64
    · rw [if_pos he, he, tp, if_pos rfl]
      rfl
    · rw [if_neg he, key he, tp, if_neg he, hb0, xh_up, if_pos rfl]
      rfl
  · rw [if_neg h1]
    obtain ⟨D2, e2⟩ : ∃ D2, D' = D2 + 1 := ⟨D' - 1, by omega⟩
    subst e2
    rw [show D2 + 1 + 1 - 2 = D2 by omega]
    cases r with
    | nil =>
      have : D2 + 1 = 0 := fr
      omega
    | cons y r' =>
      obtain ⟨D3, e3, ⟨g1, g2, g3, g4, g5, g6, g7⟩, fr'⟩ := fr
      have e4 : D3 = D2 := by omega
      subst e4
      refine ⟨by omega, ⟨D3, rfl, ?_, fr'.cg (fun j hj => by rw [xh_up, if_neg (by omega)])⟩, ?_⟩
      · rw [xh_up, if_pos rfl]
        refine ⟨g1, g2, g3, g4, ?_, g6, g7⟩
        show (tp _ ++ y.2.2.2.2.1).length = (tp _ ++ gC (gx D3)).length
        rw [List.length_append, List.length_append, g5]
      · rw [Nat.add_sub_cancel, xh_up, if_pos rfl]
        intro j hj
        have hj' : j < gO (gx D3) + (tp (rT W (gx (D3 + 1))) ++ gC (gx D3)).length := hj
        rw [List.length_append] at hj'
        have hb := hbD D3 (by omega)
        by_cases he : rT W (gx (D3 + 1)) = 64
        · rw [if_pos he, key0 he]
          rw [he, tp, if_pos rfl, List.length_nil] at hj'
          exact hv0 j (by omega)
        · rw [if_neg he, key he, xh_up, xh_up]
          rw [tp, if_neg he, List.length_singleton] at hj'
          unfold ecV
          rw [if_neg he]
          split
          · rfl
          · exact hv0 j (by omega)
end GE

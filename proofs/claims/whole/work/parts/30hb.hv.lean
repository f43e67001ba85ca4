-- equality: instantiate, an instance was made in both
section HX
variable {own ad own' ad' ad1 A A2 own1 own2 : Nat → Nat} {H H' h1 h2c h3 hr : xb_H} {W : wD} {σ ts K K' mc m md q i k κ len mm : Nat} {d : mD} {ms vv : Nat → Nat} {φ φm Φ : Nat → Nat → Int32} {ℓ Λ : Nat → Nat → Int64} {v v5 w u3 : Nat → Int32} {DM : Nat → zM} {r4 y4 r7 y7 y : Int64} {cn : Nat → Int64} {M : Nat → mD} {G F5 : Nat → Nat → Int32}
/-- the start function, in both -/
theorem mdQ.sf {ω : Nat → Int32} {b N : Nat} {cA : Nat → Int32} {S : Sm} {D : zM} (hD : D = zk b N cA S) (hL : ldR cA b N d ω S) (hR : mdR D) (hV : MV0 D) : (qt D 8 = 0 ∧ (ω 15).toInt = -1) ∨ (0 < qt D 8 ∧ (ω 15).toInt = cV (qc D) (qp D 8 0) ∧ cV (qc D) (qp D 8 0) < iM D 0 + qt D 3) := by
  obtain ⟨vs0, ν0, hE, -⟩ := hL
  have h8 := hE.2.2.2.2.2.2.2.2.2
  have e1 : qt D 8 = S.1 8 := by rw [hD]; rfl
  have e2 : qp D 8 0 = S.2 8 0 := by rw [hD]; rfl
  have e3 : qc D = cA := by rw [hD]; rfl
  by_cases h9 : qt D 8 = 0
  · left
    refine ⟨h9, ?_⟩
    rw [(h8.1 (by rw [← e1]; exact h9)).1]
    rfl
  · right
    have h7 := (h8.2 (by omega)).2
    have h6 := (hV.2.2.2.2.1 (by omega)).1
    rw [← e2, ← e3] at h7
    have b0 : iM D 0 ≤ qt D 2 := kcn_le (cb := qc D) (P2 := qp D 2) (κ := 0) (qt D 2)
    have b2 := (hR.2.2.2.1 2 (by decide)).1
    have b3 := (hR.2.2.2.1 3 (by decide)).1
    exact ⟨by omega, z_small h7 (by omega), h6⟩
/-- how long the memory is, from the class's own side -/
theorem in_bS (hmo : mo own H md d) (hW : wI own ad H W σ) (hB : cB own ad H) (hlk : lkM own ad H W d vv own1 ad1 h1) (hc : cNw ad1 h1 W d q H') (sm : ∀ a, xb_k H a ≠ 0 → own a = 1 ∨ own a = 50 ∨ own a = 51 → xh_sm H H' a) (hmm : 0 < iM (DM m) 2 → ∃ i ma : Nat, i < wic W ∧ xb_r H (wia W i) 7 = some ma ∧ xb_r h1 (ad1 14) 15 = some ma) (h0 : iM (DM m) 2 = 0 → xb_r h1 (ad1 14) 15 = none) (e2 : ni d 2 = iM (DM m) 2) (ht : 0 < dn d 4 / 3) : bS ad1 h1 d = 65536 * (mmP H' (wN1 W md d q ms) (wic W) : Int) := by
  obtain ⟨nia, niq, nid, niff, nifv⟩ := wN1_n (W := W) (md := md) (q := q) (d := d) (ms := ms)
  have hle := hmo.2.1.2.2.2.2.1.2.1
  have hol := ol_rg hmo (.inr ⟨rfl, rfl⟩)
  unfold bS mmP mmA
  rw [nia]
  by_cases h9 : 0 < iM (DM m) 2
  · obtain ⟨i, ma, a1, a3, a4⟩ := hmm h9
    obtain ⟨w1, w2, w3, w4, sl, pc, w5, w6, w7, w8, w9, w10, -⟩ := (hW.2.2.2.2.2.2.1.2.2.2 i a1).2.2.2.2.2.2.2.2 ma a3
    have s1 := hlk.1.n1 hB (a := ma) (by rw [w1]; decide) (.inr (by omega))
    have s2 := sm ma (by rw [w1]; decide) (.inr (.inl w2))
    rcases hc.2.2.2 with ⟨t1, t2⟩ | ⟨t0, -⟩
    · rw [t2, a4]
      show 65536 * (xb_i h1 ma 3).toInt = 65536 * ((xb_i H' ma 3).toInt.toNat : Int)
      rw [s1.1, s2.1, w10, Int.toNat_natCast]
    · omega
  · rw [h0 (by omega)]
    rcases hc.2.2.2 with ⟨t1, t2⟩ | ⟨t0, ma, sl, t1, t2, t3, t4, -⟩
    · omega
    · rw [t1]
      show 65536 * ol d 4 2 = 65536 * ((xb_i H' ma 3).toInt.toNat : Int)
      rw [t4, Int.toNat_natCast, Int.toNat_of_nonneg hol.1]
theorem in_stQ (hW : wI own ad H W σ) (sm : ∀ a, xb_k H a ≠ 0 → own a = 1 ∨ own a = 50 ∨ own a = 51 → xh_sm H H' a) (hs : stQ H ad W id φ DM (ℓ 55)) (h3 : W3 φ v DM) (hF : rFn φ ℓ v DM m r4 y4 r7 y7 cn w φm Φ Λ v5) (c0 : vN v 30 = wic W) (c1 : vN v 43 = wno W) (hq : mdQ d (DM m)) (hR : mdR (DM m)) (m6 : (φ 6 m).toInt = qb (DM m)) (m10 : (φ 10 (4 * m)).toInt = iM (DM m) 0) (mb : ∀ b, b < qt (DM m) 3 → bdF (DM m) b = .ok (φ 12 ((φ 8 (12 * m + 10)).toInt.toNat + b)).toInt)
    (fn : (∀ k, k < nf d → mnV id φm DM (vN v 30) 0 k = fmp (fnI H' (wN1 W md d q ms) (wic W) k)) ∧ ∀ k, k < nvr d → mnV id φm DM (vN v 30) 3 k = vnI H' (wN1 W md d q ms) (wic W) k)
    (tb : 0 < dn d 3 / 3 → (φm 48 (oV id φm DM (vN v 30) 1).toInt.toNat).toInt = tbF H' (wN1 W md d q ms) (wic W) ∧ (φm 49 (oV id φm DM (vN v 30) 1).toInt.toNat).toInt = tbZ H' (wN1 W md d q ms) (wic W))
    (mmq : 0 < dn d 4 / 3 → gmV id φm DM (vN v 30) < 24 ∧ (Λ 55 (gmV id φm DM (vN v 30))).toInt = mmX H' (wN1 W md d q ms) (wic W) ∧ ∀ i, i < wic W → 0 < dn (wd W i) 4 / 3 → (gmV id φm DM (vN v 30) = gmV id φ DM i ↔ mmA H' (wN1 W md d q ms) (wic W) = mmA H W i))
    (hel : ∀ e, e < wne (wN1 W md d q ms) → ((xb_l H' (ad' 24) e).toInt = -1 ∧ Φ 51 e = 0) ∨ ∃ f : Nat, (xb_l H' (ad' 24) e).toInt = f ∧ vf (wN1 W md d q ms) f ∧ (Φ 51 e).toInt = (fmp f + 1 : Nat)) : stQ H' ad' (wN1 W md d q ms) id Φ DM (Λ 55) := by
  obtain ⟨mn, ov, -, -⟩ := hF.mnq
  obtain ⟨nia, niq, nid, niff, nifv⟩ := wN1_n (W := W) (md := md) (q := q) (d := d) (ms := ms)
  obtain ⟨⟨hr, f1, -⟩, ⟨⟨g1, -⟩, -⟩, -, ⟨f44, f44n⟩, -⟩ := hF
  have eic : wic (wN1 W md d q ms) = wic W + 1 := rfl
  have erow : ∀ k, k ∈ [6, 8, 10, 12] → Φ k = φ k := fun k hk => by
    have := (by decide : ∀ k, k ∈ [6, 8, 10, 12] → k ∈ gAL ∧ k ∉ [44, 45, 51, 56, 57, 89] ∧ k ∉ [31, 32, 33, 35, 36, 37, 38, 48, 49, 54, 59, 60, 89]) k hk
    rw [f1 k this.1 this.2.1, hr.1 k this.1 this.2.2]
  have e31 : Φ 31 = φm 31 := f1 31 (by decide) (by decide)
  have e48 : Φ 48 = φm 48 := f1 48 (by decide) (by decide)
  have e49 : Φ 49 = φm 49 := f1 49 (by decide) (by decide)
  have gmm : ∀ i, gmV id Φ DM i = gmV id φm DM i := fun i => by unfold gmV; rw [ov]
  have om : ∀ i, i < wic W → φm 31 i = φ 31 i ∧ (∀ κ k, mnV id φm DM i κ k = mnV id φ DM i κ k) ∧ ∀ κ, oV id φm DM i κ = oV id φ DM i κ := fun i hi => hr.mn h3 (by omega)
  have gmo : ∀ i, i < wic W → gmV id φm DM i = gmV id φ DM i := fun i hi => by unfold gmV; rw [(om i hi).2.2]
  have o1 : ∀ i, i < wic W → 0 < dn (wd W i) 3 / 3 → (oV id φ DM i 1).toInt.toNat < vN v 46 := fun i hi h9 => by
    have n3' := (hs.1 i hi).1.n.2.2.1
    exact h3.o1 (i := i) (by omega) (by simp only [id] at n3'; omega)
  have o2 : ∀ i, i < wic W → 0 < dn (wd W i) 4 / 3 → gmV id φ DM i < vN v 52 := fun i hi h9 => by
    have n4' := (hs.1 i hi).1.n.2.2.2.1
    exact h3.o2 (i := i) (by omega) (by simp only [id] at n4'; omega)
  have cs : ∀ i, i < wic (wN1 W md d q ms) → i < wic W ∨ i = wic W := fun i hi => by omega
  obtain ⟨s1, s2, s3, s4, s5, s6⟩ := hs
  refine ⟨fun i hi => ?_, fun f hf => ?_, fun i hi => ?_, fun i hi ht => ?_, hel, fun i hi hm => ?_⟩
  · simp only [id] at *
    rw [erow 6 (by decide), erow 10 (by decide), erow 12 (by decide), erow 8 (by decide), e31]
    rcases cs i hi with h9 | h9
    · rw [(wN1_o h9).2.2.1, (om i h9).1]
      exact s1 i h9
    · subst h9
      rw [nid, ← c0, g1, Int.toNat_natCast]
      exact ⟨hq, hR, m6, m10, mb⟩
  · have hf' : f < wno W + (nf d - ni d 0) := hf
    simp only [id] at *
    rcases Nat.lt_or_ge f (wno W) with h9 | h9
    · have e1 : wfo (wN1 W md d q ms) f = wfo W f := if_pos h9
      have hlt := (hW.1.2.2 f h9).2.1
      rw [e1, (wN1_o hlt).2.2.2.1, (f44 f (by omega)).1, (f44 f (by omega)).2]
      exact s2 f h9
    · have e1 : wfo (wN1 W md d q ms) f = wic W := if_neg (by omega)
      have n2 := hq.n.2.1
      have n0 := hq.n.2.2.2.2.2.1 0 (by decide)
      have hk : f - wno W < qt (DM m) 3 := by
        unfold nf at hf'
        omega
      obtain ⟨x1, x2⟩ := f44n (f - wno W) hk
      rw [c1, show wno W + (f - wno W) = f by omega] at x1 x2
      rw [e1, niff, x1, x2, c0]
      exact ⟨rfl, rfl⟩
  · rcases cs i hi with h9 | h9
    · obtain ⟨q1, q2, -⟩ := old_i (md := md) (q := q) (d := d) (ms := ms) hW sm h9
      rw [(wN1_o h9).2.2.1]
      refine ⟨fun k hk => ?_, fun k hk => ?_⟩
      · rw [mn, (om i h9).2.1, q1 k hk]
        exact (s3 i h9).1 k hk
      · rw [mn, (om i h9).2.1, q2 k hk]
        exact (s3 i h9).2 k hk
    · subst h9
      rw [nid]
      refine ⟨fun k hk => ?_, fun k hk => ?_⟩
      · rw [mn, ← c0]
        have := fn.1 k hk
        rw [← c0] at this
        exact this
      · rw [mn, ← c0]
        have := fn.2 k hk
        rw [← c0] at this
        exact this
  · rw [ov]
    simp only [id]
    rw [e48, e49]
    rcases cs i hi with h9 | h9
    · rw [(wN1_o h9).2.2.1] at ht
      obtain ⟨-, -, q3, -⟩ := old_i (md := md) (q := q) (d := d) (ms := ms) hW sm h9
      rw [(om i h9).2.2, (q3 ht).1, (q3 ht).2, (hr.2.2.2.1 _ (o1 i h9 ht)).1, (hr.2.2.2.1 _ (o1 i h9 ht)).2.1]
      exact s4 i h9 ht
    · subst h9
      rw [nid] at ht
      have := tb ht
      rw [c0] at this
      exact this
  · rw [gmm i]
    rcases cs i hi with h9 | h9
    · rw [(wN1_o h9).2.2.1] at hm
      obtain ⟨-, -, -, q4, -⟩ := old_i (md := md) (q := q) (d := d) (ms := ms) hW sm h9
      obtain ⟨k1, k2, k3, k4, k5⟩ := q4 hm
      obtain ⟨a1, a2, a3⟩ := s6 i h9 hm
      rw [gmo i h9, k1, k3, (hr.2.2.2.2.1 _ (o2 i h9 hm)).2]
      refine ⟨a1, a2, fun i0 hi0 hm0 => ?_⟩
      rw [gmm i0]
      rcases cs i0 hi0 with h8 | h8
      · rw [(wN1_o h8).2.2.1] at hm0
        obtain ⟨-, -, -, q4', -⟩ := old_i (md := md) (q := q) (d := d) (ms := ms) hW sm h8
        rw [gmo i0 h8, (q4' hm0).1]
        exact a3 i0 h8 hm0
      · subst h8
        rw [nid] at hm0
        have := (mmq hm0).2.2 i h9 hm
        rw [c0] at this
        exact ⟨fun e => (this.mp e.symm).symm, fun e => (this.mpr e.symm).symm⟩
    · subst h9
      rw [nid] at hm
      obtain ⟨a1, a2, a3⟩ := mmq hm
      rw [c0] at a1 a2 a3
      refine ⟨a1, a2, fun i0 hi0 hm0 => ?_⟩
      rw [gmm i0]
      rcases cs i0 hi0 with h8 | h8
      · rw [(wN1_o h8).2.2.1] at hm0
        obtain ⟨-, -, -, q4', -⟩ := old_i (md := md) (q := q) (d := d) (ms := ms) hW sm h8
        rw [gmo i0 h8, (q4' hm0).1]
        exact a3 i0 h8 hm0
      · subst h8
        exact ⟨fun _ => rfl, fun _ => rfl⟩
theorem in_wQ (hW : wI own ad H W σ) (sm : ∀ a, xb_k H a ≠ 0 → own a = 1 ∨ own a = 50 ∨ own a = 51 → xh_sm H H' a) (hs : stQ H ad W id φ DM (ℓ 55)) (hw : wQ ad H W (wnp W) (gmV id φ DM) (ℓ 61, φ 57, φ 54, φ 56, v 53, v 88, ℓ 87)) (h3 : W3 φ v DM) (hF : rFn φ ℓ v DM m r4 y4 r7 y7 cn w φm Φ Λ v5) (c0 : vN v 30 = wic W) (c1 : vN v 58 = wnv W) (c2 : vN v 53 = wnp W) (hq : mdQ d (DM m)) (hmo : mo own H md d) (o7 : olV (DM m) 5 r7 y7) (hp : wnp W ≤ 16)
    (hvr : cVr ad1 h1 W d ad' H') (l22 : xb_l h1 (ad1 22) = xb_l H (ad 22)) (hR : mdR (DM m)) (hV : MV0 (DM m)) (hcv : ∀ p, knQ d (DM m) p → cv ad1 h1 d p = cn (qb (DM m) + p))
    (hby : (∀ a, a < 65536 * wnp (wN1 W md d q ms) → byR (Φ 57) a = byA (xb_l H' (ad' 26)) a) ∧ ∀ a, 65536 * wnp (wN1 W md d q ms) ≤ a → a < 1048576 → byR (Φ 57) a = 0)
    (mmq : 0 < dn d 4 / 3 → (φm 54 (gmV id φm DM (vN v 30))).toInt = mmP H' (wN1 W md d q ms) (wic W) ∧ ∀ j, j < mmP H' (wN1 W md d q ms) (wic W) → Φ 56 (16 * gmV id φm DM (vN v 30) + j) = xb_i H' (mmS H' (wN1 W md d q ms) (wic W)) j)
    (a27 : xb_i H' (ad' 27) = xb_i H (ad 27)) (a28 : xb_l H' (ad' 28) = xb_l H (ad 28)) : wQ ad' H' (wN1 W md d q ms) (wnp (wN1 W md d q ms)) (gmV id Φ DM) (Λ 61, Φ 57, Φ 54, Φ 56, v5 53, v5 88, Λ 87) := by
  obtain ⟨mn, ov, -, -⟩ := hF.mnq
  obtain ⟨nia, niq, nid, niff, nifv⟩ := wN1_n (W := W) (md := md) (q := q) (d := d) (ms := ms)
  obtain ⟨⟨hr, f1, -⟩, -, hvar, -, -, -, ⟨p1, p2⟩, ⟨-, -, -, -, n53, nn⟩, -⟩ := hF
  have gmm : ∀ i, gmV id Φ DM i = gmV id φm DM i := fun i => by unfold gmV; rw [ov]
  have om : ∀ i, i < wic W → ∀ κ, oV id φm DM i κ = oV id φ DM i κ := fun i hi => (hr.mn h3 (by omega)).2.2
  have gmo : ∀ i, i < wic W → gmV id φm DM i = gmV id φ DM i := fun i hi => by unfold gmV; rw [om i hi]
  have o2 : ∀ i, i < wic W → 0 < dn (wd W i) 4 / 3 → gmV id φ DM i < vN v 52 := fun i hi h9 => by
    have n4' := (hs.1 i hi).1.n.2.2.2.1
    exact h3.o2 (i := i) (by omega) (by simp only [id] at n4'; omega)
  have e54 : Φ 54 = φm 54 := f1 54 (by decide) (by decide)
  obtain ⟨w1, w2, w4, w5, w6, w7⟩ := hw
  obtain ⟨-, -, -, -, n5, n6, -⟩ := hq.n
  have i3 := n6 3 (by decide)
  refine ⟨fun j hj => ?_, hby, fun i hi hm => ?_, ?_, ?_⟩
  · have hj' : j < wnv W + (nvr d - ni d 3) := hj
    show Λ 61 j = _
    rcases Nat.lt_or_ge j (wnv W) with h9 | h9
    · rw [hvr.1 j h9, l22, (hr.2.2.2.2.2.1 j (by omega)).2.2]
      exact w1 j h9
    · have hk : j - wnv W < qt (DM m) 6 := by
        unfold nvr at hj'
        omega
      have x1 := (hvar (j - wnv W) hk).2.2
      have x2 := hvr.2 (j - wnv W) (by omega)
      rw [c1, show wnv W + (j - wnv W) = j by omega] at x1
      rw [show wnv W + (j - wnv W) = j by omega] at x2
      obtain ⟨p, y1, y2, y3⟩ := hq.k5 hR hV hk
      rw [i3, y1, Int.toNat_natCast, hcv p y3, y2] at x2
      rw [x1, x2]
  · rw [gmm i]
    show (Φ 54 (gmV id φm DM i)).toInt = _ ∧ ∀ j, _ → Φ 56 (16 * gmV id φm DM i + j) = _
    rw [e54]
    have cs : i < wic W ∨ i = wic W := by
      have : wic (wN1 W md d q ms) = wic W + 1 := rfl
      omega
    rcases cs with h9 | h9
    · rw [(wN1_o h9).2.2.1] at hm
      obtain ⟨-, -, -, q4, -⟩ := old_i (md := md) (q := q) (d := d) (ms := ms) hW sm h9
      obtain ⟨k1, k2, k3, k4, k5⟩ := q4 hm
      obtain ⟨a1, a2⟩ := w4 i h9 hm
      have hlt := o2 i h9 hm
      obtain ⟨ma, y1⟩ := (hW.2.2.2.2.2.2.1.2.2.2 i h9).2.2.2.2.2.2.2.1 hm
      obtain ⟨u1, u2, u3', u4, sl, pc, u5, u6, u7, u8, u9, u10, u11, -⟩ := (hW.2.2.2.2.2.2.1.2.2.2 i h9).2.2.2.2.2.2.2.2 ma y1
      have eP : mmP H W i = pc := by
        unfold mmP mmA
        rw [y1]
        show (xb_i H ma 3).toInt.toNat = pc
        omega
      rw [gmo i h9, k4, k2, k5, (hr.2.2.2.2.1 _ hlt).1]
      refine ⟨a1, fun j hj => ?_⟩
      rw [p1 _ (fun h8 => by omega)]
      exact a2 j hj
    · subst h9
      rw [nid] at hm
      have := mmq hm
      rw [c0] at this
      exact this
  · show (v5 53).toInt = _
    rw [n53, c2]
    have l1 := (hq.ol4 hmo o7).1
    have e1 : wnp (wN1 W md d q ms) = wnp W + (ol d 4 2).toNat := rfl
    rw [e1, l1]
    by_cases h9 : qt (DM m) 5 = 0
    · rw [if_pos h9]
      rcases o7 with ⟨-, x, -⟩ | ⟨x, -⟩
      · rw [x]
        rfl
      · omega
    · rw [if_neg h9]
  · show v5 88 = _ ∧ ∀ j : Nat, _ → Λ 87 j = _
    rw [nn 88 (by decide) (by decide), hr.2.2.2.2.2.2.1 87 (by decide), a27, a28]
    exact ⟨w6, w7⟩
theorem in_gXt (hW : wI own ad H W σ) (sm : ∀ a, xb_k H a ≠ 0 → own a = 1 ∨ own a = 50 ∨ own a = 51 → xh_sm H H' a) (hs : stQ H ad W id φ DM (ℓ 55)) (hx : gXt H W φ ℓ DM) (h3 : W3 φ v DM) (hF : rFn φ ℓ v DM m r4 y4 r7 y7 cn w φm Φ Λ v5) (c0 : vN v 30 = wic W) (c1 : vN v 58 = wnv W) (hq : mdQ d (DM m)) (hmo : mo own H md d) (hl : lnQ H W φ DM (DM m) ad1 h1 w)
    (fn : ∀ k, k < nvr d → mnV id φm DM (vN v 30) 3 k = vnI H' (wN1 W md d q ms) (wic W) k)
    (tb : 0 < dn d 3 / 3 → (Λ 50 (oV id φm DM (vN v 30) 1).toInt.toNat).toInt = (xb_l H' ((xb_r H' (wia (wN1 W md d q ms) (wic W)) 6).getD 0) 2).toInt ∧ -1 ≤ (xb_l H' ((xb_r H' (wia (wN1 W md d q ms) (wic W)) 6).getD 0) 2).toInt) : gXt H' (wN1 W md d q ms) Φ Λ DM := by
  obtain ⟨mn, ov, mnn, -⟩ := hF.mnq
  obtain ⟨nia, niq, nid, niff, nifv⟩ := wN1_n (W := W) (md := md) (q := q) (d := d) (ms := ms)
  obtain ⟨⟨hr, f1, -⟩, -, hvar, -⟩ := hF
  have e59 : Φ 59 = φm 59 := f1 59 (by decide) (by decide)
  have e60 : Φ 60 = φm 60 := f1 60 (by decide) (by decide)
  have cs : ∀ i, i < wic (wN1 W md d q ms) → i < wic W ∨ i = wic W := fun i hi => by
    have : wic (wN1 W md d q ms) = wic W + 1 := rfl
    omega
  refine ⟨fun i hi k hk => ?_, fun i hi ht => ?_⟩
  · rw [e59, e60]
    rcases cs i hi with h9 | h9
    · rw [(wN1_o h9).2.2.1] at hk ⊢
      obtain ⟨-, q2, -⟩ := old_i (md := md) (q := q) (d := d) (ms := ms) hW sm h9
      have n5 := (hs.1 i h9).1.n.2.2.2.2.1
      have hlt := h3.o3 (i := i) (k := k) (by omega) (by unfold nvr at hk; simp only [id] at n5; omega)
      rw [(hs.2.2.1 i h9).2 k hk] at hlt
      rw [q2 k hk, (hr.2.2.2.2.2.1 _ hlt).1, (hr.2.2.2.2.2.1 _ hlt).2.1]
      exact hx.1 i h9 k hk
    · subst h9
      rw [nid] at hk ⊢
      rw [← fn k hk, mnn 3 k, (hq.va hk).2.1, (hq.va hk).2.2]
      by_cases h8 : k < iM (DM m) 3
      · rw [if_pos h8]
        obtain ⟨g, b1, b2, b3, b4, b5⟩ := hl.2.1 k h8
        rw [b3, Int.toNat_natCast, (hr.2.2.2.2.2.1 g (by omega)).1, (hr.2.2.2.2.2.1 g (by omega)).2.1]
        exact ⟨b4, b5⟩
      · rw [if_neg h8, if_neg (by decide), if_neg (by decide), if_neg (by decide)]
        have hk6 := (hq.va hk).1
        obtain ⟨x1, x2, -⟩ := hvar (k - iM (DM m) 3) (by omega)
        rw [x1, x2, show iM (DM m) 3 + (k - iM (DM m) 3) = k by omega]
        refine ⟨rfl, ?_⟩
        have m3 := (hmo.var hk).2.2.2
        rw [(hq.va hk).2.2] at m3
        have ev : vpo (DM m) k = qp (DM m) 6 (k - iM (DM m) 3) := if_neg h8
        unfold vmu at m3 ⊢
        rw [ev] at m3 ⊢
        rcases m3 with m3 | m3
        · rw [if_neg (fun e => by rw [e] at m3; exact absurd m3 (by decide)), m3]
          rfl
        · rw [if_pos (z_eq.mpr (by rw [m3]; rfl)), m3]
          rfl
  · rw [ov]
    rcases cs i hi with h9 | h9
    · rw [(wN1_o h9).2.2.1] at ht
      rw [(wN1_o h9).1]
      obtain ⟨-, -, -, -, q5⟩ := old_i (md := md) (q := q) (d := d) (ms := ms) hW sm h9
      have n3' := (hs.1 i h9).1.n.2.2.1
      have hlt := h3.o1 (i := i) (by omega) (by simp only [id] at n3'; omega)
      obtain ⟨ta, y1⟩ := (hW.2.2.2.2.2.2.1.2.2.2 i h9).2.2.2.2.2.2.1.1 ht
      have hto := (hW.2.2.2.2.2.2.1.2.2.2 i h9).2.2.2.2.2.2.1.2 ta y1
      have sta := sm ta (by rw [hto.1]; decide) (.inl hto.2.1)
      have x2 := hx.2 i h9 ht
      rw [y1] at x2
      rw [(hr.mn h3 (i := i) (by omega)).2.2, (hr.2.2.2.1 _ hlt).2.2, q5, y1]
      have x2' : (ℓ 50 (oV id φ DM i 1).toInt.toNat).toInt = (xb_l H ta 2).toInt ∧ -1 ≤ (xb_l H ta 2).toInt := x2
      show _ = (xb_l H' ta 2).toInt ∧ -1 ≤ (xb_l H' ta 2).toInt
      rw [sta.2.1]
      exact x2'
    · subst h9
      rw [nid] at ht
      have := tb ht
      rw [c0] at this
      exact this
end HX

-- equality: instantiate, the new instance in both
section HV
variable {own ad own' ad' ad1 : Nat → Nat} {H H' h1 : xb_H} {W : wD} {σ mc m md q i k κ : Nat} {d : mD} {ms : Nat → Nat} {φ φm Φ : Nat → Nat → Int32} {ℓ Λ : Nat → Nat → Int64} {v v5 w : Nat → Int32} {DM : Nat → zM} {r4 y4 r7 y7 : Int64} {cn : Nat → Int64} {M : Nat → mD}
theorem wN1_o (hi : i < wic W) : wia (wN1 W md d q ms) i = wia W i ∧ wim (wN1 W md d q ms) i = wim W i ∧ wd (wN1 W md d q ms) i = wd W i ∧ wff (wN1 W md d q ms) i = wff W i ∧ wfv (wN1 W md d q ms) i = wfv W i := by
  have hn : ¬ i = wic W := by omega
  refine ⟨?_, ?_, ?_, ?_, ?_⟩
  · show va_up _ _ _ _ = _
    rw [xh_up, if_neg hn]
  · show va_up _ _ _ _ = _
    rw [xh_up, if_neg hn]
  · show va_up (wMD W) (wic W) d i = _
    rw [xh_up, if_neg hn]
    rfl
  · show va_up _ _ _ _ = _
    rw [xh_up, if_neg hn]
  · show va_up _ _ _ _ = _
    rw [xh_up, if_neg hn]
/-- instances that were there, after all -/
theorem old_i (hW : wI own ad H W σ) (sm : ∀ a, xb_k H a ≠ 0 → own a = 1 ∨ own a = 50 ∨ own a = 51 → xh_sm H H' a) (hi : i < wic W) : (∀ k, k < nf (wd W i) → fnI H' (wN1 W md d q ms) i k = fnI H W i k) ∧ (∀ k, k < nvr (wd W i) → vnI H' (wN1 W md d q ms) i k = vnI H W i k) ∧ (0 < dn (wd W i) 3 / 3 → tbF H' (wN1 W md d q ms) i = tbF H W i ∧ tbZ H' (wN1 W md d q ms) i = tbZ H W i) ∧ (0 < dn (wd W i) 4 / 3 → mmA H' (wN1 W md d q ms) i = mmA H W i ∧ mmS H' (wN1 W md d q ms) i = mmS H W i ∧ mmX H' (wN1 W md d q ms) i = mmX H W i ∧ mmP H' (wN1 W md d q ms) i = mmP H W i ∧ xb_i H' (mmS H W i) = xb_i H (mmS H W i)) ∧ xb_r H' (wia W i) = xb_r H (wia W i) := by
  obtain ⟨o1, o2, o3, o4, o5⟩ := wN1_o (W := W) (md := md) (q := q) (d := d) (ms := ms) hi
  obtain ⟨s1, s2, s3, s4, s5⟩ := smI hW sm hi
  have eA : mmA H' (wN1 W md d q ms) i = mmA H' W i := by unfold mmA; rw [o1]
  refine ⟨fun k hk => ?_, fun k hk => ?_, fun h9 => ?_, fun h9 => ?_, s4⟩
  · rw [← s1 k hk]
    unfold fnI
    rw [o1, o3, o4]
  · rw [← s2 k hk]
    unfold vnI
    rw [o1, o3, o5]
  · rw [← (s3 h9).1, ← (s3 h9).2]
    unfold tbF tbZ
    rw [o1]
    exact ⟨rfl, rfl⟩
  · obtain ⟨k1, k2, k3, k4, k5⟩ := s5 h9
    refine ⟨by rw [eA]; exact k1, ?_, ?_, ?_, k5⟩
    · rw [← k2]
      unfold mmS
      rw [eA]
    · rw [← k3]
      unfold mmX
      rw [eA]
    · rw [← k4]
      unfold mmP
      rw [eA]
theorem rFn.mnq (hF : rFn φ ℓ v DM m r4 y4 r7 y7 cn w φm Φ Λ v5) : (∀ i κ k, mnV id Φ DM i κ k = mnV id φm DM i κ k) ∧ (∀ i κ, oV id Φ DM i κ = oV id φm DM i κ) ∧ (∀ κ k, mnV id φm DM (vN v 30) κ k = if k < iM (DM m) κ then (w (ikx (DM m) κ (qt (DM m) 2) k)).toInt.toNat else if κ = 0 then vN v 43 + (k - iM (DM m) 0) else if κ = 1 then vN v 46 else if κ = 2 then vN v 52 else vN v 58 + (k - iM (DM m) 3)) ∧ ∀ κ, oV id φm DM (vN v 30) κ = if 0 < iM (DM m) κ then w (ikx (DM m) κ (qt (DM m) 2) 0) else if κ = 1 then φm 37 (vN v 30) else φm 38 (vN v 30) := by
  obtain ⟨⟨-, f1, f2⟩, ⟨⟨g1, g2, g3, g4, g5, g6⟩, -⟩, -⟩ := hF
  have hk : ∀ k, k ∈ [31, 32, 33, 35, 36, 37, 38] → Φ k = φm k := fun k hk => f1 k ((by decide : ∀ k, k ∈ [31, 32, 33, 35, 36, 37, 38] → k ∈ gAL) k hk) ((by decide : ∀ k, k ∈ [31, 32, 33, 35, 36, 37, 38] → k ∉ [44, 45, 51, 56, 57, 89]) k hk)
  refine ⟨fun i κ k => ?_, fun i κ => ?_, fun κ k => ?_, fun κ => ?_⟩
  · have e31 : Φ 31 = φm 31 := hk 31 (by decide)
    unfold mnV
    simp only [id]
    rw [hk 31 (by decide), hk 32 (by decide), hk 33 (by decide), hk 35 (by decide), hk 36 (by decide), hk 37 (by decide), hk 38 (by decide)]
  · unfold oV
    simp only [id]
    rw [hk 31 (by decide), hk 32 (by decide), hk 33 (by decide), hk 37 (by decide), hk 38 (by decide)]
  · unfold mnV
    simp only [id]
    rw [g1, g2, g3, g4, g5, g6]
    simp only [Int.toNat_natCast]
    by_cases h9 : k < iM (DM m) κ
    · rw [if_pos h9, if_pos h9, f2 _ (ikx_f (D := DM m) (κ := κ) (n := qt (DM m) 2) h9).1]
    · rw [if_neg h9, if_neg h9]
  · unfold oV
    simp only [id]
    rw [g1, g2]
    simp only [Int.toNat_natCast]
    by_cases h9 : 0 < iM (DM m) κ
    · rw [if_pos h9, if_pos h9, f2 _ (ikx_f (D := DM m) (κ := κ) (n := qt (DM m) 2) h9).1]
    · rw [if_neg h9, if_neg h9]
theorem fmp_s {f : Nat} (h : f < 8192) : fmp f = f := by
  unfold fmp
  rw [if_neg (by omega)]
/-- functions and variables that the new instance means -/
theorem in_fn (hF : rFn φ ℓ v DM m r4 y4 r7 y7 cn w φm Φ Λ v5) (hq : mdQ d (DM m)) (hl : lnQ H W φ DM (DM m) ad1 h1 w) (hc : cNw ad1 h1 W d q H') (hT : tmO W d) (c1 : vN v 43 = wno W) (c2 : vN v 58 = wnv W) : (∀ k, k < nf d → mnV id φm DM (vN v 30) 0 k = fmp (fnI H' (wN1 W md d q ms) (wic W) k)) ∧ ∀ k, k < nvr d → mnV id φm DM (vN v 30) 3 k = vnI H' (wN1 W md d q ms) (wic W) k := by
  obtain ⟨-, -, mn, -⟩ := hF.mnq
  obtain ⟨nia, niq, nid, niff, nifv⟩ := wN1_n (W := W) (md := md) (q := q) (d := d) (ms := ms)
  obtain ⟨-, n2, n3, n4, n5, n6, -⟩ := hq.n
  have i0 := n6 0 (by decide)
  have i3 := n6 3 (by decide)
  obtain ⟨⟨fa, f1, f2⟩, ⟨va, g1, g2⟩, -⟩ := hc
  have hno := hT.2.1
  refine ⟨fun k hk => ?_, fun k hk => ?_⟩
  · rw [mn 0 k]
    unfold fnI
    rw [nid, nia, niff, f1]
    by_cases h9 : k < iM (DM m) 0
    · rw [if_pos h9, if_pos (by omega)]
      obtain ⟨f, b1, b2, b3⟩ := hl.1 k h9
      have e1 : (xb_l H' fa k).toInt = f := by rw [f2 k (by omega)]; exact b1
      show _ = fmp (xb_l H' fa k).toInt.toNat
      rw [e1, b3, Int.toNat_natCast, Int.toNat_natCast]
    · rw [if_neg h9, if_pos rfl, if_neg (by omega), fmp_s (by omega)]
      omega
  · rw [mn 3 k]
    unfold vnI
    rw [nid, nia, nifv, g1]
    by_cases h9 : k < iM (DM m) 3
    · rw [if_pos h9, if_pos (by omega)]
      obtain ⟨f, b1, b2, b3, -⟩ := hl.2.1 k h9
      have e1 : (xb_l H' va k).toInt = f := by rw [g2 k (by omega)]; exact b1
      show _ = (xb_l H' va k).toInt.toNat
      rw [e1, b3]
    · rw [if_neg h9, if_neg (by decide), if_neg (by decide), if_neg (by decide), if_neg (by omega)]
      omega
/-- its table -/
theorem in_tb (hF : rFn φ ℓ v DM m r4 y4 r7 y7 cn w φm Φ Λ v5) (hq : mdQ d (DM m)) {h : xb_H} {ow : Nat → Nat} (hmo : mo ow h md d) (hl : lnQ H W φ DM (DM m) ad1 h1 w) (hc : cNw ad1 h1 W d q H') (o4 : olV (DM m) 4 r4 y4) (hW : wI own ad H W σ) (sm : ∀ a, xb_k H a ≠ 0 → own a = 1 ∨ own a = 50 ∨ own a = 51 → xh_sm H H' a) (hs : stQ H ad W id φ DM (ℓ 55)) (hx : gXt H W φ ℓ DM) (h3 : W3 φ v DM) (c0 : vN v 30 = wic W) (c1 : vN v 47 = wne W) (ht : 0 < dn d 3 / 3) :
    ((φm 48 (oV id φm DM (vN v 30) 1).toInt.toNat).toInt = tbF H' (wN1 W md d q ms) (wic W) ∧ (φm 49 (oV id φm DM (vN v 30) 1).toInt.toNat).toInt = tbZ H' (wN1 W md d q ms) (wic W)) ∧ (Λ 50 (oV id φm DM (vN v 30) 1).toInt.toNat).toInt = (xb_l H' ((xb_r H' (wia (wN1 W md d q ms) (wic W)) 6).getD 0) 2).toInt ∧ -1 ≤ (xb_l H' ((xb_r H' (wia (wN1 W md d q ms) (wic W)) 6).getD 0) 2).toInt := by
  obtain ⟨-, -, -, ov⟩ := hF.mnq
  obtain ⟨nia, niq, nid, niff, nifv⟩ := wN1_n (W := W) (md := md) (q := q) (d := d) (ms := ms)
  obtain ⟨-, -, n3, -, -, n6, -⟩ := hq.n
  have i1 := n6 1 (by decide)
  have hle := hmo.2.1.2.2.2.1.2
  obtain ⟨-, -, hT, -⟩ := hc
  obtain ⟨⟨hr, -, -⟩, ⟨⟨-, -, -, -, g5, -⟩, g7, -⟩, -⟩ := hF
  unfold tbF tbZ
  rw [nia, ov 1]
  by_cases h9 : 0 < iM (DM m) 1
  · rw [if_pos h9]
    obtain ⟨i, ta, a1, a2, a3, a4, a5⟩ := hl.2.2.1.1 h9
    have hto := (hW.2.2.2.2.2.2.1.2.2.2 i a1).2.2.2.2.2.2.1.2 ta a3
    have sta := sm ta (by rw [hto.1]; decide) (.inl hto.2.1)
    rcases hT with ⟨t1, t2⟩ | ⟨t0, -⟩
    · have n3' := (hs.1 i a1).1.n.2.2.1
      have hlt := h3.o1 (i := i) (by omega) (by simp only [id] at n3'; omega)
      have s4 := hs.2.2.2.1 i a1 a2
      have x2 := hx.2 i a1 a2
      unfold tbF tbZ at s4
      rw [a3] at s4 x2
      rw [t2, a4, a5, Int.toNat_natCast]
      obtain ⟨b1, b2, b3⟩ := hr.2.2.2.1 _ hlt
      have s4' : (φ 48 (oV id φ DM i 1).toInt.toNat).toInt = (xb_i H ta 0).toInt.toNat ∧ (φ 49 (oV id φ DM i 1).toInt.toNat).toInt = (xb_i H ta 1).toInt.toNat := s4
      have x2' : (ℓ 50 (oV id φ DM i 1).toInt.toNat).toInt = (xb_l H ta 2).toInt ∧ -1 ≤ (xb_l H ta 2).toInt := x2
      show ((φm 48 _).toInt = (xb_i H' ta 0).toInt.toNat ∧ (φm 49 _).toInt = (xb_i H' ta 1).toInt.toNat) ∧ (Λ 50 _).toInt = (xb_l H' ta 2).toInt ∧ -1 ≤ (xb_l H' ta 2).toInt
      rw [b1, b2, b3, sta.1, sta.2.1]
      exact ⟨s4', x2'⟩
    · omega
  · rw [if_neg h9, if_pos rfl, g5, Int.toNat_natCast]
    rcases hT with ⟨t1, t2⟩ | ⟨t0, ta, t1, t2, t3, t4⟩
    · omega
    · have q4 : 0 < qt (DM m) 4 := by omega
      obtain ⟨k1, k2, k3⟩ := g7 q4
      obtain ⟨l1, l2⟩ := hq.ol3 hmo o4
      have b4 := o4.b
      rw [t1, k3]
      show ((φm 48 _).toInt = (xb_i H' ta 0).toInt.toNat ∧ (φm 49 _).toInt = (xb_i H' ta 1).toInt.toNat) ∧ y4.toInt = (xb_l H' ta 2).toInt ∧ -1 ≤ (xb_l H' ta 2).toInt
      rw [k1, k2, t2, t3, t4, (l2 q4).2]
      obtain ⟨m3, hm3, hl3⟩ := hmo.2.1.2.2.2.1.1
      have hp3 := (hl3 0 (by omega)).2.2.2.2
      have hp3' : (dvs d 3 2).toInt = -1 ∨ 0 ≤ (dvs d 3 2).toInt ∧ (dvs d 3 2).toInt < 4294967296 := hp3
      rw [(l2 q4).2] at hp3'
      exact ⟨⟨by omega, by omega⟩, rfl, by omega⟩
/-- its memory -/
theorem in_mm (hF : rFn φ ℓ v DM m r4 y4 r7 y7 cn w φm Φ Λ v5) (hq : mdQ d (DM m)) {h : xb_H} {ow : Nat → Nat} (hmo : mo ow h md d) (hl : lnQ H W φ DM (DM m) ad1 h1 w) (hc : cNw ad1 h1 W d q H') (o7 : olV (DM m) 5 r7 y7) (hW : wI own ad H W σ) (sm : ∀ a, xb_k H a ≠ 0 → own a = 1 ∨ own a = 50 ∨ own a = 51 → xh_sm H H' a) (ext : ∀ a, xb_k H a ≠ 0 → xb_k h1 a ≠ 0) (hs : stQ H ad W id φ DM (ℓ 55)) (hw : ∀ i, i < wic W → 0 < dn (wd W i) 4 / 3 → (φ 54 (gmV id φ DM i)).toInt = mmP H W i ∧ ∀ j, j < mmP H W i → φ 56 (16 * gmV id φ DM i + j) = xb_i H (mmS H W i) j) (hp : wnp W ≤ 16) (h3 : W3 φ v DM) (c0 : vN v 30 = wic W) (c1 : vN v 53 = wnp W) (b52 : vN v 52 < 24) (ht : 0 < dn d 4 / 3) :
    gmV id φm DM (vN v 30) < 24 ∧ (Λ 55 (gmV id φm DM (vN v 30))).toInt = mmX H' (wN1 W md d q ms) (wic W) ∧ ((φm 54 (gmV id φm DM (vN v 30))).toInt = mmP H' (wN1 W md d q ms) (wic W) ∧ ∀ j, j < mmP H' (wN1 W md d q ms) (wic W) → Φ 56 (16 * gmV id φm DM (vN v 30) + j) = xb_i H' (mmS H' (wN1 W md d q ms) (wic W)) j) ∧ ∀ i, i < wic W → 0 < dn (wd W i) 4 / 3 → (gmV id φm DM (vN v 30) = gmV id φ DM i ↔ mmA H' (wN1 W md d q ms) (wic W) = mmA H W i) := by
  obtain ⟨-, -, -, ov⟩ := hF.mnq
  obtain ⟨nia, niq, nid, niff, nifv⟩ := wN1_n (W := W) (md := md) (q := q) (d := d) (ms := ms)
  obtain ⟨-, -, -, n4, -, n6, -⟩ := hq.n
  have i2 := n6 2 (by decide)
  have hle := hmo.2.1.2.2.2.2.1.2.1
  obtain ⟨-, -, -, hM⟩ := hc
  obtain ⟨⟨hr, -, -⟩, ⟨⟨-, -, -, -, -, g6⟩, -, g8⟩, -, -, -, -, ⟨p1, p2⟩, -⟩ := hF
  have o2 : ∀ i, i < wic W → 0 < dn (wd W i) 4 / 3 → gmV id φ DM i < vN v 52 := fun i hi hm9 => by
    have n4' := (hs.1 i hi).1.n.2.2.2.1
    exact h3.o2 (i := i) (by omega) (by simp only [id] at n4'; omega)
  unfold mmX mmP mmS
  have eA : ∀ x, mmA x (wN1 W md d q ms) (wic W) = (xb_r x q 7).getD 0 := fun x => by unfold mmA; rw [nia]
  rw [eA]
  by_cases h9 : 0 < iM (DM m) 2
  · obtain ⟨i, ma, a1, a2, a3, a4, a5⟩ := hl.2.2.2.1 h9
    have hmO := (hW.2.2.2.2.2.2.1.2.2.2 i a1).2.2.2.2.2.2.2.2 ma a3
    obtain ⟨w1, w2, w3, w4, sl, pc, w5, w6, w7, w8, w9, w10, w11, -⟩ := hmO
    have sma := sm ma (by rw [w1]; decide) (.inr (.inl w2))
    have ssl := sm sl (by rw [w6]; decide) (.inr (.inr w7))
    have eg : gmV id φm DM (vN v 30) = gmV id φ DM i := by
      show (oV id φm DM (vN v 30) 2).toInt.toNat = _
      rw [ov 2, if_pos h9, a5, Int.toNat_natCast]
    have eM : mmA H W i = ma := by
      unfold mmA
      rw [a3]
      rfl
    rcases hM with ⟨t1, t2⟩ | ⟨t0, -⟩
    · have hlt := o2 i a1 a2
      obtain ⟨s1, s2, s3⟩ := hs.2.2.2.2.2 i a1 a2
      obtain ⟨u1, u2⟩ := hw i a1 a2
      obtain ⟨b1, b2⟩ := hr.2.2.2.2.1 _ hlt
      unfold mmX at s2
      unfold mmP at u1
      unfold mmP mmS at u2
      rw [eM] at s2 u1 u2
      rw [eg, t2, a4]
      show _ ∧ _ = (xb_l H' ma 1).toInt ∧ (_ = ((xb_i H' ma 3).toInt.toNat : Int) ∧ ∀ j, j < (xb_i H' ma 3).toInt.toNat → _ = xb_i H' ((xb_r H' ma 2).getD 0) j) ∧ _
      rw [b1, b2, sma.1, sma.2.1, sma.2.2]
      rw [w5] at u2 ⊢
      show _ ∧ _ ∧ (_ ∧ ∀ j, _ → _ = xb_i H' sl j) ∧ _
      rw [ssl.1]
      refine ⟨s1, s2, ⟨u1, fun j hj => ?_⟩, fun i0 hi0 hm0 => ?_⟩
      · rw [p1 _ (fun h8 => by omega)]
        exact u2 j hj
      · have := s3 i0 hi0 hm0
        rw [eM] at this
        exact this
    · omega
  · have e0 : iM (DM m) 2 = 0 := by omega
    have eg : gmV id φm DM (vN v 30) = vN v 52 := by
      show (oV id φm DM (vN v 30) 2).toInt.toNat = _
      rw [ov 2, if_neg h9, if_neg (by decide), g6, Int.toNat_natCast]
    rcases hM with ⟨t1, t2⟩ | ⟨t0, ma, sl, t1, t2, t3, t4, t5, t6⟩
    · omega
    · have q5 : 0 < qt (DM m) 5 := by omega
      obtain ⟨k1, k2⟩ := g8 q5
      obtain ⟨l1, l2⟩ := hq.ol4 hmo o7
      have b7 := o7.b
      have hif : (if qt (DM m) 5 = 0 then 0 else r7.toInt.toNat) = r7.toInt.toNat := if_neg (by omega)
      rw [hif] at p1 p2
      rw [eg, t1, k2]
      show _ ∧ y7.toInt = (xb_l H' ma 1).toInt ∧ (_ = ((xb_i H' ma 3).toInt.toNat : Int) ∧ ∀ j, j < (xb_i H' ma 3).toInt.toNat → _ = xb_i H' ((xb_r H' ma 2).getD 0) j) ∧ _
      rw [k1, t3, t4, t5, (l2 q5).2, l1, Int.toNat_natCast]
      rw [l1] at t6
      refine ⟨b52, rfl, ⟨by omega, fun j hj => ?_⟩, fun i hi hm9 => ⟨fun h8 => ?_, fun h8 => ?_⟩⟩
      · show Φ 56 (16 * vN v 52 + j) = xb_i H' sl j
        have e1 := p2 j hj
        have e2 := t6 j hj
        rw [z_eq, e1, e2, c1]
      · have := o2 i hi hm9
        omega
      · exfalso
        have h8' : ma = mmA H W i := h8
        obtain ⟨ma', y1⟩ := (hW.2.2.2.2.2.2.1.2.2.2 i hi).2.2.2.2.2.2.2.1 hm9
        have hmO := (hW.2.2.2.2.2.2.1.2.2.2 i hi).2.2.2.2.2.2.2.2 ma' y1
        have e1 : mmA H W i = ma' := by
          unfold mmA
          rw [y1]
          rfl
        rw [e1] at h8'
        subst h8'
        exact ext ma (by rw [hmO.1]; decide) t2
end HV

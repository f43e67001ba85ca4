-- equality: what class and reference hold alike between calls
def gTp (ad : Nat → Nat) (H : xb_H) (ts : Nat) (φ : Nat → Nat → Int32) (ν : Nat → Int32) : Prop := (ν 2).toInt = ts ∧ ∀ j, j < ts → (φ 1 j).toInt = (xb_i H (ad 1) j).toInt
/-- modules -/
def gMd (ad : Nat → Nat) (H : xb_H) (mc : Nat) (M : Nat → mD) (φ : Nat → Nat → Int32) (ν : Nat → Int32) (DM : Nat → zM) : Prop := vN ν 5 = mc ∧ ∀ m, m < mc → ∃ (md b N : Nat) (cA : Nat → Int32) (S : Sm), xb_r H (ad 2) m = some md ∧ DM m = zk b N cA S ∧ ldR cA b N (M m) (xb_i H md) S ∧ dX (M m) = dxF cA b N (dcb (M m)) (dnu (M m)) ∧ moB (M m) ∧ fwd (M m) ∧ ∀ j, j < qt (DM m) 3 → bdF (DM m) j = .ok (φ 12 ((φ 8 (12 * m + 10)).toInt.toNat + j)).toInt
/-- instances and what they own -/
def gWd (ad : Nat → Nat) (H : xb_H) (W : wD) (mc : Nat) (M : Nat → mD) (φ : Nat → Nat → Int32) (ℓ : Nat → Nat → Int64) (ν : Nat → Int32) (DM : Nat → zM) : Prop :=
  (vN ν 30 = wic W ∧ vN ν 43 = wno W ∧ vN ν 58 = wnv W ∧ vN ν 47 = wne W) ∧ (∀ i, i < wic W → (φ 31 i).toInt.toNat < mc ∧ wd W i = M (φ 31 i).toInt.toNat ∧ xb_r H (ad 2) (φ 31 i).toInt.toNat = some (wim W i) ∧ (dn (wd W i) 3 / 3 = 0 → xb_r H (wia W i) 6 = none) ∧ (dn (wd W i) 4 / 3 = 0 → xb_r H (wia W i) 7 = none)) ∧
  stQ H ad W id φ DM (ℓ 55) ∧ wQ ad H W (wnp W) (gmV id φ DM) (ℓ 61, φ 57, φ 54, φ 56, ν 53, ν 88, ℓ 87)
def gNm (ad : Nat → Nat) (H : xb_H) (φ : Nat → Nat → Int32) (ν : Nat → Int32) : Prop := (xb_i H (ad 29) 1).toInt = (3 * vN ν 42 : Nat) ∧ ∀ k, k < vN ν 42 → (φ 40 k).toInt = (xb_l H (ad 30) (3 * k + 1)).toInt ∧ (φ 41 k).toInt = (xb_l H (ad 30) (3 * k + 2)).toInt ∧ ∀ j : Nat, (j : Int) < (xb_l H (ad 30) (3 * k + 1)).toInt → φ 3 ((φ 39 k).toInt.toNat + j) = xb_i H (ad 31) ((xb_l H (ad 30) (3 * k)).toInt.toNat + j)
def gAr (ad : Nat → Nat) (H : xb_H) (ℓ : Nat → Nat → Int64) (ν : Nat → Int32) : Prop := (xb_i H (ad 16) 1).toInt = (ν 66).toInt ∧ ∀ j : Nat, (j : Int) < (ν 66).toInt → ℓ 65 j = xb_l H (ad 17) j
def gFt (ad : Nat → Nat) (H : xb_H) (φ : Nat → Nat → Int32) : Prop := φ 89 0 = xb_i H (ad 0) 9 ∧ φ 89 1 = xb_i H (ad 0) 10
def gRs (ad : Nat → Nat) (H : xb_H) (φ : Nat → Nat → Int32) (y : Int64) : Prop := y = xb_l H (ad 15) 5 ∧ ∀ j, j < 4 → φ 86 j = xb_i H (ad 36) j
/-- what is under way -/
def gRn (ad : Nat → Nat) (H : xb_H) (W : wD) (φ : Nat → Nat → Int32) (ℓ : Nat → Nat → Int64) (ν : Nat → Int32) (DM : Nat → zM) : Prop :=
  (xb_i H (ad 15) 3 = 0 ∧ ν 62 = 0 ∧ ν 68 = 0) ∨ (xb_i H (ad 15) 3 ≠ 0 ∧ ν 62 ≠ 0 ∧ (((ν 63 = 0 ∧ ν 68 = 0) ∧ (xb_i H (ad 15) 4).toInt = 0 ∧ ∃ f : Nat, (xb_i H (ad 15) 8).toInt = f ∧ vf W f ∧ (ν 64).toInt = fmp f ∧ ∀ j, j < (fT W f).1.length → xb_l H (ad 37) j = arV (fPk φ DM (fmp f) j) (ℓ 67 j)) ∨
    (ν 63 ≠ 0 ∧ ν 82 = 0 ∧ ∃ (D : Nat) (gx : Nat → fG) (cs : List cX) (n : Nat), rI ad H W D gx ∧ rSt id φ ν DM cs n ∧ oQ W φ DM (.inl (D, gx, xb_l H (ad 37))) (.inl (cs, n, ℓ 74)))))
def gVm (φ : Nat → Nat → Int32) (ℓ : Nat → Nat → Int64) : Prop := ∀ j, arV (φ 75 j).toInt (ℓ 74 j) = ℓ 74 j
/-- variables: type, changeable; tables: their most -/
def gXt (H : xb_H) (W : wD) (φ : Nat → Nat → Int32) (ℓ : Nat → Nat → Int64) (DM : Nat → zM) : Prop := (∀ i, i < wic W → ∀ k, k < nvr (wd W i) → (φ 59 (vnI H W i k)).toInt = (dvs (wd W i) 5 (4 * k + 1)).toInt ∧ (φ 60 (vnI H W i k)).toInt = (dvs (wd W i) 5 (4 * k + 2)).toInt) ∧ ∀ i, i < wic W → 0 < dn (wd W i) 3 / 3 → (ℓ 50 (oV id φ DM i 1).toInt.toNat).toInt = (xb_l H ((xb_r H (wia W i) 6).getD 0) 2).toInt ∧ -1 ≤ (xb_l H ((xb_r H (wia W i) 6).getD 0) 2).toInt
def gQ (ad : Nat → Nat) (H : xb_H) (W : wD) (mc : Nat) (M : Nat → mD) (ts : Nat) (φ : Nat → Nat → Int32) (ℓ : Nat → Nat → Int64) (ν : Nat → Int32) (y : Int64) (DM : Nat → zM) : Prop :=
  gTp ad H ts φ ν ∧ gMd ad H mc M φ ν DM ∧ gWd ad H W mc M φ ℓ ν DM ∧ gNm ad H φ ν ∧ gAr ad H ℓ ν ∧ gFt ad H φ ∧ gRs ad H φ y ∧ gRn ad H W φ ℓ ν DM ∧ gVm φ ℓ ∧ gXt H W φ ℓ DM
section GQ
variable {own own' ad ad' : Nat → Nat} {H H' : xb_H} {W : wD} {σ mc ts : Nat} {M : Nat → mD} {φ φ' : Nat → Nat → Int32} {ℓ ℓ' : Nat → Nat → Int64} {ν ν' : Nat → Int32} {y : Int64} {DM : Nat → zM}
theorem rI.cg {D : Nat} {gx : Nat → fG} (hr : rI ad H W D gx) (a15 : ad' 15 = ad 15) (a37 : ad' 37 = ad 37) (a38 : ad' 38 = ad 38) (s15 : xh_sm H H' (ad 15)) (s37 : xh_sm H H' (ad 37)) (s38 : xh_sm H H' (ad 38)) (n37 : xb_n H' (ad 37) = xb_n H (ad 37)) : rI ad' H' W D gx := by
  unfold rI mT at *
  rw [a15, a37, a38, s15.1, s15.2.2, s37.2.1, s38.1, n37]
  exact hr
/-- what instances are made of stays -/
theorem smI (hW : wI own ad H W σ) (sm : ∀ a, xb_k H a ≠ 0 → own a = 1 ∨ own a = 50 ∨ own a = 51 → xh_sm H H' a) {i : Nat} (hi : i < wic W) : (∀ k, k < nf (wd W i) → fnI H' W i k = fnI H W i k) ∧ (∀ k, k < nvr (wd W i) → vnI H' W i k = vnI H W i k) ∧ (0 < dn (wd W i) 3 / 3 → tbF H' W i = tbF H W i ∧ tbZ H' W i = tbZ H W i) ∧ xb_r H' (wia W i) = xb_r H (wia W i) ∧ (0 < dn (wd W i) 4 / 3 → mmA H' W i = mmA H W i ∧ mmS H' W i = mmS H W i ∧ mmX H' W i = mmX H W i ∧ mmP H' W i = mmP H W i ∧ xb_i H' (mmS H W i) = xb_i H (mmS H W i)) := by
  have hiO := (hW.2.2.2.2.2.2.1.2.2.2 i hi).2
  obtain ⟨⟨a1, a2, a3, a4, a5⟩, ⟨fa, b1, b2, b3, b4, b5⟩, ⟨va, c1, c2, c3, c4, c5⟩, -, -, ⟨d1, d2⟩, -⟩ := id hiO
  have e1 := (sm _ (by rw [a1]; decide) (.inl a2)).2.2
  have s1 : ∀ a, xb_k H a ≠ 0 → own a = 1 → xh_sm H H' a := fun a ha ho => sm a ha (.inl ho)
  refine ⟨fun k _ => fnI_sm hiO s1, fun k _ => vnI_sm hiO s1, fun ht => ?_, e1, fun hm => ?_⟩
  · obtain ⟨ta, t1⟩ := d1 ht
    obtain ⟨t2, t3, -⟩ := d2 ta t1
    have e4 := (s1 _ (by rw [t2]; decide) t3).1
    unfold tbF tbZ
    rw [e1, t1, Option.getD_some, e4]
    exact ⟨rfl, rfl⟩
  · obtain ⟨m1, -, -, m4, m5, m6, m7, m8, m9, -⟩ := hW.mm hi hm
    have eA : mmA H' W i = mmA H W i := by
      unfold mmA
      rw [e1]
    have sA := sm _ m4 (.inr (.inl m5))
    have sS := sm _ m7 (.inr (.inr m8))
    have eS : mmS H' W i = mmS H W i := by
      unfold mmS
      rw [eA, sA.2.2]
    refine ⟨eA, eS, ?_, ?_, sS.1⟩
    · unfold mmX
      rw [eA, sA.2.1]
    · unfold mmP
      rw [eA, sA.1]
theorem stQ.sm {A : Nat → Nat} {F : Nat → Nat → Int32} {most : Nat → Int64} (hW : wI own ad H W σ) (sm : ∀ a, xb_k H a ≠ 0 → own a = 1 ∨ own a = 50 ∨ own a = 51 → xh_sm H H' a) (a24 : ad' 24 = ad 24) (l24 : xb_l H' (ad 24) = xb_l H (ad 24)) (hs : stQ H ad W A F DM most) : stQ H' ad' W A F DM most := by
  obtain ⟨s1, s2, s3, s4, s5, s6⟩ := hs
  refine ⟨s1, s2, fun i hi => ⟨fun k hk => ?_, fun k hk => ?_⟩, fun i hi ht => ?_, fun e he => ?_, fun i hi hm => ?_⟩
  · rw [(smI hW sm hi).1 k hk]
    exact (s3 i hi).1 k hk
  · rw [(smI hW sm hi).2.1 k hk]
    exact (s3 i hi).2 k hk
  · rw [((smI hW sm hi).2.2.1 ht).1, ((smI hW sm hi).2.2.1 ht).2]
    exact s4 i hi ht
  · rw [a24, l24]
    exact s5 e he
  · obtain ⟨m1, m2, m3⟩ := s6 i hi hm
    obtain ⟨k1, k2, k3, -⟩ := (smI hW sm hi).2.2.2.2 hm
    refine ⟨m1, by rw [k3]; exact m2, fun i9 hi9 hm9 => ?_⟩
    rw [k1, ((smI hW sm hi9).2.2.2.2 hm9).1]
    exact m3 i9 hi9 hm9
theorem wQ.sm {np : Nat} {gm : Nat → Nat} {w : rWd} (hW : wI own ad H W σ) (sm : ∀ a, xb_k H a ≠ 0 → own a = 1 ∨ own a = 50 ∨ own a = 51 → xh_sm H H' a) (a22 : ad' 22 = ad 22) (l22 : xb_l H' (ad 22) = xb_l H (ad 22)) (a26 : ad' 26 = ad 26) (l26 : xb_l H' (ad 26) = xb_l H (ad 26)) (a27 : ad' 27 = ad 27) (i27 : xb_i H' (ad 27) 1 = xb_i H (ad 27) 1) (a28 : ad' 28 = ad 28) (l28 : xb_l H' (ad 28) = xb_l H (ad 28)) (hw : wQ ad H W np gm w) : wQ ad' H' W np gm w := by
  obtain ⟨w1, w2, w4, w5, w6, w7⟩ := hw
  refine ⟨?_, ?_, fun i hi hm => ?_, w5, ?_⟩
  · rw [a22, l22]
    exact w1
  · rw [a26, l26]
    exact w2
  · obtain ⟨k1, k2, k3, k4, k5⟩ := (smI hW sm hi).2.2.2.2 hm
    rw [k4, k2, k5]
    exact w4 i hi hm
  · rw [a27, i27, a28, l28]
    exact ⟨w6, w7⟩
theorem gXt.sm (hW : wI own ad H W σ) (sm : ∀ a, xb_k H a ≠ 0 → own a = 1 → xh_sm H H' a) (hx : gXt H W φ ℓ DM) : gXt H' W φ ℓ DM := by
  refine ⟨fun i hi k hk => ?_, fun i hi ht => ?_⟩
  · rw [vnI_sm (hW.2.2.2.2.2.2.1.2.2.2 i hi).2 sm]
    exact hx.1 i hi k hk
  · obtain ⟨⟨a1, a2, -⟩, -, -, -, -, ⟨d1, d2⟩, -⟩ := (hW.2.2.2.2.2.2.1.2.2.2 i hi).2
    obtain ⟨ta, t1⟩ := d1 ht
    obtain ⟨t2, t3, -⟩ := d2 ta t1
    have := hx.2 i hi ht
    rw [t1, Option.getD_some] at this
    rw [(sm _ (by rw [a1]; decide) a2).2.2, t1, Option.getD_some, (sm _ (by rw [t2]; decide) t3).2.1]
    exact this
theorem gXt.cg (hφ : ∀ k, k ∈ [31, 32, 33, 37, 38, 59, 60] → φ' k = φ k) (h50 : ℓ' 50 = ℓ 50) (hx : gXt H W φ ℓ DM) : gXt H W φ' ℓ' DM := by
  refine ⟨fun i hi k hk => ?_, fun i hi ht => ?_⟩
  · rw [hφ 59 (by decide), hφ 60 (by decide)]
    exact hx.1 i hi k hk
  · have e : oV id φ' DM i 1 = oV id φ DM i 1 := by
      unfold oV
      simp only [id]
      rw [hφ 31 (by decide), hφ 32 (by decide), hφ 33 (by decide), hφ 37 (by decide), hφ 38 (by decide)]
    rw [e, h50]
    exact hx.2 i hi ht
/-- nothing of the class's changed -/
theorem gQ.fz {K : Nat} (hI : cI own ad H W σ ts K) (hM : cMx own ad H mc M) (f : fz own own' H H') (hQ : gQ ad H W mc M ts φ ℓ ν y DM) : gQ ad H' W mc M ts φ ℓ ν y DM := by
  obtain ⟨⟨hB, hW, -⟩, -⟩ := hI
  have sm : ∀ k, k < 41 → xh_sm H H' (ad k) := fun k hk => f.2.2 _ (hB.z k hk) (by rw [hB.o k hk]; omega)
  have s1 : ∀ a, xb_k H a ≠ 0 → own a = 1 ∨ own a = 50 ∨ own a = 51 → xh_sm H H' a := fun a ha ho => f.2.2 a ha (by omega)
  obtain ⟨q1, q2, q3, q4, q5, q6, q7, q8, q9⟩ := hQ
  have n37 : xb_n H' (ad 37) = xb_n H (ad 37) := (f.2.1 _ (hB.z 37 (by decide))).2
  refine ⟨?_, ?_, ?_, ?_, ?_, ?_, ?_, ?_, q9.1, q9.2.sm hW (fun a ha ho => s1 a ha (.inl ho))⟩
  · unfold gTp
    rw [(sm 1 (by decide)).1]
    exact q1
  · refine ⟨q2.1, fun m hm => ?_⟩
    obtain ⟨md, b, N, cA, S, g1, g2, g3, g4⟩ := q2.2 m hm
    refine ⟨md, b, N, cA, S, by rw [(sm 2 (by decide)).2.2]; exact g1, g2, ?_, g4⟩
    obtain ⟨md', m1, m2⟩ := hM.2.2.2 m hm
    rw [g1] at m1
    have e9 := Option.some.inj m1
    subst e9
    rw [(f.2.2 md (by rw [m2.1.1.1]; decide) (by rw [m2.2.2.1]; decide)).1]
    exact g3
  · obtain ⟨c1, c2, c3, c4⟩ := q3
    refine ⟨c1, fun i hi => ?_, c3.sm hW s1 rfl (sm 24 (by decide)).2.1, c4.sm hW s1 rfl (sm 22 (by decide)).2.1 rfl (sm 26 (by decide)).2.1 rfl (by rw [(sm 27 (by decide)).1]) rfl (sm 28 (by decide)).2.1⟩
    rw [(smI hW s1 hi).2.2.2.1, (sm 2 (by decide)).2.2]
    exact c2 i hi
  · unfold gNm
    rw [(sm 29 (by decide)).1, (sm 30 (by decide)).2.1, (sm 31 (by decide)).1]
    exact q4
  · unfold gAr
    rw [(sm 16 (by decide)).1, (sm 17 (by decide)).2.1]
    exact q5
  · unfold gFt
    rw [(sm 0 (by decide)).1]
    exact q6
  · unfold gRs
    rw [(sm 15 (by decide)).2.1, (sm 36 (by decide)).1]
    exact q7
  · unfold gRn
    rw [(sm 15 (by decide)).1, (sm 37 (by decide)).2.1]
    rcases q8 with q8 | ⟨k1, k2, k3⟩
    · exact .inl q8
    · refine .inr ⟨k1, k2, ?_⟩
      rcases k3 with k3 | ⟨k3, k4, D, gx, cs, n, r1, r2⟩
      · exact .inl k3
      · exact .inr ⟨k3, k4, D, gx, cs, n, r1.cg rfl rfl rfl (sm 15 (by decide)) (sm 37 (by decide)) (sm 38 (by decide)) n37, r2⟩
/-- modules, in their order, stay -/
theorem cMx.fz (hB : cB own ad H) (hM : cMx own ad H mc M) (f : fz own own' H H') : cMx own' ad H' mc M := by
  have sm : ∀ k, k < 41 → xh_sm H H' (ad k) := fun k hk => f.2.2 _ (hB.z k hk) (by rw [hB.o k hk]; omega)
  obtain ⟨m1, m2, m3, m4⟩ := hM
  refine ⟨by rw [(f.2.1 _ (hB.z 2 (by decide))).2]; exact m1, by rw [(sm 0 (by decide)).1]; exact m2, m3, fun i hi => ?_⟩
  obtain ⟨md, k1, k2⟩ := m4 i hi
  exact ⟨md, by rw [(sm 2 (by decide)).2.2]; exact k1, k2.fr (fun a ha ho => f.2.2 a ha (by omega)) f.2.1 (fun a ha ho => by rw [f.1 a ha]; exact ho)⟩
theorem cMx.st {C : List Nat} (hB : cB own ad H) (hM : cMx own ad H mc M) (s : stp C [] own ad own' ad' H H') (hC : ∀ k ∈ C, k < 41) (h2 : 2 ∉ C) (i03 : xb_i H' (ad 0) 3 = xb_i H (ad 0) 3) : cMx own' ad' H' mc M := by
  obtain ⟨m1, m2, m3, m4⟩ := hM
  obtain ⟨a2, s2⟩ := s.cm hB hC (fun x hx => by cases hx) (k := 2) (by decide) h2
  have a0 : ad' 0 = ad 0 := s.2.2.2.2.2.2 0 (by decide)
  refine ⟨by rw [a2, (s.2.2.2.1 _ (hB.z 2 (by decide))).2]; exact m1, by rw [a0, i03]; exact m2, m3, fun i hi => ?_⟩
  obtain ⟨md, k1, k2⟩ := m4 i hi
  exact ⟨md, by rw [a2, s2.2.2]; exact k1, k2.st hB s hC (fun x hx => by cases hx)⟩
/-- what a call of the class leaves alone stays alike -/
theorem gQ.st {C : List Nat} {K : Nat} (hI : cI own ad H W σ ts K) (hM : cMx own ad H mc M) (s : stp C [] own ad own' ad' H H') (hC : ∀ k ∈ C, k < 41) (hQ : gQ ad H W mc M ts φ ℓ ν y DM) :
    (1 ∉ C → gTp ad' H' ts φ ν) ∧ (2 ∉ C → gMd ad' H' mc M φ ν DM) ∧ ((∀ k, k ∈ [2, 22, 24, 26, 27, 28] → k ∉ C) → gWd ad' H' W mc M φ ℓ ν DM) ∧ ((∀ k, k ∈ [29, 30, 31] → k ∉ C) → gNm ad' H' φ ν) ∧ ((∀ k, k ∈ [16, 17] → k ∉ C) → gAr ad' H' ℓ ν) ∧ (0 ∉ C → gFt ad' H' φ) ∧ ((∀ k, k ∈ [15, 36] → k ∉ C) → gRs ad' H' φ y) ∧ ((∀ k, k ∈ [15, 37, 38] → k ∉ C) → gRn ad' H' W φ ℓ ν DM) ∧ gVm φ ℓ ∧ gXt H' W φ ℓ DM := by
  obtain ⟨⟨hB, hW, -⟩, -⟩ := hI
  have cm : ∀ k, k < 41 → k ∉ C → ad' k = ad k ∧ xh_sm H H' (ad k) := fun k hk hn => s.cm hB hC (fun x hx => by cases hx) hk hn
  have s1 : ∀ a, xb_k H a ≠ 0 → own a = 1 ∨ own a = 50 ∨ own a = 51 → xh_sm H H' a := fun a ha ho => s.n1 hB hC ha (fun h9 => by cases h9) rfl (by omega)
  obtain ⟨q1, q2, q3, q4, q5, q6, q7, q8, q9⟩ := hQ
  refine ⟨fun h1 => ?_, fun h2 => ?_, fun h3 => ?_, fun h4 => ?_, fun h5 => ?_, fun h6 => ?_, fun h7 => ?_, fun h8 => ?_, q9.1, q9.2.sm hW (fun a ha ho => s1 a ha (.inl ho))⟩
  · obtain ⟨a1, s1⟩ := cm 1 (by decide) h1
    unfold gTp
    rw [a1, s1.1]
    exact q1
  · obtain ⟨a2, s2⟩ := cm 2 (by decide) h2
    refine ⟨q2.1, fun m hm => ?_⟩
    obtain ⟨md, b, N, cA, S, g1, g2, g3, g4⟩ := q2.2 m hm
    obtain ⟨md', m1, m2⟩ := hM.2.2.2 m hm
    rw [g1] at m1
    have e9 := Option.some.inj m1
    subst e9
    refine ⟨md, b, N, cA, S, by rw [a2, s2.2.2]; exact g1, g2, ?_, g4⟩
    rw [(s1 md (by rw [m2.1.1.1]; decide) (.inl m2.2.2.1)).1]
    exact g3
  · obtain ⟨c1, c2, c3, c4⟩ := q3
    obtain ⟨a2, s2⟩ := cm 2 (by decide) (h3 2 (by decide))
    obtain ⟨a22, s22⟩ := cm 22 (by decide) (h3 22 (by decide))
    obtain ⟨a24, s24⟩ := cm 24 (by decide) (h3 24 (by decide))
    obtain ⟨a26, s26⟩ := cm 26 (by decide) (h3 26 (by decide))
    obtain ⟨a27, s27⟩ := cm 27 (by decide) (h3 27 (by decide))
    obtain ⟨a28, s28⟩ := cm 28 (by decide) (h3 28 (by decide))
    refine ⟨c1, fun i hi => ?_, c3.sm hW s1 a24 s24.2.1, c4.sm hW s1 a22 s22.2.1 a26 s26.2.1 a27 (by rw [s27.1]) a28 s28.2.1⟩
    rw [(smI hW s1 hi).2.2.2.1, a2, s2.2.2]
    exact c2 i hi
  · obtain ⟨a29, s29⟩ := cm 29 (by decide) (h4 29 (by decide))
    obtain ⟨a30, s30⟩ := cm 30 (by decide) (h4 30 (by decide))
    obtain ⟨a31, s31⟩ := cm 31 (by decide) (h4 31 (by decide))
    unfold gNm
    rw [a29, a30, a31, s29.1, s30.2.1, s31.1]
    exact q4
  · obtain ⟨a16, s16⟩ := cm 16 (by decide) (h5 16 (by decide))
    obtain ⟨a17, s17⟩ := cm 17 (by decide) (h5 17 (by decide))
    unfold gAr
    rw [a16, a17, s16.1, s17.2.1]
    exact q5
  · obtain ⟨a0, s0⟩ := cm 0 (by decide) h6
    unfold gFt
    rw [a0, s0.1]
    exact q6
  · obtain ⟨a15, s15⟩ := cm 15 (by decide) (h7 15 (by decide))
    obtain ⟨a36, s36⟩ := cm 36 (by decide) (h7 36 (by decide))
    unfold gRs
    rw [a15, a36, s15.2.1, s36.1]
    exact q7
  · obtain ⟨a15, s15⟩ := cm 15 (by decide) (h8 15 (by decide))
    obtain ⟨a37, s37⟩ := cm 37 (by decide) (h8 37 (by decide))
    obtain ⟨a38, s38⟩ := cm 38 (by decide) (h8 38 (by decide))
    have n37 : xb_n H' (ad 37) = xb_n H (ad 37) := (s.2.2.2.1 _ (hB.z 37 (by decide))).2
    unfold gRn
    rw [a15, a37, s15.1, s37.2.1]
    rcases q8 with q8 | ⟨k1, k2, k3⟩
    · exact .inl q8
    · refine .inr ⟨k1, k2, ?_⟩
      rcases k3 with k3 | ⟨k3, k4, D, gx, cs, n, r1, r2⟩
      · exact .inl k3
      · exact .inr ⟨k3, k4, D, gx, cs, n, r1.cg a15 a37 a38 s15 s37 s38 n37, r2⟩
def gAL : List Nat := [1, 3, 6, 8, 10, 12, 31, 32, 33, 35, 36, 37, 38, 39, 40, 41, 44, 45, 48, 49, 51, 54, 56, 57, 59, 60, 69, 70, 71, 72, 73, 75, 77, 78, 79, 80, 86, 89]
def gLL : List Nat := [50, 55, 61, 65, 67, 74, 87]
def gVL : List Nat := [2, 5, 30, 42, 43, 47, 53, 58, 62, 63, 64, 66, 68, 76, 81, 82, 88]
theorem stQ.cgR {A A' : Nat → Nat} {F F' : Nat → Nat → Int32} {most : Nat → Int64} (hk : ∀ k, k ∈ gAL → F' (A' k) = F (A k)) (hs : stQ H ad W A F DM most) : stQ H ad W A' F' DM most := by
  unfold stQ mnV gmV oV at *
  rw [hk 31 (by decide), hk 6 (by decide), hk 10 (by decide), hk 12 (by decide), hk 8 (by decide), hk 44 (by decide), hk 45 (by decide), hk 32 (by decide), hk 33 (by decide), hk 35 (by decide), hk 36 (by decide), hk 37 (by decide), hk 38 (by decide), hk 48 (by decide), hk 49 (by decide), hk 51 (by decide)]
  exact hs
theorem gmV_cgR {A A' : Nat → Nat} {F F' : Nat → Nat → Int32} (hk : ∀ k, k ∈ gAL → F' (A' k) = F (A k)) : gmV A' F' DM = gmV A F DM := by
  funext i
  unfold gmV oV
  rw [hk 31 (by decide), hk 32 (by decide), hk 33 (by decide), hk 37 (by decide), hk 38 (by decide)]
theorem rSt.cgR {cs : List cX} {n : Nat} (hφ : ∀ k, k ∈ gAL → φ' k = φ k) (hν : ∀ j, j ∈ gVL → ν' j = ν j) (hr : rSt id φ ν DM cs n) : rSt id φ' ν' DM cs n := by
  obtain ⟨r1, r2, r3⟩ := hr
  refine ⟨by rw [hν 68 (by decide)]; exact r1, fun e => by rw [hν 76 (by decide)]; exact r2 e, fun e => ?_⟩
  obtain ⟨top, opens, k1, k2, k3⟩ := r3 e
  refine ⟨top, opens, by rw [hν 76 (by decide)]; exact k1, by rw [hν 81 (by decide)]; exact k2, ?_⟩
  refine RC.fr (φ := fun k => φ (id k)) (ν := ν) (hφ 31 (by decide)) (hφ 44 (by decide)) (hφ 45 (by decide)) (by unfold vN; rw [hν 43 (by decide)]) (fun k hk j _ => ?_) (fun j _ => ?_) (fun k hk j _ => ?_) k3
  · have : k ∈ gAL := (by decide : ∀ k, k ∈ [69, 70, 71, 72, 73] → k ∈ gAL) k hk
    exact congrFun (hφ k this) j
  · exact congrFun (hφ 75 (by decide)) j
  · have : k ∈ gAL := (by decide : ∀ k, k ∈ [77, 78, 79, 80] → k ∈ gAL) k hk
    exact congrFun (hφ k this) j
/-- the reference's other numbers -/
theorem gQ.cgR (hφ : ∀ k, k ∈ gAL → φ' k = φ k) (hℓ : ∀ k, k ∈ gLL → ℓ' k = ℓ k) (hν : ∀ j, j ∈ gVL → ν' j = ν j) (hQ : gQ ad H W mc M ts φ ℓ ν y DM) : gQ ad H W mc M ts φ' ℓ' ν' y DM := by
  obtain ⟨q1, q2, q3, q4, q5, q6, q7, q8, q9⟩ := hQ
  have vn : ∀ j, j ∈ gVL → vN ν' j = vN ν j := fun j hj => by unfold vN; rw [hν j hj]
  refine ⟨?_, ?_, ?_, ?_, ?_, ?_, ?_, ?_, ?_⟩
  · unfold gTp
    rw [hν 2 (by decide), hφ 1 (by decide)]
    exact q1
  · unfold gMd
    rw [vn 5 (by decide), hφ 12 (by decide), hφ 8 (by decide)]
    exact q2
  · obtain ⟨c1, c2, c3, c4⟩ := q3
    have hk : ∀ k, k ∈ gAL → φ' (id k) = φ (id k) := hφ
    refine ⟨by rw [vn 30 (by decide), vn 43 (by decide), vn 58 (by decide), vn 47 (by decide)]; exact c1, by rw [hφ 31 (by decide)]; exact c2, by rw [hℓ 55 (by decide)]; exact c3.cgR hk, ?_⟩
    rw [gmV_cgR hk, hℓ 61 (by decide), hφ 57 (by decide), hφ 54 (by decide), hφ 56 (by decide), hν 53 (by decide), hν 88 (by decide), hℓ 87 (by decide)]
    exact c4
  · unfold gNm
    rw [vn 42 (by decide), hφ 40 (by decide), hφ 41 (by decide), hφ 39 (by decide), hφ 3 (by decide)]
    exact q4
  · unfold gAr
    rw [hν 66 (by decide), hℓ 65 (by decide)]
    exact q5
  · unfold gFt
    rw [hφ 89 (by decide)]
    exact q6
  · unfold gRs
    rw [hφ 86 (by decide)]
    exact q7
  · unfold gRn
    rw [hν 62 (by decide), hν 63 (by decide), hν 64 (by decide), hν 68 (by decide), hν 82 (by decide), hℓ 67 (by decide), hℓ 74 (by decide)]
    rcases q8 with q8 | ⟨k1, k2, k3⟩
    · exact .inl q8
    · refine .inr ⟨k1, k2, ?_⟩
      rcases k3 with ⟨k3, k4, f, k5, k6, k7, k8⟩ | ⟨k3, k4, D, gx, cs, n, r1, r2, r3⟩
      · refine .inl ⟨k3, k4, f, k5, k6, k7, fun j hj => ?_⟩
        rw [fPk.st (hφ 31 (by decide)) (hφ 44 (by decide)) (hφ 45 (by decide))]
        exact k8 j hj
      · exact .inr ⟨k3, k4, D, gx, cs, n, r1, r2.cgR hφ hν, r3.cgF (hφ 31 (by decide)) (hφ 44 (by decide))⟩
  · refine ⟨?_, q9.2.cg (fun k hk => hφ k ((by decide : ∀ k, k ∈ [31, 32, 33, 37, 38, 59, 60] → k ∈ gAL) k hk)) (hℓ 50 (by decide))⟩
    unfold gVm
    rw [hφ 75 (by decide), hℓ 74 (by decide)]
    exact q9.1
end GQ

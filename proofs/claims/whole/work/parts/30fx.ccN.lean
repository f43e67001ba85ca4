-- the class from outside: load
section HO5L
variable {own own' own2 ad ad' : Nat → Nat} {h h' h2 : xb_H} {W W' : wD} {σ ts ts' K rc rs bc bs bc' bs' : Nat}
theorem ho_load {Qr : Int32 → xb_H → Nat → Nat → Prop} {Qt : String → xb_H → Nat → Nat → Prop} (hI : cI own ad h W σ ts (K + 1)) (hg : cG ad h W ts (K + 1) rc rs bc bs) {mc : Nat} {M : Nat → mD} {cA : Nat → Int32} {b0 : Nat} (hM : cMx own ad h mc M) (hcA : ∀ j, j < ts → xb_i h (ad 1) j = cA (b0 + j)) (hcAr : ∀ j, -128 ≤ (cA j).toInt ∧ (cA j).toInt ≤ 127)
    (hQ1 : ∀ (h' : xb_H) (own' ad' : Nat → Nat) (md : Nat) (d : mD) (v : Int32) (bc' bs' : Nat) (S' : Sm), mc < 64 → ldP own ad own' ad' h h' → mo own' h' md d → xb_r h' (ad 2) = va_up (xb_r h (ad 2)) mc (some md) → v.toInt = mc → ldO cA b0 ts = .ok S' → ldR cA b0 ts d (xb_i h' md) S' → dX d = dxF cA b0 ts (dcb d) (dnu d) → moB d → fwd d → (xb_i h' (ad 0) 9 = 0 ∧ xb_i h' (ad 0) 10 = 0) → cMx own' ad' h' (mc + 1) (va_up M mc d) → cI own' ad' h' W σ 0 K → cG ad' h' W 0 K rc rs bc' bs' → Qr v h' bc' bs')
    (hQ2 : ∀ (h' : xb_H) (own' ad' : Nat → Nat) (bc' bs' : Nat) (Fl : Nat × Nat), mc < 64 → ldP own ad own' ad' h h' → xb_r h' (ad 2) = xb_r h (ad 2) → ldO cA b0 ts = .error Fl → (xb_i h' (ad 0) 9).toInt = Fl.1 → (xb_i h' (ad 0) 10).toInt + b0 = Fl.2 → cMx own' ad' h' mc M → cI own' ad' h' W σ 0 K → cG ad' h' W 0 K rc rs bc' bs' → Qr (-1) h' bc' bs')
    (hQt : mc = 64 → Qt "java/lang/IllegalStateException" h (bc - 1) (bs - 6)) : w_H_load (ad 0) h bc bs Qr Qt := by
  obtain ⟨⟨hB, hW, hS, hr, hf⟩, ⟨t1, t2, t3, t4, t5⟩, -, ⟨r1, r2, r3⟩, ⟨na, a1, a2⟩, n1, n2, n3, n4⟩ := id hI
  obtain ⟨m1, m2, m3, m4⟩ := id hM
  -- the invariant, from what load leaves
  have fin : ∀ (h' : xb_H) (own' ad' : Nat → Nat) (bc' bs' : Nat), ldP own ad own' ad' h h' → cMd own' ad' h' → rc + (tP (xb_n h (ad 1)) / 8 + nP (xb_n h (ad 31)) / 8 + 245 * K + 6 * (25 - wic W)) + vP (xb_n h (ad 37)) / 8 + s9 (fun r => rP h ad r / 8) ≤ bc' → rs + (tP (xb_n h (ad 1)) + nP (xb_n h (ad 31)) + 3020 * K + 19000 * (25 - wic W)) + vP (xb_n h (ad 37)) + s9 (rP h ad) ≤ bs' → cI own' ad' h' W σ 0 K ∧ cG ad' h' W 0 K rc rs bc' bs' := by
    intro h' own' ad' bc' bs' hl hM g1 g2
    obtain ⟨l1, l2, l3, l4, l5, l6, l7⟩ := hl
    have cm : ∀ k, k < 41 → (14 ≤ k ∨ k = 1) → xh_sm h h' (ad k) := fun k hk h9 => l5 _ (hB.z k hk) (fun j hj hj1 => hB.ne hk (by omega) (by omega))
    have nn : ∀ k, k < 41 → k ≠ 6 → xb_n h' (ad' k) = xb_n h (ad k) := fun k hk h9 => by rw [l2 k h9]; exact (l4 _ (hB.z k hk)).2
    have hW' : wI own' ad' h' W σ := hW.fr hB (fun a ha h9 => l5 a ha (fun k hk hk1 e => by
      rw [e, hB.o k (by omega)] at h9
      unfold wtg at h9
      omega)) l4 l3 (fun k hk => l2 k (by omega))
    have hS' : mS ad' h' := by
      obtain ⟨S1, S2, S3, S4⟩ := hS
      unfold mS
      rw [nn 36 (by omega) (by omega), nn 37 (by omega) (by omega), nn 38 (by omega) (by omega)]
      exact ⟨S1, S2, S3, S4⟩
    have hr' : rS ad' h' W := hr.cg (l2 15 (by omega)) (l2 37 (by omega)) (l2 38 (by omega)) (cm 15 (by omega) (by omega)) (cm 37 (by omega) (by omega)) (cm 38 (by omega) (by omega)) (l4 _ (hB.z 37 (by omega))).2
    have hf' : fI ad' h' := ⟨by rw [l2 39 (by omega)]; exact hf.1.sm (cm 39 (by omega) (by omega)) l4, by rw [l2 40 (by omega)]; exact hf.2.sm (cm 40 (by omega) (by omega)) l4⟩
    refine ⟨⟨⟨l1, hW', hS', hr', hf'⟩, ⟨by rw [l2 0 (by omega)]; exact l6, by omega, by rw [nn 1 (by omega) (by omega)]; exact t3, by rw [nn 1 (by omega) (by omega)]; exact t4, fun j => by rw [l2 1 (by omega), (cm 1 (by omega) (by omega)).1]; exact t5 j⟩, hM, ⟨by rw [nn 4 (by omega) (by omega)]; exact r1, l7, fun k hk => by rw [nn (k + 7) (by omega) (by omega)]; exact r3 k hk⟩, ⟨na, ?_, a2⟩, ?_, ?_, by rw [nn 31 (by omega) (by omega)]; exact n3, by rw [nn 31 (by omega) (by omega)]; exact n4⟩, ?_⟩
    · rw [l2 16 (by omega), l2 17 (by omega)]
      exact a1.fr (cm 16 (by omega) (by omega)) l4
    · rw [l2 29 (by omega), (cm 29 (by omega) (by omega)).1]
      omega
    · rw [l2 14 (by omega), (cm 14 (by omega) (by omega)).1]
      omega
    · have e0 : ∀ r ∈ rwl, rP h' ad' r = rP h ad r := fun r hr => by
        have h8 : ∀ r ∈ rwl, r + 1 < 41 ∧ r + 1 ≠ 6 := by decide
        obtain ⟨x1, x2⟩ := h8 r hr
        unfold rP
        rw [nn _ x1 x2]
      have e1 : s9 (rP h' ad') = s9 (rP h ad) := by
        unfold s9
        rw [e0 _ (by decide), e0 _ (by decide), e0 _ (by decide), e0 _ (by decide), e0 _ (by decide), e0 _ (by decide), e0 _ (by decide), e0 _ (by decide), e0 _ (by decide)]
      have e2 : s9 (fun r => rP h' ad' r / 8) = s9 (fun r => rP h ad r / 8) := by
        unfold s9
        dsimp only
        rw [e0 _ (by decide), e0 _ (by decide), e0 _ (by decide), e0 _ (by decide), e0 _ (by decide), e0 _ (by decide), e0 _ (by decide), e0 _ (by decide), e0 _ (by decide)]
      unfold cG bgv bg xC xS
      rw [e1, e2, nn 1 (by omega) (by omega), nn 31 (by omega) (by omega), nn 37 (by omega) (by omega)]
      omega
  have hgu : bg ad h (rc + xC ad h W ts (K + 1) + vP (xb_n h (ad 37)) / 8) (rs + xS ad h W ts (K + 1) + vP (xb_n h (ad 37))) bc bs := hg
  obtain ⟨u1, u2⟩ := hgu
  unfold xC at u1
  unfold xS at u2
  have mofr : ∀ (h' : xb_H) (own' ad' : Nat → Nat), ldP own ad own' ad' h h' → ∀ (md : Nat) (d : mD), mo own h md d → mo own' h' md d := by
    intro h' own' ad' hl md d hm
    obtain ⟨l1, l2, l3, l4, l5, l6, l7⟩ := hl
    exact hm.fr (fun a g1 g2 => l5 a g1 (fun k hk _ => hB.n1 (by omega) g2)) l4 (fun a g1 g2 => by rw [l3 a g1]; exact g2)
  refine sz_load (dxF cA b0 ts) (cA := cA) (b0 := b0) (rc := rc + (tP (xb_n h (ad 1)) / 8 + nP (xb_n h (ad 31)) / 8 + 245 * K + 6 * (25 - wic W)) + vP (xb_n h (ad 37)) / 8 + s9 (fun r => rP h ad r / 8)) (rs := rs + (tP (xb_n h (ad 1)) + nP (xb_n h (ad 31)) + 3020 * K + 19000 * (25 - wic W)) + vP (xb_n h (ad 37)) + s9 (rP h ad)) hB m2 m3 m1 t1 t2 t4 t5 r1 r2 r3 (by omega) (by omega) hcA hcAr (fun h' own' ad' md d v bc' bs' hl j1 j2 j3 j4 j5 j6 j7 S' jo jr jx z9 z10 => ?_) (fun h' own' ad' bc' bs' h64 hl j1 j2 j3 j4 Fl jo z9 z10 => ?_) hQt
  · have hMx : cMx own' ad' h' (mc + 1) (va_up M mc d) := by
      refine ⟨by rw [hl.2.1 2 (by omega)]; rw [(hl.2.2.2.1 _ (hB.z 2 (by omega))).2]; exact m1, by rw [hl.2.1 0 (by omega)]; exact j4, by omega, fun i hi => ?_⟩
      rw [hl.2.1 2 (by omega), j3, xh_up, xh_up]
      split
      · exact ⟨md, rfl, j2⟩
      · obtain ⟨md2, y1, y2⟩ := m4 i (by omega)
        exact ⟨md2, y1, mofr h' own' ad' hl md2 _ y2⟩
    obtain ⟨u1, u2⟩ := fin h' own' ad' bc' bs' hl ⟨hMx.1, mc + 1, hMx.2.1, hMx.2.2.1, fun i hi => by obtain ⟨md2, y1, y2⟩ := hMx.2.2.2 i hi; exact ⟨md2, _, y1, y2⟩⟩ j6 j7
    exact hQ1 h' own' ad' md d v bc' bs' S' j1 hl j2 j3 j5 jo jr jx (jr.moB j2 jx) (dxF.fwd jx) ⟨z9, z10⟩ hMx u1 u2
  · have hMx : cMx own' ad' h' mc M := by
      refine ⟨by rw [hl.2.1 2 (by omega)]; rw [(hl.2.2.2.1 _ (hB.z 2 (by omega))).2]; exact m1, by rw [hl.2.1 0 (by omega), j2]; exact m2, m3, fun i hi => ?_⟩
      obtain ⟨md2, y1, y2⟩ := m4 i hi
      exact ⟨md2, by rw [hl.2.1 2 (by omega), j1]; exact y1, mofr h' own' ad' hl md2 _ y2⟩
    obtain ⟨u1, u2⟩ := fin h' own' ad' bc' bs' hl ⟨hMx.1, mc, hMx.2.1, hMx.2.2.1, fun i hi => by obtain ⟨md2, y1, y2⟩ := hMx.2.2.2 i hi; exact ⟨md2, _, y1, y2⟩⟩ j3 j4
    exact hQ2 h' own' ad' bc' bs' Fl h64 hl j1 jo z9 z10 hMx u1 u2
end HO5L

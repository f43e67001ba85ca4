-- equality: load
section HG
variable {own own' ad ad' : Nat → Nat} {H H' : xb_H} {W : wD} {σ mc mc' ts K len : Nat} {M M' : Nat → mD} {φ φ' : Nat → Nat → Int32} {ℓ ℓ' : Nat → Nat → Int64} {ν ν' : Nat → Int32} {y y' : Int64} {DM DM' : Nat → zM} {most : Nat → Int64} {gx : Nat → fG}
theorem gRn.sm (a15 : ad' 15 = ad 15) (a37 : ad' 37 = ad 37) (a38 : ad' 38 = ad 38) (s15 : xh_sm H H' (ad 15)) (s37 : xh_sm H H' (ad 37)) (s38 : xh_sm H H' (ad 38)) (n37 : xb_n H' (ad 37) = xb_n H (ad 37)) (q8 : gRn ad H W φ ℓ ν DM) : gRn ad' H' W φ ℓ ν DM := by
  unfold gRn
  rw [a15, a37, s15.1, s37.2.1]
  rcases q8 with q8 | ⟨k1, k2, k3⟩
  · exact .inl q8
  · refine .inr ⟨k1, k2, ?_⟩
    rcases k3 with k3 | ⟨k3, k4, D, gx, cs, n, r1, r2⟩
    · exact .inl k3
    · exact .inr ⟨k3, k4, D, gx, cs, n, r1.cg a15 a37 a38 s15 s37 s38 n37, r2⟩
theorem ldP.cm (hl : ldP own ad own' ad' H H') (hB : cB own ad H) {k : Nat} (hk : k < 41) (h14 : 14 ≤ k ∨ k = 1) : ad' k = ad k ∧ xh_sm H H' (ad k) :=
  ⟨hl.2.1 k (by omega), hl.2.2.2.2.1 _ (hB.z k hk) (fun j hj hne => hB.ne hk (by omega) (by omega))⟩
theorem ldP.n1 (hl : ldP own ad own' ad' H H') (hB : cB own ad H) {a t : Nat} (ha : xb_k H a ≠ 0) (ho : own a = t) (ht : t < 2 ∨ 42 < t) : xh_sm H H' a :=
  hl.2.2.2.2.1 a ha (fun j hj _ => hB.nk (by omega) ho ht)
theorem ldP.hR (hl : ldP own ad own' ad' H H') (hB : cB own ad H) : hR own own' H H' := ⟨hl.2.2.1, hl.2.2.2.1, fun a ha ho => hl.n1 hB ha rfl (by omega)⟩
/-- what a load leaves alone stays alike -/
theorem gQ.ld (hI : cI own ad H W σ ts K) (hM : cMx own ad H mc M) (hQ : gQ ad H W mc M ts φ ℓ ν y DM) (hl : ldP own ad own' ad' H H') (hr2 : ∀ m, m < mc → xb_r H' (ad 2) m = xb_r H (ad 2) m) (hM' : ∀ m, m < mc → M' m = M m) (hmc : mc ≤ mc') (h2 : W2 φ ν len DM) (h3 : W3 φ ν DM) (h4 : W4 φ ν DM) (h43 : vN ν 43 ≤ 8192)
    (hag : agr φ φ' (vN ν 5) (vN ν 4) (vN ν 13)) (hrow : ∀ k, k ∈ ldk → φ' k = φ k) (hℓ : ∀ k, k ∈ [50, 55, 61, 65, 67, 74, 87] → ℓ' k = ℓ k) (hν : ∀ j, j ∉ ldv → j ≠ 5 → ν' j = ν j) (h5 : vN ν 5 ≤ vN ν' 5) (hDM : ∀ m, m < vN ν 5 → DM' m = DM m) (hy : y' = y) :
    gWd ad' H' W mc' M' φ' ℓ' ν' DM' ∧ gNm ad' H' φ' ν' ∧ gAr ad' H' ℓ' ν' ∧ gRs ad' H' φ' y' ∧ gRn ad' H' W φ' ℓ' ν' DM' ∧ (gVm φ' ℓ' ∧ gXt H' W φ' ℓ' DM') ∧ ∀ m, m < mc → ∃ (md b N : Nat) (cA : Nat → Int32) (S : Sm), xb_r H' (ad' 2) m = some md ∧ DM' m = zk b N cA S ∧ ldR cA b N (M' m) (xb_i H' md) S ∧ dX (M' m) = dxF cA b N (dcb (M' m)) (dnu (M' m)) ∧ moB (M' m) ∧ fwd (M' m) ∧ ∀ j, j < qt (DM' m) 3 → bdF (DM' m) j = .ok (φ' 12 ((φ' 8 (12 * m + 10)).toInt.toNat + j)).toInt := by
  obtain ⟨⟨hB, hW, -⟩, -⟩ := hI
  obtain ⟨q1, q2, ⟨⟨c1, c2, c3, c4⟩, q3b, q3c, q3d⟩, q4, q5, q6, q7, q8, q9⟩ := hQ
  have e5 : vN ν 5 = mc := q2.1
  have vn : ∀ j, j ∉ ldv → j ≠ 5 → vN ν' j = vN ν j := fun j h1 h9 => by unfold vN; rw [hν j h1 h9]
  have a2 : ad' 2 = ad 2 := hl.2.1 2 (by decide)
  have s1 : ∀ a, xb_k H a ≠ 0 → own a = 1 ∨ own a = 50 ∨ own a = 51 → xh_sm H H' a := fun a ha ho => hl.n1 hB ha rfl (by omega)
  have e31 : φ' 31 = φ 31 := hrow 31 (by decide)
  have rm : ∀ m, m < mc → ∀ b, b < qt (DM m) 3 → φ' 12 ((φ' 8 (12 * m + 10)).toInt.toNat + b) = φ 12 ((φ 8 (12 * m + 10)).toInt.toNat + b) := fun m hm b hb => by
    obtain ⟨-, r1, -, r3, -⟩ := h2 m (by omega)
    have h103 : qt (DM m) 10 = qt (DM m) 3 := r1.2.2.2.2
    have r4 := r3 10 (by decide) (by omega)
    rw [(hag.2.2.1 (12 * m + 10) (by omega)).1]
    exact (hag.2.2.2.2 _ (by unfold aV at r4; omega)).2
  have gm : ∀ i, i < wic W → gmV id φ' DM' i = gmV id φ DM i := fun i hi => by
    unfold gmV
    rw [oV_ld (fun k hk => hrow k ((by decide : ∀ k, k ∈ [31, 32, 33, 35, 36, 37, 38] → k ∈ ldk) k hk)) (hDM _ (by have := (q3b i hi).1; omega))]
  refine ⟨⟨⟨by rw [vn 30 (by decide) (by decide)]; exact c1, by rw [vn 43 (by decide) (by decide)]; exact c2, by rw [vn 58 (by decide) (by decide)]; exact c3, by rw [vn 47 (by decide) (by decide)]; exact c4⟩, fun i hi => ?_, ?_, ?_⟩, ⟨?_, fun k hk => ?_⟩, ?_, ?_, ?_, ?_, fun m hm => ?_⟩
  · obtain ⟨d1, d2, d3, d4⟩ := q3b i hi
    rw [e31, (smI hW s1 hi).2.2.2.1, a2, hr2 _ d1, hM' _ d1]
    exact ⟨by omega, d2, d3, d4⟩
  · obtain ⟨a24, s24⟩ := hl.cm hB (k := 24) (by decide) (by omega)
    rw [hℓ 55 (by decide)]
    refine (q3c.sm hW s1 a24 s24.2.1).ld (fun k hk => hrow k ((by decide : ∀ k, k ∈ [31, 32, 33, 35, 36, 37, 38, 44, 45, 48, 49, 51] → k ∈ ldk) k hk)) (fun i hi => hDM _ (by have := (q3b i hi).1; omega)) (fun i hi => ?_)
    have d1 := (q3b i hi).1
    exact ⟨(hag.2.1 _ (by omega)).1, hag.2.2.2.1 _ (by omega), rm _ d1⟩
  · obtain ⟨a22, s22⟩ := hl.cm hB (k := 22) (by decide) (by omega)
    obtain ⟨a26, s26⟩ := hl.cm hB (k := 26) (by decide) (by omega)
    obtain ⟨a27, s27⟩ := hl.cm hB (k := 27) (by decide) (by omega)
    obtain ⟨a28, s28⟩ := hl.cm hB (k := 28) (by decide) (by omega)
    rw [hℓ 61 (by decide), hrow 57 (by decide), hrow 54 (by decide), hrow 56 (by decide), hν 53 (by decide) (by decide), hν 88 (by decide) (by decide), hℓ 87 (by decide)]
    exact wQ.gm gm (q3d.sm hW s1 a22 s22.2.1 a26 s26.2.1 a27 (by rw [s27.1]) a28 s28.2.1)
  · obtain ⟨a29, s29⟩ := hl.cm hB (k := 29) (by decide) (by omega)
    rw [a29, s29.1, vn 42 (by decide) (by decide)]
    exact q4.1
  · obtain ⟨a30, s30⟩ := hl.cm hB (k := 30) (by decide) (by omega)
    obtain ⟨a31, s31⟩ := hl.cm hB (k := 31) (by decide) (by omega)
    rw [vn 42 (by decide) (by decide)] at hk
    obtain ⟨g1, g2, g3⟩ := q4.2 k hk
    obtain ⟨nf, ns, no, k1, k2, k3, k4, k5⟩ := h4.2.2.2.2.2.2 k hk
    rw [a30, s30.2.1, a31, s31.1, hrow 39 (by decide), hrow 40 (by decide), hrow 41 (by decide)]
    refine ⟨g1, g2, fun j hj => ?_⟩
    rw [hag.1 _ (by omega)]
    exact g3 j hj
  · obtain ⟨a16, s16⟩ := hl.cm hB (k := 16) (by decide) (by omega)
    obtain ⟨a17, s17⟩ := hl.cm hB (k := 17) (by decide) (by omega)
    unfold gAr
    rw [a16, a17, s16.1, s17.2.1, hℓ 65 (by decide), hν 66 (by decide) (by decide)]
    exact q5
  · obtain ⟨a15, s15⟩ := hl.cm hB (k := 15) (by decide) (by omega)
    obtain ⟨a36, s36⟩ := hl.cm hB (k := 36) (by decide) (by omega)
    unfold gRs
    rw [a15, a36, s15.2.1, s36.1, hrow 86 (by decide), hy]
    exact q7
  · obtain ⟨a15, s15⟩ := hl.cm hB (k := 15) (by decide) (by omega)
    obtain ⟨a37, s37⟩ := hl.cm hB (k := 37) (by decide) (by omega)
    obtain ⟨a38, s38⟩ := hl.cm hB (k := 38) (by decide) (by omega)
    have n37 : xb_n H' (ad 37) = xb_n H (ad 37) := (hl.2.2.2.1 _ (hB.z 37 (by decide))).2
    refine (q8.sm a15 a37 a38 s15 s37 s38 n37).gr ?_ h3 h4 h43 c2 (fun k hk => hrow k ((by decide : ∀ k, k ∈ runA → k ∈ ldk) k hk)) (hℓ 67 (by decide)) (hℓ 74 (by decide)) (fun j hj => ?_)
    · refine ⟨fun k hk => ?_, hDM, fun k hk i _ => ?_, fun j _ => ?_, fun f _ => ?_, fun g _ => ?_⟩
      · by_cases h9 : k = 5
        · rw [h9]
          exact h5
        · rw [vn k ((by decide : ∀ k, k ∈ [5, 30, 34, 43, 46, 52, 58] → k ∉ ldv) k hk) h9]
          exact Nat.le_refl _
      · rw [hrow k ((by decide : ∀ k, k ∈ [31, 32, 35, 36, 37, 38] → k ∈ ldk) k hk)]
      · rw [hrow 33 (by decide)]
      · rw [hrow 44 (by decide), hrow 45 (by decide)]
        exact ⟨rfl, rfl⟩
      · rw [hrow 59 (by decide)]
    · have := (by decide : ∀ j, j ∈ [62, 63, 64, 68, 76, 81, 82] → j ∉ ldv ∧ j ≠ 5) j hj
      exact hν j this.1 this.2
  · have x9 := q9.2.sm hW (fun a ha ho => s1 a ha (.inl ho))
    refine ⟨?_, fun i hi k hk => ?_, fun i hi ht => ?_⟩
    · unfold gVm
      rw [hrow 75 (by decide), hℓ 74 (by decide)]
      exact q9.1
    · rw [hrow 59 (by decide), hrow 60 (by decide)]
      exact x9.1 i hi k hk
    · rw [oV_ld (fun k hk => hrow k ((by decide : ∀ k, k ∈ [31, 32, 33, 35, 36, 37, 38] → k ∈ ldk) k hk)) (hDM _ (by have := (q3b i hi).1; omega)), hℓ 50 (by decide)]
      exact x9.2 i hi ht
  · obtain ⟨md, b, N, cA, S, g1, g2, g3, g4, g5, g6, g7⟩ := q2.2 m hm
    obtain ⟨md', m1, m2⟩ := hM.2.2.2 m hm
    rw [g1] at m1
    have e9 := Option.some.inj m1
    subst e9
    refine ⟨md, b, N, cA, S, by rw [a2, hr2 m hm]; exact g1, by rw [hDM m (by omega)]; exact g2, ?_, ?_⟩
    · rw [hM' m hm, (hl.n1 hB (by rw [m2.1.1.1]; decide) m2.2.2.1 (by omega)).1]
      exact g3
    · rw [hM' m hm, hDM m (by omega)]
      refine ⟨g4, g5, g6, fun j hj => ?_⟩
      rw [rm m hm j hj]
      exact g7 j hj
end HG

-- equality: instantiate, what was there stays in the reference
/-- rows of what was there stay; above, anything -/
def iRf (φ : Nat → Nat → Int32) (ℓ : Nat → Nat → Int64) (ν : Nat → Int32) (φ' : Nat → Nat → Int32) (ℓ' : Nat → Nat → Int64) (ν' : Nat → Int32) : Prop :=
  (∀ k, k ∈ gAL → k ∉ [31, 32, 33, 35, 36, 37, 38, 48, 49, 54, 59, 60, 89] → φ' k = φ k) ∧ (∀ k, k ∈ [31, 32, 35, 36, 37, 38] → ∀ j, j < vN ν 30 → φ' k j = φ k j) ∧ (∀ j, j < vN ν 34 → φ' 33 j = φ 33 j) ∧ (∀ t, t < vN ν 46 → φ' 48 t = φ 48 t ∧ φ' 49 t = φ 49 t ∧ ℓ' 50 t = ℓ 50 t) ∧ (∀ t, t < vN ν 52 → φ' 54 t = φ 54 t ∧ ℓ' 55 t = ℓ 55 t) ∧ (∀ g, g < vN ν 58 → φ' 59 g = φ 59 g ∧ φ' 60 g = φ 60 g ∧ ℓ' 61 g = ℓ 61 g) ∧ (∀ k, k ∈ [65, 67, 74, 87] → ℓ' k = ℓ k) ∧ ∀ j, j ∈ gVL → ν' j = ν j
section HP
variable {own own' ad ad' : Nat → Nat} {H H' : xb_H} {W : wD} {σ mc ts i k κ : Nat} {M : Nat → mD} {φ φ' : Nat → Nat → Int32} {ℓ ℓ' : Nat → Nat → Int64} {ν ν' : Nat → Int32} {y y' : Int64} {DM : Nat → zM}
/-- what a table, a memory, a variable of an instance may be -/
theorem W3.o1 (h3 : W3 φ ν DM) (hi : i < vN ν 30) (ht : 0 < iM (DM (φ 31 i).toInt.toNat) 1 + qt (DM (φ 31 i).toInt.toNat) 4) : (oV id φ DM i 1).toInt.toNat < vN ν 46 := by
  obtain ⟨m, ip, ofn, ov, ot, om, ⟨d1, d2, d3, d4, d5, d6⟩, ⟨e1, e2, e3, e4, e5, e6⟩, -, -, hr⟩ := h3 i hi
  unfold oV
  show (if 0 < iM (DM (φ 31 i).toInt.toNat) 1 then φ 33 ((φ 32 i).toInt.toNat + ikx (DM (φ 31 i).toInt.toNat) 1 (qt (DM (φ 31 i).toInt.toNat) 2) 0) else if 1 = 1 then φ 37 i else φ 38 i).toInt.toNat < vN ν 46
  rw [d1, Int.toNat_natCast] at ht ⊢
  rw [d2, Int.toNat_natCast]
  by_cases h9 : 0 < iM (DM m) 1
  · rw [if_pos h9]
    obtain ⟨g1, g2, g3⟩ := ikx_f (D := DM m) (κ := 1) (n := qt (DM m) 2) h9
    obtain ⟨t, t1, t2⟩ := (hr _ g1).2.1 g2
    rw [t1]
    exact t2
  · rw [if_neg h9, if_pos rfl, d5]
    exact e5 (by omega)
theorem W3.o2 (h3 : W3 φ ν DM) (hi : i < vN ν 30) (ht : 0 < iM (DM (φ 31 i).toInt.toNat) 2 + qt (DM (φ 31 i).toInt.toNat) 5) : gmV id φ DM i < vN ν 52 := by
  obtain ⟨m, ip, ofn, ov, ot, om, ⟨d1, d2, d3, d4, d5, d6⟩, ⟨e1, e2, e3, e4, e5, e6⟩, -, -, hr⟩ := h3 i hi
  unfold gmV oV
  show (if 0 < iM (DM (φ 31 i).toInt.toNat) 2 then φ 33 ((φ 32 i).toInt.toNat + ikx (DM (φ 31 i).toInt.toNat) 2 (qt (DM (φ 31 i).toInt.toNat) 2) 0) else if 2 = 1 then φ 37 i else φ 38 i).toInt.toNat < vN ν 52
  rw [d1, Int.toNat_natCast] at ht ⊢
  rw [d2, Int.toNat_natCast]
  by_cases h9 : 0 < iM (DM m) 2
  · rw [if_pos h9]
    obtain ⟨g1, g2, g3⟩ := ikx_f (D := DM m) (κ := 2) (n := qt (DM m) 2) h9
    obtain ⟨t, t1, t2⟩ := (hr _ g1).2.2.1 g2
    rw [t1]
    exact t2
  · rw [if_neg h9, if_neg (by decide), d6]
    exact e6 (by omega)
theorem W3.o3 (h3 : W3 φ ν DM) (hi : i < vN ν 30) (hk : k < iM (DM (φ 31 i).toInt.toNat) 3 + qt (DM (φ 31 i).toInt.toNat) 6) : mnV id φ DM i 3 k < vN ν 58 := by
  obtain ⟨m, ip, ofn, ov, ot, om, ⟨d1, d2, d3, d4, d5, d6⟩, ⟨e1, e2, e3, e4, e5, e6⟩, -, -, hr⟩ := h3 i hi
  unfold mnV
  show (if k < iM (DM (φ 31 i).toInt.toNat) 3 then (φ 33 ((φ 32 i).toInt.toNat + ikx (DM (φ 31 i).toInt.toNat) 3 (qt (DM (φ 31 i).toInt.toNat) 2) k)).toInt.toNat else if 3 = 0 then (φ 35 i).toInt.toNat + (k - iM (DM (φ 31 i).toInt.toNat) 0) else if 3 = 1 then (φ 37 i).toInt.toNat else if 3 = 2 then (φ 38 i).toInt.toNat else (φ 36 i).toInt.toNat + (k - iM (DM (φ 31 i).toInt.toNat) 3)) < vN ν 58
  rw [d1, Int.toNat_natCast] at hk ⊢
  rw [d2, d4, Int.toNat_natCast, Int.toNat_natCast]
  by_cases h9 : k < iM (DM m) 3
  · rw [if_pos h9]
    obtain ⟨g1, g2, g3⟩ := ikx_f (D := DM m) (κ := 3) (n := qt (DM m) 2) h9
    obtain ⟨t, t1, t2, -⟩ := (hr _ g1).2.2.2 g2
    rw [t1]
    exact t2
  · rw [if_neg h9, if_neg (by decide), if_neg (by decide), if_neg (by decide)]
    omega
theorem iRf.mn (hr : iRf φ ℓ ν φ' ℓ' ν') (h3 : W3 φ ν DM) (hi : i < vN ν 30) : φ' 31 i = φ 31 i ∧ (∀ κ k, mnV id φ' DM i κ k = mnV id φ DM i κ k) ∧ ∀ κ, oV id φ' DM i κ = oV id φ DM i κ := by
  obtain ⟨m, ip, ofn, ov, ot, om, ⟨d1, d2, d3, d4, d5, d6⟩, ⟨e1, e2, e3, e4, e5, e6⟩, -, -, -⟩ := h3 i hi
  have r := fun c hc => hr.2.1 c hc i hi
  have h33 := hr.2.2.1
  refine ⟨r 31 (by decide), fun κ k => ?_, fun κ => ?_⟩
  · unfold mnV
    simp only [id]
    rw [r 31 (by decide), r 32 (by decide), r 35 (by decide), r 36 (by decide), r 37 (by decide), r 38 (by decide), d1, d2, Int.toNat_natCast, Int.toNat_natCast]
    by_cases h9 : k < iM (DM m) κ
    · rw [if_pos h9, if_pos h9, h33 _ (by have := (ikx_f (D := DM m) (κ := κ) (n := qt (DM m) 2) h9).1; omega)]
    · rw [if_neg h9, if_neg h9]
  · unfold oV
    simp only [id]
    rw [r 31 (by decide), r 32 (by decide), r 37 (by decide), r 38 (by decide), d1, d2, Int.toNat_natCast, Int.toNat_natCast]
    by_cases h9 : 0 < iM (DM m) κ
    · rw [if_pos h9, if_pos h9, h33 _ (by have := (ikx_f (D := DM m) (κ := κ) (n := qt (DM m) 2) h9).1; omega)]
    · rw [if_neg h9, if_neg h9]
theorem stQ.rf (hr : iRf φ ℓ ν φ' ℓ' ν') (h3 : W3 φ ν DM) (hic : vN ν 30 = wic W) (hs : stQ H ad W id φ DM (ℓ 55)) : stQ H ad W id φ' DM (ℓ' 55) := by
  have hk := hr.1
  have mn := fun i (hi : i < wic W) => hr.mn h3 (i := i) (by rw [hic]; exact hi)
  have gm : ∀ i, i < wic W → gmV id φ' DM i = gmV id φ DM i := fun i hi => by
    unfold gmV
    rw [(mn i hi).2.2]
  obtain ⟨s1, s2, s3, s4, s5, s6⟩ := hs
  refine ⟨fun i hi => ?_, fun f hf => ?_, fun i hi => ⟨fun k hk9 => ?_, fun k hk9 => ?_⟩, fun i hi ht => ?_, fun e he => ?_, fun i hi hm => ?_⟩
  · have a := s1 i hi
    simp only [id] at *
    rw [(mn i hi).1, hk 6 (by decide) (by decide), hk 10 (by decide) (by decide), hk 12 (by decide) (by decide), hk 8 (by decide) (by decide)]
    exact a
  · simp only [id] at *
    rw [hk 44 (by decide) (by decide), hk 45 (by decide) (by decide)]
    exact s2 f hf
  · rw [(mn i hi).2.1]
    exact (s3 i hi).1 k hk9
  · rw [(mn i hi).2.1]
    exact (s3 i hi).2 k hk9
  · rw [(mn i hi).2.2]
    have n3 := (s1 i hi).1.n.2.2.1
    have h9 := h3.o1 (i := i) (by rw [hic]; exact hi) (by simp only [id] at n3; omega)
    have := s4 i hi ht
    simp only [id] at *
    rw [(hr.2.2.2.1 _ h9).1, (hr.2.2.2.1 _ h9).2.1]
    exact this
  · have := s5 e he
    simp only [id] at *
    rw [hk 51 (by decide) (by decide)]
    exact this
  · rw [gm i hi]
    obtain ⟨a1, a2, a3⟩ := s6 i hi hm
    have n4 := (s1 i hi).1.n.2.2.2.1
    have h9 := h3.o2 (i := i) (by rw [hic]; exact hi) (by simp only [id] at n4; omega)
    refine ⟨a1, by rw [(hr.2.2.2.2.1 _ h9).2]; exact a2, fun i0 hi0 hm0 => ?_⟩
    rw [gm i0 hi0]
    exact a3 i0 hi0 hm0
theorem gWd.rf (hr : iRf φ ℓ ν φ' ℓ' ν') (h3 : W3 φ ν DM) (hw : gWd ad H W mc M φ ℓ ν DM) : gWd ad H W mc M φ' ℓ' ν' DM := by
  obtain ⟨⟨c1, c2, c3, c4⟩, i1, s1, w1⟩ := hw
  have hv := hr.2.2.2.2.2.2.2
  have e30 : vN ν' 30 = vN ν 30 := by unfold vN; rw [hv 30 (by decide)]
  have e43 : vN ν' 43 = vN ν 43 := by unfold vN; rw [hv 43 (by decide)]
  have e58 : vN ν' 58 = vN ν 58 := by unfold vN; rw [hv 58 (by decide)]
  have e47 : vN ν' 47 = vN ν 47 := by unfold vN; rw [hv 47 (by decide)]
  refine ⟨⟨by rw [e30]; exact c1, by rw [e43]; exact c2, by rw [e58]; exact c3, by rw [e47]; exact c4⟩, fun i hi => ?_, s1.rf hr h3 c1, ?_⟩
  · rw [(hr.mn h3 (i := i) (by omega)).1]
    exact i1 i hi
  · have gm : ∀ i, i < wic W → gmV id φ' DM i = gmV id φ DM i := fun i hi => by
      unfold gmV
      rw [(hr.mn h3 (i := i) (by omega)).2.2]
    obtain ⟨w1, w2, w4, w5, w6, w7⟩ := w1
    refine ⟨fun j hj => ?_, ?_, fun i hi hm => ?_, ?_, ?_⟩
    · show ℓ' 61 j = _
      rw [(hr.2.2.2.2.2.1 j (by omega)).2.2]
      exact w1 j hj
    · show (∀ a, a < 65536 * wnp W → byR (φ' 57) a = _) ∧ ∀ a, _ → _ → byR (φ' 57) a = 0
      rw [hr.1 57 (by decide) (by decide)]
      exact w2
    · rw [gm i hi]
      have n4 := (s1.1 i hi).1.n.2.2.2.1
      have h9 := h3.o2 (i := i) (by omega) (by simp only [id] at n4; omega)
      have h8 := w4 i hi hm
      show (φ' 54 (gmV id φ DM i)).toInt = _ ∧ ∀ j, _ → φ' 56 (16 * gmV id φ DM i + j) = _
      rw [(hr.2.2.2.2.1 _ h9).1, hr.1 56 (by decide) (by decide)]
      exact h8
    · show (ν' 53).toInt = _
      rw [hv 53 (by decide)]
      exact w5
    · show ν' 88 = _ ∧ ∀ j : Nat, _ → ℓ' 87 j = _
      rw [hv 88 (by decide), hr.2.2.2.2.2.2.1 87 (by decide)]
      exact ⟨w6, w7⟩
theorem gXt.rf (hr : iRf φ ℓ ν φ' ℓ' ν') (h3 : W3 φ ν DM) (hw : gWd ad H W mc M φ ℓ ν DM) (hx : gXt H W φ ℓ DM) : gXt H W φ' ℓ' DM := by
  obtain ⟨⟨c1, c2, c3, c4⟩, i1, s1, w1⟩ := hw
  refine ⟨fun i hi k hk => ?_, fun i hi ht => ?_⟩
  · have n5 := (s1.1 i hi).1.n.2.2.2.2.1
    have h9 := h3.o3 (i := i) (k := k) (by omega) (by unfold nvr at hk; simp only [id] at n5; omega)
    rw [(s1.2.2.1 i hi).2 k hk] at h9
    rw [(hr.2.2.2.2.2.1 _ h9).1, (hr.2.2.2.2.2.1 _ h9).2.1]
    exact hx.1 i hi k hk
  · have n3 := (s1.1 i hi).1.n.2.2.1
    have h9 := h3.o1 (i := i) (by omega) (by simp only [id] at n3; omega)
    rw [(hr.mn h3 (i := i) (by omega)).2.2, (hr.2.2.2.1 _ h9).2.2]
    exact hx.2 i hi ht
/-- all but the fault's row, while nothing is under way -/
theorem iRf.all (hr : iRf φ ℓ ν φ' ℓ' ν') (h3 : W3 φ ν DM) (hy : y' = y) (h15 : xb_i H (ad 15) 3 = 0)
    (hQ : gTp ad H ts φ ν ∧ gMd ad H mc M φ ν DM ∧ gWd ad H W mc M φ ℓ ν DM ∧ gNm ad H φ ν ∧ gAr ad H ℓ ν ∧ gRs ad H φ y ∧ gRn ad H W φ ℓ ν DM ∧ gVm φ ℓ ∧ gXt H W φ ℓ DM) :
    gTp ad H ts φ' ν' ∧ gMd ad H mc M φ' ν' DM ∧ gWd ad H W mc M φ' ℓ' ν' DM ∧ gNm ad H φ' ν' ∧ gAr ad H ℓ' ν' ∧ gRs ad H φ' y' ∧ gRn ad H W φ' ℓ' ν' DM ∧ gVm φ' ℓ' ∧ gXt H W φ' ℓ' DM := by
  obtain ⟨q1, q2, q3, q4, q5, q6, q7, q8, q9⟩ := hQ
  have hk := hr.1
  have hv := hr.2.2.2.2.2.2.2
  have hl := hr.2.2.2.2.2.2.1
  subst hy
  have e5 : vN ν' 5 = vN ν 5 := by unfold vN; rw [hv 5 (by decide)]
  have e42 : vN ν' 42 = vN ν 42 := by unfold vN; rw [hv 42 (by decide)]
  refine ⟨?_, ?_, q3.rf hr h3, ?_, ?_, ?_, ?_, ?_, q9.rf hr h3 q3⟩
  · unfold gTp
    rw [hv 2 (by decide), hk 1 (by decide) (by decide)]
    exact q1
  · unfold gMd
    rw [e5, hk 12 (by decide) (by decide), hk 8 (by decide) (by decide)]
    exact q2
  · unfold gNm
    rw [e42, hk 40 (by decide) (by decide), hk 41 (by decide) (by decide), hk 3 (by decide) (by decide), hk 39 (by decide) (by decide)]
    exact q4
  · unfold gAr
    rw [hv 66 (by decide), hl 65 (by decide)]
    exact q5
  · unfold gRs
    rw [hk 86 (by decide) (by decide)]
    exact q6
  · rcases q7 with ⟨r1, r2, r3⟩ | ⟨r1, -⟩
    · exact .inl ⟨r1, by rw [hv 62 (by decide)]; exact r2, by rw [hv 68 (by decide)]; exact r3⟩
    · exact absurd h15 r1
  · unfold gVm
    rw [hk 75 (by decide) (by decide), hl 74 (by decide)]
    exact q8
end HP

-- equality: instantiate is refused
section HN
variable {own own' ad ad' : Nat → Nat} {H h8 H' : xb_H} {W : wD} {σ mc ts K : Nat} {M : Nat → mD} {φ φ' : Nat → Nat → Int32} {ℓ ℓ' : Nat → Nat → Int64} {ν ν' : Nat → Int32} {y y' : Int64} {DM : Nat → zM}
theorem lkR.cm (hl : lkR own ad own' ad' H h8) (hB : cB own ad H) {k : Nat} (hk : k < 41) (hn : k ∉ [14, 32, 33, 34, 35]) : ad' k = ad k ∧ xh_sm H h8 (ad k) := by
  have hn' : k ≠ 14 ∧ k ≠ 32 ∧ k ≠ 33 ∧ k ≠ 34 ∧ k ≠ 35 := by simpa using hn
  exact ⟨hl.2.1 k (by omega) (by omega), hl.2.2.2.2.1 _ (hB.z k hk) (hB.ne hk (by omega) (by omega)) (hB.ne hk (by omega) (by omega)) (hB.ne hk (by omega) (by omega)) (hB.ne hk (by omega) (by omega)) (hB.ne hk (by omega) (by omega))⟩
theorem lkR.n1 (hl : lkR own ad own' ad' H h8) (hB : cB own ad H) {a : Nat} (ha : xb_k H a ≠ 0) (ho : own a < 2 ∨ 42 < own a) : xh_sm H h8 a :=
  hl.2.2.2.2.1 a ha (hB.nk (by omega) rfl ho) (hB.nk (by omega) rfl ho) (hB.nk (by omega) rfl ho) (hB.nk (by omega) rfl ho) (hB.nk (by omega) rfl ho)
/-- the class refused; the reference's own rows of instances stay -/
theorem gQ.rf (hI : cI own ad H W σ ts K) (hM : cMx own ad H mc M) (hQ : gQ ad H W mc M ts φ ℓ ν y DM) (hl : lkR own ad own' ad' H h8) (s : stp [0] [] own' ad' own' ad' h8 H') (i0 : ∀ j, j ≠ 9 → j ≠ 10 → xb_i H' (ad 0) j = xb_i H (ad 0) j) :
    (gTp ad' H' ts φ ν ∧ gMd ad' H' mc M φ ν DM ∧ gWd ad' H' W mc M φ ℓ ν DM ∧ gNm ad' H' φ ν ∧ gAr ad' H' ℓ ν ∧ gRs ad' H' φ y ∧ gRn ad' H' W φ ℓ ν DM ∧ gVm φ ℓ ∧ gXt H' W φ ℓ DM) ∧ hR own own' H H' ∧ cMx own' ad' H' mc M ∧ ad' 0 = ad 0 := by
  obtain ⟨⟨hB, hW, -⟩, -⟩ := hI
  have hB8 := s.1
  have hB8' : cB own' ad' h8 := hl.1
  have cm : ∀ k, k < 41 → k ∉ [0, 14, 32, 33, 34, 35] → ad' k = ad k ∧ xh_sm H H' (ad k) := fun k hk hn => by
    have hn' : k ≠ 0 ∧ k ∉ [14, 32, 33, 34, 35] := by
      have : k ≠ 0 ∧ k ≠ 14 ∧ k ≠ 32 ∧ k ≠ 33 ∧ k ≠ 34 ∧ k ≠ 35 := by simpa using hn
      exact ⟨this.1, by simpa using this.2⟩
    obtain ⟨a1, s1⟩ := hl.cm hB hk hn'.2
    have s2 := (s.cm hB8' (by decide) (fun x hx => by cases hx) hk (by simpa using hn'.1)).2
    rw [a1] at s2
    exact ⟨a1, s1.tr s2⟩
  have ext : xb_ext H H' := fun a ha => by
    have h1 := hl.2.2.2.1 a ha
    have h2 := s.2.2.2.1 a (by rw [h1.1]; exact ha)
    exact ⟨h2.1.trans h1.1, h2.2.trans h1.2⟩
  have ow : ∀ a, xb_k H a ≠ 0 → own' a = own a := hl.2.2.1
  have n1 : ∀ a, xb_k H a ≠ 0 → own a < 2 ∨ 42 < own a → xh_sm H H' a := fun a ha ho => by
    have h1 := hl.2.2.2.1 a ha
    refine (hl.n1 hB ha ho).tr (s.n1 hB8' (by decide) (by rw [h1.1]; exact ha) (fun h9 => by cases h9) rfl ?_)
    rw [ow a ha]
    exact ho
  have s1 : ∀ a, xb_k H a ≠ 0 → own a = 1 ∨ own a = 50 ∨ own a = 51 → xh_sm H H' a := fun a ha ho => n1 a ha (by omega)
  have a0 : ad' 0 = ad 0 := hl.2.1 0 (by decide) (by decide)
  obtain ⟨q1, q2, q3, q4, q5, q6, q7, q8, q9⟩ := hQ
  obtain ⟨a1, m1⟩ := cm 1 (by decide) (by decide)
  obtain ⟨a2, m2⟩ := cm 2 (by decide) (by decide)
  obtain ⟨a15, m15⟩ := cm 15 (by decide) (by decide)
  obtain ⟨a16, m16⟩ := cm 16 (by decide) (by decide)
  obtain ⟨a17, m17⟩ := cm 17 (by decide) (by decide)
  obtain ⟨a22, m22⟩ := cm 22 (by decide) (by decide)
  obtain ⟨a24, m24⟩ := cm 24 (by decide) (by decide)
  obtain ⟨a26, m26⟩ := cm 26 (by decide) (by decide)
  obtain ⟨a27, m27⟩ := cm 27 (by decide) (by decide)
  obtain ⟨a28, m28⟩ := cm 28 (by decide) (by decide)
  obtain ⟨a29, m29⟩ := cm 29 (by decide) (by decide)
  obtain ⟨a30, m30⟩ := cm 30 (by decide) (by decide)
  obtain ⟨a31, m31⟩ := cm 31 (by decide) (by decide)
  obtain ⟨a36, m36⟩ := cm 36 (by decide) (by decide)
  obtain ⟨a37, m37⟩ := cm 37 (by decide) (by decide)
  obtain ⟨a38, m38⟩ := cm 38 (by decide) (by decide)
  refine ⟨⟨?_, ⟨q2.1, fun m hm => ?_⟩, ?_, ?_, ?_, ?_, q8.sm a15 a37 a38 m15 m37 m38 (ext _ (hB.z 37 (by decide))).2, q9.1, q9.2.sm hW (fun a ha ho => s1 a ha (.inl ho))⟩, ⟨ow, ext, fun a ha ho => n1 a ha (by omega)⟩, ?_, a0⟩
  · unfold gTp
    rw [a1, m1.1]
    exact q1
  · obtain ⟨md, b, N, cA, S, g1, g2, g3, g4⟩ := q2.2 m hm
    obtain ⟨md', k1, k2⟩ := hM.2.2.2 m hm
    rw [g1] at k1
    have e9 := Option.some.inj k1
    subst e9
    refine ⟨md, b, N, cA, S, by rw [a2, m2.2.2]; exact g1, g2, ?_, g4⟩
    rw [(s1 md (by rw [k2.1.1.1]; decide) (.inl k2.2.2.1)).1]
    exact g3
  · obtain ⟨c1, c2, c3, c4⟩ := q3
    refine ⟨c1, fun i hi => ?_, c3.sm hW s1 a24 m24.2.1, c4.sm hW s1 a22 m22.2.1 a26 m26.2.1 a27 (by rw [m27.1]) a28 m28.2.1⟩
    rw [(smI hW s1 hi).2.2.2.1, a2, m2.2.2]
    exact c2 i hi
  · unfold gNm
    rw [a29, a30, a31, m29.1, m30.2.1, m31.1]
    exact q4
  · unfold gAr
    rw [a16, a17, m16.1, m17.2.1]
    exact q5
  · unfold gRs
    rw [a15, a36, m15.2.1, m36.1]
    exact q7
  · obtain ⟨k1, k2, k3, k4⟩ := hM
    refine ⟨by rw [a2, (ext _ (hB.z 2 (by decide))).2]; exact k1, by rw [a0, i0 3 (by decide) (by decide)]; exact k2, k3, fun i hi => ?_⟩
    obtain ⟨md, j1, j2⟩ := k4 i hi
    exact ⟨md, by rw [a2, m2.2.2]; exact j1, j2.fr (fun a ha ho => s1 a ha (.inl ho)) ext (fun a ha ho => by rw [ow a ha]; exact ho)⟩
end HN

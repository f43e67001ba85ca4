-- equality: more modules, more instances: what is under way stays alike
/-- both answer with a number; objects were made -/
def jVx (σ x1 mm x3 K : Nat) (w : xb_H → Nat → Nat → (Int32 → xb_H → Nat → Nat → Prop) → Prop) (Qr : Int32 → xb_H → Nat → Nat → Prop) : Prop := ∀ (r : Int32) (H1 : xb_H) (b1 s1 : Nat), xb_k H1 mm = 9 → (∀ Q2 : Int32 → xb_H → Nat → Nat → Prop, (∀ (r2 : Int32) (H2 : xb_H) (b2 s2 : Nat), (xb_ext H1 H2 → jE σ x1 mm x3 K r (Int32.toInt64 r2) H2 b2 s2) → Q2 r2 H2 b2 s2) → w H1 b1 s1 Q2) → Qr r H1 b1 s1
section HF
variable {own own' ad ad' : Nat → Nat} {H H' : xb_H} {W : wD} {σ mc ts : Nat} {M : Nat → mD} {φ φ' : Nat → Nat → Int32} {ℓ ℓ' : Nat → Nat → Int64} {ν ν' : Nat → Int32} {y : Int64} {DM DM' : Nat → zM} {most : Nat → Int64} {gx : Nat → fG}
theorem frQ.gr (hm : ∀ f, f < wno W → fMo φ' DM' f = fMo φ DM f) : ∀ {cs : List cX} {D : Nat}, frQ W φ DM gx cs D → frQ W φ' DM' gx cs D
  | [], _, h9 => h9
  | y :: r, D, ⟨D', e1, e2, e3⟩ => by
    refine ⟨D', e1, ?_, frQ.gr hm e3⟩
    have := hm y.1 e2.1.1
    unfold fQ
    rw [this]
    exact e2
theorem oQ.gr {D : Nat} {v ω : Nat → Int64} {cs : List cX} {n : Nat} (hm : ∀ f, f < wno W → fMo φ' DM' f = fMo φ DM f) (h9 : oQ W φ DM (.inl (D, gx, v)) (.inl (cs, n, ω))) : oQ W φ' DM' (.inl (D, gx, v)) (.inl (cs, n, ω)) := ⟨h9.1, h9.2.1.gr hm, h9.2.2⟩
theorem gRn.gr (hg : Gr φ ν DM φ' ν' DM') (h3 : W3 φ ν DM) (h4 : W4 φ ν DM) (h43 : vN ν 43 ≤ 8192) (hno : vN ν 43 = wno W) (hr : ∀ k, k ∈ runA → φ' k = φ k) (h67 : ℓ' 67 = ℓ 67) (h74 : ℓ' 74 = ℓ 74) (hν : ∀ j, j ∈ [62, 63, 64, 68, 76, 81, 82] → ν' j = ν j) (h9 : gRn ad H W φ ℓ ν DM) : gRn ad H W φ' ℓ' ν' DM' := by
  have hm : ∀ f, f < wno W → fMo φ' DM' f = fMo φ DM f ∧ fTy φ' DM' f = fTy φ DM f := fun f hf => hg.fm h3 h4 (by omega)
  unfold gRn
  rw [hν 62 (by decide), hν 63 (by decide), hν 64 (by decide), hν 68 (by decide), hν 82 (by decide), h67, h74]
  rcases h9 with q8 | ⟨k1, k2, k3⟩
  · exact .inl q8
  · refine .inr ⟨k1, k2, ?_⟩
    rcases k3 with ⟨k3, k4, f, k5, k6, k7, k8⟩ | ⟨k3, k4, D, gx, cs, n, r1, ⟨s1, s2, s3⟩, r3⟩
    · refine .inl ⟨k3, k4, f, k5, k6, k7, fun j hj => ?_⟩
      have e9 : fPk φ' DM' (fmp f) j = fPk φ DM (fmp f) j := by
        unfold fPk
        by_cases h9 : fmp f < 100000
        · have hf : f < wno W := by
            unfold fmp at h9
            rcases k6 with k6 | k6
            · exact k6
            · rw [if_pos k6.1] at h9
              omega
          have h8 : fmp f = f := by
            unfold fmp
            rw [if_neg (by omega)]
          rw [if_pos h9, if_pos h9, h8, (hm f hf).1, (hm f hf).2]
        · rw [if_neg h9, if_neg h9]
      rw [e9]
      exact k8 j hj
    · refine .inr ⟨k3, k4, D, gx, cs, n, r1, ⟨by rw [hν 68 (by decide)]; exact s1, fun e => by rw [hν 76 (by decide)]; exact s2 e, fun e => ?_⟩, r3.gr (fun f hf => (hm f hf).1)⟩
      obtain ⟨top, opens, t1, t2, t3⟩ := s3 e
      refine ⟨top, opens, by rw [hν 76 (by decide)]; exact t1, by rw [hν 81 (by decide)]; exact t2, ?_⟩
      exact RC.gr (φ := φ) (φ' := φ') hg h3 h4 h43 hr t3
theorem mnV_ld {i κ k : Nat} (hk : ∀ k, k ∈ [31, 32, 33, 35, 36, 37, 38] → φ' k = φ k) (hD : DM' (φ 31 i).toInt.toNat = DM (φ 31 i).toInt.toNat) : mnV id φ' DM' i κ k = mnV id φ DM i κ k := by
  unfold mnV
  simp only [id]
  rw [hk 31 (by decide), hk 32 (by decide), hk 33 (by decide), hk 35 (by decide), hk 36 (by decide), hk 37 (by decide), hk 38 (by decide), hD]
theorem oV_ld {i κ : Nat} (hk : ∀ k, k ∈ [31, 32, 33, 35, 36, 37, 38] → φ' k = φ k) (hD : DM' (φ 31 i).toInt.toNat = DM (φ 31 i).toInt.toNat) : oV id φ' DM' i κ = oV id φ DM i κ := by
  unfold oV
  simp only [id]
  rw [hk 31 (by decide), hk 32 (by decide), hk 33 (by decide), hk 37 (by decide), hk 38 (by decide), hD]
theorem stQ.ld (hk : ∀ k, k ∈ [31, 32, 33, 35, 36, 37, 38, 44, 45, 48, 49, 51] → φ' k = φ k) (hD : ∀ i, i < wic W → DM' (φ 31 i).toInt.toNat = DM (φ 31 i).toInt.toNat) (hrow : ∀ i, i < wic W → φ' 6 (φ 31 i).toInt.toNat = φ 6 (φ 31 i).toInt.toNat ∧ φ' 10 (4 * (φ 31 i).toInt.toNat) = φ 10 (4 * (φ 31 i).toInt.toNat) ∧ ∀ b, b < qt (DM (φ 31 i).toInt.toNat) 3 → φ' 12 ((φ' 8 (12 * (φ 31 i).toInt.toNat + 10)).toInt.toNat + b) = φ 12 ((φ 8 (12 * (φ 31 i).toInt.toNat + 10)).toInt.toNat + b)) (hs : stQ H ad W id φ DM most) : stQ H ad W id φ' DM' most := by
  have hk7 : ∀ k, k ∈ [31, 32, 33, 35, 36, 37, 38] → φ' k = φ k := fun k h9 => hk k ((by decide : ∀ k, k ∈ [31, 32, 33, 35, 36, 37, 38] → k ∈ [31, 32, 33, 35, 36, 37, 38, 44, 45, 48, 49, 51]) k h9)
  have e31 : φ' 31 = φ 31 := hk 31 (by decide)
  have gm : ∀ i, i < wic W → gmV id φ' DM' i = gmV id φ DM i := fun i hi => by
    unfold gmV
    rw [oV_ld hk7 (hD i hi)]
  obtain ⟨s1, s2, s3, s4, s5, s6⟩ := hs
  refine ⟨fun i hi => ?_, fun f hf => ?_, fun i hi => ⟨fun k hk9 => ?_, fun k hk9 => ?_⟩, fun i hi ht => ?_, fun e he => ?_, fun i hi hm => ?_⟩
  · obtain ⟨a1, a2, a3, a4, a5⟩ := s1 i hi
    obtain ⟨b1, b2, b3⟩ := hrow i hi
    simp only [id] at *
    rw [e31, hD i hi]
    refine ⟨a1, a2, by rw [b1]; exact a3, by rw [b2]; exact a4, fun b hb => ?_⟩
    rw [b3 b hb]
    exact a5 b hb
  · simp only [id] at *
    rw [hk 44 (by decide), hk 45 (by decide)]
    exact s2 f hf
  · rw [mnV_ld hk7 (hD i hi)]
    exact (s3 i hi).1 k hk9
  · rw [mnV_ld hk7 (hD i hi)]
    exact (s3 i hi).2 k hk9
  · rw [oV_ld hk7 (hD i hi)]
    have := s4 i hi ht
    simp only [id] at *
    rw [hk 48 (by decide), hk 49 (by decide)]
    exact this
  · have := s5 e he
    simp only [id] at *
    rw [hk 51 (by decide)]
    exact this
  · rw [gm i hi]
    obtain ⟨a1, a2, a3⟩ := s6 i hi hm
    refine ⟨a1, a2, fun i0 hi0 hm0 => ?_⟩
    rw [gm i0 hi0]
    exact a3 i0 hi0 hm0
/-- only memories of instances are looked at -/
theorem wQ.gm {np : Nat} {gm gm' : Nat → Nat} {w : rWd} (hg : ∀ i, i < wic W → gm' i = gm i) (hw : wQ ad H W np gm w) : wQ ad H W np gm' w := by
  obtain ⟨w1, w2, w4, w5⟩ := hw
  refine ⟨w1, w2, fun i hi hm => ?_, w5⟩
  rw [hg i hi]
  exact w4 i hi hm
end HF

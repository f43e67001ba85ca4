-- the law, whole: from the beginning
section LWA
variable {h0 : xb_H} {σ x0 L : Nat} {xs : Nat → Int32} {ad A : Nat → Nat} {h : xb_H} {mm : Nat} {DM : Nat → zM}
/-- two new objects are alike -/
theorem gQ.new (hi : in0 ad h) (hz : inZ mm A h) : gQ ad h W0 0 (fun _ => wd W0 0) 0 (fun k => xb_i h (A k)) (fun k => xb_l h (A k)) (fun _ => 0) (xb_l h mm 85) DM := by
  obtain ⟨i1, i2, i3, i4, i5, i6, i7, i8, i9, i10, i11, j0, j1, j2, j3⟩ := hi
  obtain ⟨z1, z2, ⟨y0, y1, y2, y3⟩, z4⟩ := hz
  have n0 : ∀ i, ¬ i < wic W0 := fun i hi => Nat.not_lt_zero i hi
  refine ⟨⟨rfl, fun j hj => absurd hj (Nat.not_lt_zero j)⟩, ⟨rfl, fun m hm => absurd hm (Nat.not_lt_zero m)⟩, ⟨⟨rfl, rfl, rfl, rfl⟩, fun i hi => absurd hi (n0 i), ⟨fun i hi => absurd hi (n0 i), fun f hf => absurd hf (Nat.not_lt_zero f), fun i hi => absurd hi (n0 i), fun i hi => absurd hi (n0 i), fun e he => absurd he (Nat.not_lt_zero e), fun i hi => absurd hi (n0 i)⟩, ⟨fun j hj => absurd hj (Nat.not_lt_zero j), ⟨fun a ha => absurd ha (Nat.not_lt_zero a), fun a _ _ => ?_⟩, fun i hi => absurd hi (n0 i), rfl, i5.symm, fun j hj => ?_⟩⟩, ⟨?_, fun k hk => absurd hk (Nat.not_lt_zero k)⟩, ⟨?_, fun j hj => ?_⟩, ⟨?_, ?_⟩, ⟨?_, fun j hj => ?_⟩, .inl ⟨i9, rfl, rfl⟩, fun j => ?_, fun i hi => absurd hi (n0 i), fun i hi => absurd hi (n0 i)⟩
  · show byR (xb_i h (A 57)) a = 0
    rw [z1 57 (by decide) (by decide) (by decide)]
    rfl
  · rw [i5] at hj
    have : (0 : Int32).toInt = 0 := rfl
    omega
  · rw [i6]
    rfl
  · rw [i4]
  · have hj' : (j : Int) < (0 : Int32).toInt := hj
    have : (0 : Int32).toInt = 0 := rfl
    omega
  · show xb_i h (A 89) 0 = _
    rw [z1 89 (by decide) (by decide) (by decide), i2]
  · show xb_i h (A 89) 1 = _
    rw [z1 89 (by decide) (by decide) (by decide), i3]
  · rw [z4, i8]
  · show xb_i h (A 86) j = _
    rcases (show j = 0 ∨ j = 1 ∨ j = 2 ∨ j = 3 by omega) with e | e | e | e
    · rw [e, y0, j0]
    · rw [e, y1, j1]
    · rw [e, y2, j2]
    · rw [e, y3, j3]
  · show arV (xb_i h (A 75) j).toInt (xb_l h (A 74) j) = xb_l h (A 74) j
    rw [z1 75 (by decide) (by decide) (by decide), z2 74 (by decide) (by decide)]
    rfl
theorem in0.sm {h' : xb_H} (hi : in0 ad h) (hs : ∀ k, k < 41 → xh_sm h h' (ad k)) : in0 ad h' := by
  unfold in0 at *
  rw [(hs 0 (by decide)).1, (hs 16 (by decide)).1, (hs 27 (by decide)).1, (hs 29 (by decide)).1, (hs 14 (by decide)).1, (hs 15 (by decide)).2.1, (hs 15 (by decide)).1, (hs 36 (by decide)).1]
  exact hi
theorem inZ.sm {h' : xb_H} (hz : inZ mm A h) (hs : ∀ k, (∃ e ∈ aL, e.1 = k) → xh_sm h h' (A k)) (hm : xb_l h' mm = xb_l h mm) : inZ mm A h' := by
  obtain ⟨z1, z2, z3, z4⟩ := hz
  refine ⟨fun k hk k9 k8 => by rw [(hs k hk).1]; exact z1 k hk k9 k8, fun k hk k9 => by rw [(hs k hk).2.1]; exact z2 k hk k9, by rw [(hs 86 (by decide)).1]; exact z3, by rw [hm]; exact z4⟩
theorem law_allw {bc bs : Nat} (DM : Nat → zM) (hin : ∀ (x1 mm x3 K : Nat) (a1 : Int32) (H : xb_H) (bc bs : Nat) (Q9 : Int32 → xb_H → Nat → Nat → Prop), jG σ x1 mm x3 (K + 1) H bc bs → jVx σ x1 mm x3 K (fun H1 b1 s1 Q2 => w_M_instantiate mm a1 H1 b1 s1 Q2) Q9 → w_Law_instantiate σ x1 a1 x3 H bc bs Q9) (hL : L ≤ 3072) (hbc : 313000 ≤ bc) (hbs : 7000000 ≤ bs) : w2_Law_law σ L xs x0 h0 bc bs (fun r _ _ _ => r = 1) := by
  unfold w2_Law_law
  refine ⟨by omega, by omega, fun q1 z1 h2 e2 => ?_⟩
  refine ho_init (σ := σ) (own0 := fun _ => 600) z1 e2 (by omega) (by omega) (fun h4 oc ad bc5 bs5 a0 fr ex4 hI l9 l1 l31 l37 hb hs hi0 _ => ?_)
  refine ⟨by omega, by omega, fun q6 z6 h7 e7 => ?_⟩
  refine m_init (own0 := fun _ => 0) (c := bc5 - 58) (s := bs5 - 1546528) DM z6 e7 (by omega) (by omega) (fun orr A h9 bc10 bs10 f9 ex9 hA me hz9 hb10 hs10 _ => ?_)
  refine ⟨by omega, by omega, fun q11 z11 h12 e12 => ⟨513, ?_⟩⟩
  have ne11 : ∀ a, xb_k h9 a ≠ 0 → a ≠ q11 := fun a ha e => ha (e ▸ z11)
  have ex12 : xb_ext h9 h12 := by rw [e12]; exact xh_exN h9 _ _ z11
  have sm12 : ∀ a, xb_k h9 a ≠ 0 → xh_sm h9 h12 a := fun a ha => by rw [e12]; exact xh_smN h9 _ _ (ne11 a ha)
  have o1 : ∀ a, xb_k h4 a ≠ 0 → (if xb_k h4 a = 0 then 600 else oc a) = oc a := fun a ha => if_neg ha
  have z49 : ∀ a, xb_k h4 a ≠ 0 → xb_k h9 a ≠ 0 := fun a ha => ext_nz ex9 ha
  have hI9 := cI_fz (own' := fun a => if xb_k h4 a = 0 then 600 else oc a) hI ⟨o1, ex9, fun a ha _ => (f9 a ha).2⟩
  have hI12 := cI_fz (own' := nown (fun a => if xb_k h4 a = 0 then 600 else oc a) q11 500) hI9 ⟨fun a ha => nown_ne (ne11 a ha), ex12, fun a ha _ => sm12 a ha⟩
  obtain ⟨g1, g2⟩ := rA_hR (own' := nown orr q11 500) hA (fun a ha => nown_ne (ne11 a ha)) (by rw [← me]; exact ex12) (fun a ha _ => by rw [← me]; exact sm12 a ha)
  have ln : ∀ k, k < 41 → xb_n h12 (ad k) = xb_n h4 (ad k) := fun k hk9 => by
    have z := hI.1.1.z k hk9
    rw [(ex12 _ (z49 _ z)).2, (ex9 _ z).2]
  have cl := cC_ln (ad := ad) (h := h4) (h' := h12) (W := W0) (ts := 0) (K := 512) ln
  have c4 : cC ad h4 W0 0 512 ≤ 295000 := by
    unfold cC xC s9 rP
    dsimp only
    rw [l1, l31, l37, l9 16 (by decide), l9 19 (by decide), l9 21 (by decide), l9 23 (by decide), l9 25 (by decide), l9 27 (by decide), l9 29 (by decide), l9 32 (by decide), l9 34 (by decide)]
    decide
  have c5 : cS_ ad h4 W0 0 512 ≤ 4000000 := by
    unfold cS_ xS s9 rP
    rw [l1, l31, l37, l9 16 (by decide), l9 19 (by decide), l9 21 (by decide), l9 23 (by decide), l9 25 (by decide), l9 27 (by decide), l9 29 (by decide), l9 32 (by decide), l9 34 (by decide)]
    decide
  have hi9 : in0 ad h9 := hi0.sm (fun k hk => (f9 _ (hI.1.1.z k hk)).2)
  have hi12 : in0 ad h12 := hi9.sm (fun k hk => sm12 _ (z49 _ (hI.1.1.z k hk)))
  have hB9 := hA.1
  have k6 : xb_k h9 q6 ≠ 0 := by rw [hB9.2.1]; decide
  have hz12 : inZ q6 A h12 := hz9.sm (fun k hk => by
    obtain ⟨e, he, rfl⟩ := hk
    exact sm12 _ (hB9.pk e he)) (sm12 q6 k6).2.1
  have hM12 : cMx (nown (fun a => if xb_k h4 a = 0 then 600 else oc a) q11 500) ad h12 0 (fun _ => wd W0 0) := ⟨hI12.2.2.1.1, by rw [hi12.1]; rfl, by omega, fun i hi => absurd hi (Nat.not_lt_zero i)⟩
  refine law_L23w (fun K a1 H bc bs Q9 => hin _ _ _ K a1 H bc bs Q9) hL (fun H bc bs => rfl) 512 0 0 h12 _ _ rfl rfl ⟨_, _, A, h12, xb_i h12, fun _ => 0, DM, 2048, 1024, ad, W0, 0, 0, fun _ => wd W0 0, g2, g1, a0, hI12, hM12, gQ.new hi12 hz12, ?_, fun a ha h6 => ?_, ⟨nown_eq, nown_eq, by rw [e12, xh_kN, if_pos rfl], by rw [e12, xh_nN, if_pos rfl]⟩⟩
  · rw [cl.1, cl.2]
    unfold refC refS
    omega
  · by_cases e9 : a = q11
    · rw [e9, nown_eq] at h6
      omega
    · rw [nown_ne e9] at h6 ⊢
      by_cases z4 : xb_k h4 a = 0
      · have h7 : (if xb_k h4 a = 0 then 600 else oc a) < 60 := h6
        rw [if_pos z4] at h7
        omega
      · rw [(f9 a z4).1]
        omega
end LWA

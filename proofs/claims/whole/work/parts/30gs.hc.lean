-- equality: a run, what is needed at its end
section HD0
variable {own : Nat → Nat} {mm : Nat} {A : Nat → Nat} {h : xb_H} {F F' : Nat → Nat → Int32} {v : Nat → Int32} {DM : Nat → zM} {len rl K : Nat} {Qr : Int32 → xb_H → Prop}
/-- a run that is refused -/
theorem r_runB {x1 : Int32} (hA : rA own mm A h F v DM len rl (K + 1)) (hx : byd 1000001 x1 ∨ v 62 = 0)
    (hQ0 : ∀ y0 : Int32, ((byd 1000001 x1 ∧ y0 = 1) ∨ (¬ byd 1000001 x1 ∧ v 62 = 0 ∧ y0 = 2)) → rA own mm A h F (va_up v 0 y0) DM len rl K → Qr 0 (mH h F mm (va_up v 0 y0))) : w_M_run mm x1 (mH h F mm v) Qr := by
  have hB := hA.B
  have hA0 := hA.dn
  have bad : ∀ y0 : Int32, 0 < y0.toInt → ((byd 1000001 x1 ∧ y0 = 1) ∨ (¬ byd 1000001 x1 ∧ v 62 = 0 ∧ y0 = 2)) → w_M_run_L28 Qr mm x1 y0 mm (mH h F mm v) := by
    intro y0 hy0 hy1
    unfold w_M_run_L28
    refine ⟨hB.2.1, fun h2 e2 => ?_⟩
    rw [mH_I] at e2
    subst e2
    rw [mH_i, xh_up, if_pos rfl]
    refine ⟨hB.2.1, fun hle => ?_, fun _ => hQ0 y0 hy1 (hA0.u (by decide))⟩
    rw [z_le] at hle
    simp only [Int32.reduceToInt] at hle
    omega
  unfold byd at *
  unfold w_M_run
  refine ⟨fun hx0 => ?_, fun hx0 => ⟨fun hx1 => ⟨hB.2.1, ?_⟩, fun hx1 => ?_⟩⟩
  · unfold w_M_run_L12
    exact bad 1 (by decide) (.inl ⟨.inl (by rw [z_lt] at hx0; simp only [Int32.reduceToInt] at hx0; exact hx0), rfl⟩)
  · rw [mH_i]
    rw [z_lt] at hx0
    rw [z_le] at hx1
    simp only [Int32.reduceToInt] at hx0 hx1
    have hnb : ¬ (x1.toInt < 0 ∨ ((1000001 : Nat) : Int) ≤ x1.toInt) := by omega
    exact ⟨fun h62 => absurd (hx.resolve_left hnb) h62, fun h62 => bad 2 (by decide) (.inr ⟨hnb, h62, rfl⟩)⟩
  · unfold w_M_run_L12
    rw [z_le] at hx1
    simp only [Int32.reduceToInt] at hx1
    exact bad 1 (by decide) (.inl ⟨.inr (by omega), rfl⟩)
theorem caR.cg {cs : List cX} {base f : Nat} {ω : Nat → Int64} {w w' : rWd} {z : cZ} (hF : ∀ k, k ∈ gAL → F' (A k) = F (A k)) (h : caR A F' DM cs base f ω w w' z) : caR A F DM cs base f ω w w' z := by
  unfold caR at *
  rw [hF 44 (by decide), hF 31 (by decide), hF 45 (by decide), hF 8 (by decide), hF 12 (by decide)] at h
  exact h
theorem cMt.cgR {W : wD} {most : Nat → Int64} {s : cCf} {lf : Nat} {z : rZ} {w : rWd} (hF : ∀ k, k ∈ gAL → F' (A k) = F (A k)) (h9 : cMt W A F DM most s lf z w) : cMt W A F' DM most s lf z w :=
  ⟨h9.1, h9.2.1.cgF (hF 31 (by decide)) (hF 44 (by decide)), by rw [gmV_cgR hF]; exact h9.2.2.1, h9.2.2.2.cgR hF⟩
theorem gS0.cgR {W : wD} {most ω p : Nat → Int64} {w0 : rWd} {k0 : Nat} {s : cCf} (hF : ∀ k, k ∈ gAL → F' (A k) = F (A k)) (hs : gS0 W A F DM most ω p v w0 k0 s) : gS0 W A F' DM most ω p v w0 k0 s := by
  obtain ⟨h1, h2⟩ := hs
  refine ⟨fun h9 => ?_, fun h9 f w' z z' h64 hca htz => ?_⟩
  · obtain ⟨a1, cs, n, a2, a3⟩ := h1 h9
    have a2' : rSt id (fun k => F (A k)) v DM cs n := a2
    have a4 : rSt id (fun k => F' (A k)) v DM cs n := a2'.cgR (fun k hk => hF k hk) (fun _ _ => rfl)
    exact ⟨a1, cs, n, a4, a3.cgR hF⟩
  · refine (h2 h9 f w' z z' h64 ?_ htz).cgR hF
    have e1 : fPl (fun k => F' (A k)) DM f = fPl (fun k => F (A k)) DM f := fPl_st (hF 31 (by decide)) (hF 44 (by decide)) (hF 45 (by decide))
    have e2 : agW A F' DM f p ω (fPl (fun k => F (A k)) DM f).length = agW A F DM f p ω (fPl (fun k => F (A k)) DM f).length := by
      funext j
      unfold agW
      rw [fPk.st (φ := fun k => F (A k)) (φ' := fun k => F' (A k)) (hF 31 (by decide)) (hF 44 (by decide)) (hF 45 (by decide))]
    rw [e1, e2] at hca
    exact hca.cg hF
end HD0
section HD
variable {own own' ad ad' : Nat → Nat} {h H H' : xb_H} {W : wD} {σ rc rs ts mc K : Nat} {S0 : cCf → Prop} {A : Nat → Nat} {F : Nat → Nat → Int32} {DM : Nat → zM} {most : Nat → Int64} {N : Nat} {c : Nat → cCf} {s : cCf} {i : Nat} {M : Nat → mD} {φ φ' : Nat → Nat → Int32} {ℓ ℓ' : Nat → Nat → Int64} {ν ν' : Nat → Int32} {y : Int64}
theorem cCh.last (hc : cCh own ad h W σ rc rs S0 N c s) (hi : i ≤ N) (hk : ∀ D gx v, kou (c i) ≠ .inl (D, gx, v)) : i = N := by
  rcases Nat.lt_or_ge i N with hlt | hge
  · exfalso
    rcases hc.2.2 i hlt with ⟨D, gx, v, _, _, _, _, _, _, _, _, _, hA, -⟩ | ⟨D, gx, v, _, _, _, _, _, _, _, _, _, hA, -⟩
    · exact hk D gx v hA.1
    · exact hk D gx v hA.1
  · omega
theorem cCh.last2 (hc : cCh own ad h W σ rc rs S0 N c s) (hi : i ≤ N) (h0 : kfu (c i) = 0) (hn : ∀ D gx v, kou (c i) = .inl (D, gx, v) → wI (kow (c i)) (kad (c i)) (khp (c i)) (wgr W (knp (c i))) σ → frN ((dcb (wd W (gI (gx (D - 1)))) (gA (gx (D - 1)))).toInt % 256).toNat) : i = N := by
  rcases Nat.lt_or_ge i N with hlt | hge
  · exfalso
    rcases hc.2.2 i hlt with ⟨D, gx, v, _, _, _, _, _, _, _, _, _, hA, hf, -⟩ | ⟨D, gx, v, _, _, _, _, _, _, _, _, _, hA, hfn, n0, bc2, bs2, e, ε, hn0, hsq, hstC, k1, k2⟩
    · obtain ⟨a1, ⟨bc1, bs1, q1, q2, -⟩, -⟩ := hA
      have h9 := hn D gx v a1 q2
      unfold frN at h9
      rcases hf with ⟨k, -⟩ | ⟨k, -⟩ | ⟨k, -⟩ | ⟨k, -⟩
      · exact h9.1 k
      · rcases k with k | k
        · exact h9.2.1 k
        · exact h9.2.2.1 k
      · exact h9.2.2.2.1 k
      · exact h9.2.2.2.2 k
    · omega
  · omega
theorem fQ.byte {E : Nat} {g : fG} {x : cX} (hW : wI own ad h W σ) (hs : stQ h ad W A F DM most) (hf : fQ W (fun k => F (A k)) DM g x) (hlt : x.2.2.2.1 < E) (hE : E ≤ qe (fMo (fun k => F (A k)) DM x.1)) : dcb (wd W (gI g)) (gA g) = qc (fMo (fun k => F (A k)) DM x.1) x.2.2.2.1 := by
  obtain ⟨e1, e2, -⟩ := hf.md hW hs
  obtain ⟨cx, qe1, -⟩ := e2.cx
  have e4 : x.2.2.2.1 = qb (fMo (fun k => F (A k)) DM x.1) + gA g := hf.2.2.2.1
  rw [e4]
  exact cx.1 _ (by omega)
theorem stg.n1 (s : stg own ad own' ad' H H') (hB : cB own ad H) {a : Nat} (ha : xb_k H a ≠ 0) (ho : own a = 1) : xh_sm H H' a :=
  s.2.2.2.2.1 a ha (by omega) (by omega) (fun k hk => hB.nk ((by decide : ∀ k ∈ goC, k < 41) k hk) ho (by omega))
theorem cMx.sg (hB : cB own ad H) (hM : cMx own ad H mc M) (s : stg own ad own' ad' H H') : cMx own' ad' H' mc M := by
  obtain ⟨m1, m2, m3, m4⟩ := hM
  obtain ⟨a2, s2⟩ := s.cm hB (k := 2) (by decide) (by decide)
  obtain ⟨a0, s0⟩ := s.cm hB (k := 0) (by decide) (by decide)
  refine ⟨by rw [a2, (s.2.2.2.1 _ (hB.z 2 (by decide))).2]; exact m1, by rw [a0, s0.1]; exact m2, m3, fun i hi => ?_⟩
  obtain ⟨md, k1, k2⟩ := m4 i hi
  exact ⟨md, by rw [a2, s2.2.2]; exact k1, k2.fr (fun a ha ho => s.n1 hB ha ho) s.2.2.2.1 (fun a ha ho => by rw [s.2.2.1 a ha]; exact ho)⟩
/-- what a run leaves alone stays alike -/
theorem gQ.sg (hI : cI own ad H W σ ts K) (hM : cMx own ad H mc M) (s : stg own ad own' ad' H H') (hφ : ∀ k, k ∈ kB → φ' k = φ k) (h65 : ℓ' 65 = ℓ 65) (hν : ∀ j, j ∈ [2, 5, 42, 66] → ν' j = ν j) (hQ : gQ ad H W mc M ts φ ℓ ν y DM) :
    gTp ad' H' ts φ' ν' ∧ gMd ad' H' mc M φ' ν' DM ∧ (∀ i, i < wic W → (φ' 31 i).toInt.toNat < mc ∧ wd W i = M (φ' 31 i).toInt.toNat ∧ xb_r H' (ad' 2) (φ' 31 i).toInt.toNat = some (wim W i) ∧ (dn (wd W i) 3 / 3 = 0 → xb_r H' (wia W i) 6 = none) ∧ (dn (wd W i) 4 / 3 = 0 → xb_r H' (wia W i) 7 = none)) ∧ gNm ad' H' φ' ν' ∧ gAr ad' H' ℓ' ν' ∧ gFt ad' H' φ' := by
  obtain ⟨⟨hB, hW, -⟩, -⟩ := hI
  obtain ⟨q1, q2, q3, q4, q5, q6, q7, q8, q9⟩ := hQ
  have vn : ∀ j, j ∈ [2, 5, 42, 66] → vN ν' j = vN ν j := fun j hj => by unfold vN; rw [hν j hj]
  refine ⟨?_, ?_, fun i hi => ?_, ?_, ?_, ?_⟩
  · obtain ⟨a1, s1⟩ := s.cm hB (k := 1) (by decide) (by decide)
    unfold gTp
    rw [a1, s1.1, hφ 1 (by decide), hν 2 (by decide)]
    exact q1
  · obtain ⟨a2, s2⟩ := s.cm hB (k := 2) (by decide) (by decide)
    refine ⟨by rw [vn 5 (by decide)]; exact q2.1, fun m hm => ?_⟩
    obtain ⟨md, b, N, cA, S, g1, g2, g3, g4⟩ := q2.2 m hm
    obtain ⟨md', m1, m2⟩ := hM.2.2.2 m hm
    rw [g1] at m1
    have e9 := Option.some.inj m1
    subst e9
    refine ⟨md, b, N, cA, S, by rw [a2, s2.2.2]; exact g1, g2, ?_, ?_⟩
    · rw [(s.n1 hB (by rw [m2.1.1.1]; decide) m2.2.2.1).1]
      exact g3
    · rw [hφ 12 (by decide), hφ 8 (by decide)]
      exact g4
  · obtain ⟨a2, s2⟩ := s.cm hB (k := 2) (by decide) (by decide)
    have hiO := (hW.2.2.2.2.2.2.1.2.2.2 i hi).2
    obtain ⟨⟨b1, b2, -⟩, -⟩ := id hiO
    rw [(s.n1 hB (by rw [b1]; decide) b2).2.2, a2, s2.2.2, hφ 31 (by decide)]
    exact q3.2.1 i hi
  · obtain ⟨a29, s29⟩ := s.cm hB (k := 29) (by decide) (by decide)
    obtain ⟨a30, s30⟩ := s.cm hB (k := 30) (by decide) (by decide)
    obtain ⟨a31, s31⟩ := s.cm hB (k := 31) (by decide) (by decide)
    unfold gNm
    rw [a29, a30, a31, s29.1, s30.2.1, s31.1, vn 42 (by decide), hφ 3 (by decide), hφ 39 (by decide), hφ 40 (by decide), hφ 41 (by decide)]
    exact q4
  · obtain ⟨a16, s16⟩ := s.cm hB (k := 16) (by decide) (by decide)
    obtain ⟨a17, s17⟩ := s.cm hB (k := 17) (by decide) (by decide)
    unfold gAr
    rw [a16, a17, s16.1, s17.2.1, h65, hν 66 (by decide)]
    exact q5
  · obtain ⟨a0, s0⟩ := s.cm hB (k := 0) (by decide) (by decide)
    unfold gFt
    rw [a0, s0.1, hφ 89 (by decide)]
    exact q6
end HD

-- equality: a run of the class, step by step, as what a run of the reference follows
/-- where a run of the class stands: fuel left, owners, addresses, heap, pages, what came of it -/
abbrev cCf : Type := Nat × (Nat → Nat) × (Nat → Nat) × xb_H × Nat × Oc
def kfu (s : cCf) : Nat := s.1
def kow (s : cCf) : Nat → Nat := s.2.1
def kad (s : cCf) : Nat → Nat := s.2.2.1
def khp (s : cCf) : xb_H := s.2.2.2.1
def knp (s : cCf) : Nat := s.2.2.2.2.1
def kou (s : cCf) : Oc := s.2.2.2.2.2
/-- what is known where an instruction is done -/
def cAt (own ad : Nat → Nat) (h : xb_H) (W : wD) (σ rc rs : Nat) (s : cCf) (D : Nat) (gx : Nat → fG) (v : Nat → Int64) (t P lcn p0 E : Nat) (lo ν0 : Nat → Int32) (g : Nat) (G : ctG) : Prop :=
  kou s = .inl (D, gx, v) ∧ (∃ bc1 bs1, kQ own ad h W σ rc rs (kow s) (kad s) (khp s) bc1 bs1 (knp s)) ∧ rX (kad s) (khp s) W D gx t P lcn p0 E lo ν0 g G ∧ G 0 (gA (gx (D - 1))) (gC (gx (D - 1))) (gS (gx (D - 1))) ∧ ∀ j, j < gO (gx (D - 1)) + (gC (gx (D - 1))).length → xb_l (khp s) (kad s 37) j = v j
/-- a free move -/
def cFr (own ad : Nat → Nat) (h : xb_H) (W : wD) (σ rc rs : Nat) (s s' : cCf) : Prop :=
  ∃ (D : Nat) (gx : Nat → fG) (v : Nat → Int64) (t P lcn p0 E : Nat) (lo ν0 : Nat → Int32) (g : Nat) (G : ctG), cAt own ad h W σ rc rs s D gx v t P lcn p0 E lo ν0 g G ∧ frC W D gx (xb_l (khp s) (kad s 37)) (ct_B (dnu (wd W (gI (gx (D - 1))))) p0 E) ((dcb (wd W (gI (gx (D - 1)))) (gA (gx (D - 1)))).toInt % 256).toNat (kou s') ∧ stp [15, 37] [] (kow s) (kad s) (kow s) (kad s) (khp s) (khp s') ∧ kfu s' = kfu s ∧ kow s' = kow s ∧ kad s' = kad s ∧ knp s' = knp s
/-- a step -/
def cSt (own ad : Nat → Nat) (h : xb_H) (W : wD) (σ rc rs : Nat) (s s' : cCf) : Prop :=
  ∃ (D : Nat) (gx : Nat → fG) (v : Nat → Int64) (t P lcn p0 E : Nat) (lo ν0 : Nat → Int32) (g : Nat) (G : ctG), cAt own ad h W σ rc rs s D gx v t P lcn p0 E lo ν0 g G ∧ frN ((dcb (wd W (gI (gx (D - 1)))) (gA (gx (D - 1)))).toInt % 256).toNat ∧ ∃ (n0 bc2 bs2 : Nat) (e : Option Int64) (ε : wEf), (xb_i (khp s) (kad s 27) 1).toInt = n0 ∧ sQ (kow s) (kad s) (khp s) (wgr W (knp s)) σ rc rs (kow s') (kad s') (khp s') bc2 bs2 (gI (gx (D - 1))) (kou s') e ε ∧ stC (khp s) (kad s) (wgr W (knp s)) D gx n0 (ct_B (dnu (wd W (gI (gx (D - 1))))) p0 E) ν0 ((dcb (wd W (gI (gx (D - 1)))) (gA (gx (D - 1)))).toInt % 256).toNat (kou s') e ε ∧ kfu s = kfu s' + 1 ∧ knp s' = knp s + ε.2.2
/-- the run so far -/
def cCh (own ad : Nat → Nat) (h : xb_H) (W : wD) (σ rc rs : Nat) (S0 : cCf → Prop) (n : Nat) (c : Nat → cCf) (s : cCf) : Prop := S0 (c 0) ∧ c n = s ∧ ∀ i, i < n → cFr own ad h W σ rc rs (c i) (c (i + 1)) ∨ cSt own ad h W σ rc rs (c i) (c (i + 1))
def cJ (own ad : Nat → Nat) (h : xb_H) (W : wD) (σ rc rs : Nat) (S0 : cCf → Prop) (k : Nat) (own1 ad1 : Nat → Nat) (h1 : xb_H) (np : Nat) (o : Oc) : Prop := ∃ (n : Nat) (c : Nat → cCf), cCh own ad h W σ rc rs S0 n c (k, own1, ad1, h1, np, o)
/-- both stand at the same place -/
def cMt (W : wD) (A : Nat → Nat) (F : Nat → Nat → Int32) (DM : Nat → zM) (most : Nat → Int64) (s : cCf) (lf : Nat) (z : rZ) (w : rWd) : Prop := kfu s = lf ∧ oQ W (fun k => F (A k)) DM (kou s) z ∧ wQ (kad s) (khp s) W (knp s) (gmV A F DM) w ∧ stQ (khp s) (kad s) W A F DM most
section GP
variable {own ad : Nat → Nat} {h : xb_H} {W : wD} {σ rc rs : Nat} {S0 : cCf → Prop} {A : Nat → Nat} {F : Nat → Nat → Int32} {DM : Nat → zM} {most : Nat → Int64}
theorem cCh.snoc {n : Nat} {c : Nat → cCf} {s s' : cCf} (hc : cCh own ad h W σ rc rs S0 n c s) (hs : cFr own ad h W σ rc rs s s' ∨ cSt own ad h W σ rc rs s s') : cCh own ad h W σ rc rs S0 (n + 1) (va_up c (n + 1) s') s' := by
  obtain ⟨h1, h2, h3⟩ := hc
  refine ⟨by rw [xh_up, if_neg (by omega)]; exact h1, by rw [xh_up, if_pos rfl], fun i hi => ?_⟩
  rw [xh_up, xh_up, if_neg (show ¬ i = n + 1 by omega)]
  by_cases h9 : i = n
  · subst h9
    rw [if_pos rfl, h2]
    exact hs
  · rw [if_neg (by omega)]
    exact h3 i (by omega)
theorem cJ_fr : jFr own ad h W σ rc rs (cJ own ad h W σ rc rs S0) := by
  intro k np bc1 bs1 own1 ad1 h1 h2 D gx v t P lcn p0 E lo ν0 g G o2 hq hr hG hv hJ hf hs hR
  obtain ⟨n, c, hc⟩ := hJ
  exact ⟨n + 1, _, hc.snoc (s' := (k, own1, ad1, h2, np, o2)) (.inl ⟨D, gx, v, t, P, lcn, p0, E, lo, ν0, g, G, ⟨rfl, ⟨bc1, bs1, hq⟩, hr, hG, hv⟩, hf, hs, rfl, rfl, rfl, rfl⟩)⟩
theorem cJ_st : jSt own ad h W σ rc rs (cJ own ad h W σ rc rs S0) := by
  intro k np n0 bc1 bs1 bc2 bs2 own1 ad1 own2 ad2 h1 h2 D gx v t P lcn p0 E lo ν0 g G o2 e ε hq hr hG hv hJ hf hn hsq hst
  obtain ⟨n, c, hc⟩ := hJ
  exact ⟨n + 1, _, hc.snoc (s' := (k, own2, ad2, h2, np + ε.2.2, o2)) (.inr ⟨D, gx, v, t, P, lcn, p0, E, lo, ν0, g, G, ⟨rfl, ⟨bc1, bs1, hq⟩, hr, hG, hv⟩, hf, n0, bc2, bs2, e, ε, hn, hsq, hst, rfl, rfl⟩)⟩
/-- what a run of the reference needs to follow -/
theorem cMt.at_ {s : cCf} {D : Nat} {gx : Nat → fG} {v : Nat → Int64} {t P lcn p0 E : Nat} {lo ν0 : Nat → Int32} {g : Nat} {G : ctG} {lf n : Nat} {x : cX} {r : List cX} {ω : Nat → Int64} {w : rWd} {T p0' E' : Nat} {lo' ν0' ν1' : Nat → Int32} {G' : ctG} {V' : Nat → Prop} {rm : Int} (hX : ∀ i, i < wic W → moB (wd W i)) (hA : cAt own ad h W σ rc rs s D gx v t P lcn p0 E lo ν0 g G) (hm : cMt W A F DM most s lf (.inl (x :: r, n, ω)) w) (hb : bWt (fMo (fun k => F (A k)) DM x.1) (fTy (fun k => F (A k)) DM x.1) T p0' E' lo' ν0' ν1' G' V' rm) (hG : G' 0 x.2.2.2.1 x.2.2.2.2.1 x.2.2.2.2.2) (hV : ∀ y ∈ x.2.2.2.2.2, V' y.1) :
    cmP (kow s) (kad s) (khp s) (wgr W (knp s)) σ D gx t P lcn p0 E lo ν0 g G A F DM most x r n ω T p0' E' lo' ν0' ν1' G' V' rm ∧ cB (kow s) (kad s) (khp s) ∧ wI (kow s) (kad s) (khp s) (wgr W (knp s)) σ := by
  obtain ⟨a1, ⟨bc1, bs1, q1, q2, q3, q4, q5⟩, a3, a4, a5⟩ := hA
  obtain ⟨m1, m2, m3, m4⟩ := hm
  rw [a1] at m2
  exact ⟨⟨hX, q2, a3.wg, a4, m4, oQ.wg.mp (m2.vv a5), hb, hG, hV⟩, q1.1, q2⟩
theorem nSt_fr {op : Nat} : nSt op ↔ ¬ frN op := by
  unfold nSt frN
  omega
/-- the reference follows -/
theorem rJ_st {N : Nat} {c : Nat → cCf} {s : cCf} {rr : Int32} (hX : ∀ i, i < wic W → moB (wd W i)) (hc : cCh own ad h W σ rc rs S0 N c s) (hWf : wI (kow s) (kad s) (khp s) (wgr W (knp s)) σ) (hgo : goA rr (kfu s) W (kou s)) : jRS A F DM most (fun lf z w => ∃ i, i ≤ N ∧ cMt W A F DM most (c i) lf z w) := by
  intro F' hF lf l2 n op x r ω w w' z z' T p0 E lo ν0 ν1 G V rm hb hG hnl hV hop hl hJ hst htz
  obtain ⟨i, hi, hm⟩ := hJ
  have hF' : ∀ k, k ∈ kB → F (A k) = F' (A k) := fun k hk => (hF k hk).symm
  have cvt : ∀ {s : cCf} {lf : Nat} {z : rZ} {w : rWd}, cMt W A F DM most s lf z w → cMt W A F' DM most s lf z w := fun h9 => ⟨h9.1, h9.2.1.cgF (by rw [hF 31 (by decide)]) (by rw [hF 44 (by decide)]), by rw [gmV_cg hF]; exact h9.2.2.1, h9.2.2.2.cgF hF⟩
  have cvb : ∀ {s : cCf} {lf : Nat} {z : rZ} {w : rWd}, cMt W A F' DM most s lf z w → cMt W A F DM most s lf z w := fun h9 => ⟨h9.1, h9.2.1.cgF (by rw [hF 31 (by decide)]) (by rw [hF 44 (by decide)]), by rw [gmV_cg hF']; exact h9.2.2.1, h9.2.2.2.cgF hF'⟩
  have hm' := cvt hm
  have hopC : ∀ {D : Nat} {gx : Nat → fG} {v : Nat → Int64} {t P lcn p0' E' : Nat} {lo' ν0' : Nat → Int32} {g : Nat} {G' : ctG}, cAt own ad h W σ rc rs (c i) D gx v t P lcn p0' E' lo' ν0' g G' → ((dcb (wd W (gI (gx (D - 1)))) (gA (gx (D - 1)))).toInt % 256).toNat = op ∧ (dcb (wd W (gI (gx (D - 1)))) (gA (gx (D - 1)))).toInt % 256 = op := by
    intro D gx v t P lcn p0' E' lo' ν0' g G' hA
    obtain ⟨hcm, -, -⟩ := cMt.at_ hX hA hm' hb hG hV
    obtain ⟨hpl, -, -, -, -, e3, -⟩ := hcm.pl
    have h1 := hpl.sh
    rw [e3, h1] at hop
    have h2 : (dcb (wd W (gI (gx (D - 1)))) (gA (gx (D - 1)))).toInt % 256 = op := hop
    exact ⟨by omega, h2⟩
  rcases Nat.lt_or_ge i N with hlt | hge
  · rcases hc.2.2 i hlt with ⟨D, gx, v, t, P, lcn, p0', E', lo', ν0', g, G', hA, hf, hs, k1, k2, k3, k4⟩ | ⟨D, gx, v, t, P, lcn, p0', E', lo', ν0', g, G', hA, hfn, n0, bc2, bs2, e, ε, hn0, hsq, hstC, k1, k2⟩
    · obtain ⟨hcm, hB, hW⟩ := cMt.at_ hX hA hm' hb hG hV
      obtain ⟨o1, o2⟩ := hopC hA
      rw [o1] at hf
      have hns : nSt op := by
        rcases hf with ⟨k, -⟩ | ⟨k, -⟩ | ⟨k, -⟩ | ⟨k, -⟩
        · exact .inl k
        · rcases k with k | k
          · exact .inr (.inl k)
          · exact .inr (.inr (.inl k))
        · exact .inr (.inr (.inr (.inl k)))
        · exact .inr (.inr (.inr (.inr k)))
      rcases hl with ⟨-, hl⟩ | ⟨hl, -⟩
      · obtain ⟨r1, r2⟩ := cq_free hcm o2 hf hst htz
        obtain ⟨r3, r4⟩ := stp.wq (i0 := gI (gx (D - 1))) hB hW hs (by decide) hm'.2.2.2 hm'.2.2.1 hcm.fq.1.2.2.2.1
        refine ⟨i + 1, hlt, cvb ⟨by rw [k1, hm.1, hl], oQ.wg.mpr r2, ?_, ?_⟩⟩
        · rw [k3, k4, r1]
          exact r3
        · rw [k3]
          exact r4
      · exact absurd hns hl
    · obtain ⟨hcm, hB, hW⟩ := cMt.at_ hX hA hm' hb hG hV
      obtain ⟨o1, o2⟩ := hopC hA
      rw [o1] at hfn hstC
      rcases hl with ⟨hl, -⟩ | ⟨-, hl⟩
      · exact absurd hfn (nSt_fr.mp hl)
      · obtain ⟨r1, r2, r3⟩ := cq_step hB hcm o2 hfn hm'.2.2.1 hn0 hsq hstC hst htz
        refine ⟨i + 1, hlt, cvb ⟨by have := hm.1; omega, oQ.wg.mpr r1, ?_, r3⟩⟩
        rw [k2]
        exact r2
  · exfalso
    have ei : i = N := by omega
    subst ei
    rw [hc.2.1] at hm hopC
    obtain ⟨m1, m2, m3, m4⟩ := id hm
    cases ho : kou s with
    | inl y =>
      obtain ⟨D, gx, v⟩ := y
      rw [ho] at hgo m2
      obtain ⟨-, g2, g3⟩ := hgo
      obtain ⟨h0, ⟨D', ed, f, fr⟩, -⟩ := m2
      have eD : D - 1 = D' := by omega
      rw [eD] at g3
      have f' : fQ (wgr W (knp s)) (fun k => F (A k)) DM (gx D') x := f
      obtain ⟨e1, e2, -⟩ := f'.md hWf m4
      obtain ⟨cx, qe1, -⟩ := e2.cx
      have e4 : x.2.2.2.1 = qb (fMo (fun k => F (A k)) DM x.1) + gA (gx D') := f.2.2.2.1
      have eM : fMo (fun k => F' (A k)) DM x.1 = fMo (fun k => F (A k)) DM x.1 := by rw [fMo_cg (φ' := fun k => F' (A k)) (φ := fun k => F (A k)) (by rw [hF 31 (by decide)]) (by rw [hF 44 (by decide)])]
      have hlt : x.2.2.2.1 < E := (hb.2.2.2.2.2.2.1.2.1 _ _ _ hG).1.2.1
      have hE := hb.2.1
      rw [eM] at hE hop
      have e5 : dcb (wd W (gI (gx D'))) (gA (gx D')) = qc (fMo (fun k => F (A k)) DM x.1) x.2.2.2.1 := by
        rw [e4]
        exact cx.1 _ (by have : dN (wd (wgr W (knp s)) (gI (gx D'))) = dN (wd W (gI (gx D'))) := rfl; omega)
      rw [e5] at g3
      have e6 : ((qc (fMo (fun k => F (A k)) DM x.1) x.2.2.2.1).toInt % 256).toNat = op := by omega
      rw [e6] at g3
      rcases hl with ⟨hl, -⟩ | ⟨-, hl⟩
      · exact absurd g3 (nSt_fr.mp hl)
      · omega
    | inr y =>
      rw [ho] at m2
      cases y with
      | inl y => cases m2.1
      | inr y => exact m2
end GP

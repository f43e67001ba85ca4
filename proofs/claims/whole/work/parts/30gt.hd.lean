-- equality: run
section HE0
variable {own own' ad : Nat → Nat} {h : xb_H} {W : wD} {σ rc rs k0 : Nat} {J J' : Nat → (Nat → Nat) → (Nat → Nat) → xb_H → Nat → Oc → Prop} {S0 S0' : cCf → Prop} {φ : Nat → Nat → Int32} {DM : Nat → zM}
theorem jGo.mono (hJ : ∀ k o1 a1 h1 np o, J k o1 a1 h1 np o → J' k o1 a1 h1 np o) (h9 : jGo own ad h W σ rc rs k0 J) : jGo own ad h W σ rc rs k0 J' :=
  ⟨fun e => by
    obtain ⟨D, gx, a, b⟩ := h9.1 e
    exact ⟨D, gx, a, hJ _ _ _ _ _ _ b⟩, fun f n0 bc' bs' own' ad' h' o e a1 a2 a3 a4 a5 a6 => hJ _ _ _ _ _ _ (h9.2 f n0 bc' bs' own' ad' h' o e a1 a2 a3 a4 a5 a6)⟩
theorem cJ.mono (hS : ∀ s, S0 s → S0' s) {k : Nat} {o1 a1 : Nat → Nat} {h1 : xb_H} {np : Nat} {o : Oc} (h9 : cJ own ad h W σ rc rs S0 k o1 a1 h1 np o) : cJ own ad h W σ rc rs S0' k o1 a1 h1 np o := by
  obtain ⟨n, c, h1, h2⟩ := h9
  exact ⟨n, c, hS _ h1, h2⟩
theorem oQ.pos {o : Oc} {s : Int32 × Int32 × Int32 × Int32} (h9 : oQ W φ DM o (.inr s)) : 0 < s.1.toInt := by
  match o, h9 with
  | .inr (.inr t), h9 => exact h9.1
  | .inl _, h9 => exact h9.elim
  | .inr (.inl _), h9 => exact h9.elim
end HE0
section HE1
variable {own own' : Nat → Nat} {mm : Nat} {A : Nat → Nat} {h : xb_H} {F : Nat → Nat → Int32} {v : Nat → Int32} {DM : Nat → zM} {len rl K : Nat}
/-- who owns what is not the reference's does not matter -/
theorem rA.ow (hA : rA own mm A h F v DM len rl K) (ho : ∀ a, 60 ≤ own a → own a ≠ 500 → own' a = own a) : rA own' mm A h F v DM len rl K := by
  obtain ⟨⟨b1, b2, b3⟩, a2, a3, ⟨rw_, f, a4, a5⟩, a6⟩ := hA
  refine ⟨⟨by rw [ho mm (by omega) (by omega)]; exact b1, b2, fun e he => ?_⟩, a2, a3, ⟨rw_, f, by rw [ho rw_ (by omega) (by omega)]; exact a4, a5⟩, a6⟩
  obtain ⟨c1, c2, c3, c4⟩ := b3 e he
  have := (by decide : ∀ e ∈ aL, e.1 ≤ 90) e he
  exact ⟨c1, c2, by rw [ho _ (by omega) (by omega)]; exact c3, c4⟩
end HE1
section HE
variable {oc oc' or_ or' A A' : Nat → Nat} {H H1 H2 h h2 : xb_H} {F F2 : Nat → Nat → Int32} {v v2 u : Nat → Int32} {DM DM' : Nat → zM} {len rl len' rl' : Nat} {ad ad' : Nat → Nat} {W W' : wD} {σ x1 mm x3 K ts ts' mc mc' bc bs bc1 bs1 rc rs : Nat} {M M' : Nat → mD} {Qr : Int32 → xb_H → Nat → Nat → Prop} {Qs : Int32 → xb_H → Prop} {Ql : Int64 → xb_H → Prop} {r : Int32} {y : Int64} {φ φ' : Nat → Nat → Int32} {ℓ : Nat → Nat → Int64} {ν : Nat → Int32}
theorem gw_run {a1 : Int32} (hP : jG σ x1 mm x3 (K + 1) H bc bs) (hX : jV σ x1 mm x3 K (fun H1 b1 s1 Q2 => w_M_run mm a1 H1 (fun r2 H2 => Q2 r2 H2 b1 s1)) Qr) : w_Law_run x1 a1 x3 H bc bs Qr := by
  obtain ⟨oc, or_, A, v, DM, len, rl, ad, W, ts, mc, M, rc, rs, hO⟩ := hP.op
  obtain ⟨⟨e0, hI, hg, hM⟩, hQ, hA, eH, nx⟩ := id hO
  subst e0
  have hB := hI.1.1
  have i62 : xb_i H (ad 15) 3 = 0 ↔ v 62 = 0 := hQ.2.2.2.2.2.2.2.1.i3
  have hmo : ∀ i, i < wic W → moB (wd W i) ∧ fwd (wd W i) := fun i hi => by
    obtain ⟨c1, c2, -⟩ := hQ.2.2.1.2.1 i hi
    obtain ⟨md, b, N, cA, S, g1, g2, g3, g4, g5, g6, g7⟩ := hQ.2.1.2 _ c1
    rw [c2]
    exact ⟨g5, g6⟩
  unfold w_Law_run
  refine ⟨hB.k 0 (by omega), ho_run (J := cJ oc ad (xb_I H (ad 15) 7 0) W σ (rc + xC ad H W ts (K + 1)) (rs + xS ad H W ts (K + 1)) (fun s => (¬ byd 1000001 a1 ∧ xb_i H (ad 15) 3 ≠ 0) ∧ gS0 W A (xb_i H) DM (xb_l H (A 55)) (xb_l H (A 74)) (xb_l H (A 67)) v (rwd A H (xb_i H) v) a1.toInt.toNat s)) hI hg (fun i hi => (hmo i hi).1) (fun i hi => (hmo i hi).2) (fun k0 hk0 hk1 h3 => ?_) cJ_fr cJ_st (fun z H1 oc' ad' bc1 bs1 np k o s hoR hJ hgA hI' hg' _ => ?_) (fun h9 _ _ => .inl ⟨rfl, ?_⟩) (fun h9 h8 _ _ => .inr ⟨rfl, ?_⟩)⟩
  · have e : k0 = a1.toInt.toNat := by rw [hk0]; rfl
    subst e
    have nb : ¬ byd 1000001 a1 := by
      unfold byd
      omega
    exact jGo.mono (fun k o1 a1 h1 np o h9 => h9.mono (fun s hs => ⟨⟨nb, h3⟩, hs⟩)) (gS0.go hI (fun i hi => (hmo i hi).1) hQ h3)
  · obtain ⟨N, c, hc⟩ := hJ
    obtain ⟨⟨nb, h3⟩, hS⟩ := hc.1
    have h62 : v 62 ≠ 0 := fun h9 => h3 (i62.mpr h9)
    refine jO.chV (w := fun H1 b1 s1 Q2 => w_M_run mm a1 H1 (fun r2 H2 => Q2 r2 H2 b1 s1)) hO hX (s.hR hB) (s.cm hB (k := 0) (by decide) (by decide)).1 hI' (hM.sg hB s) hg' (fun H2 or' Q2 hA1 hs o3 hg2 hQ2 => ?_)
    have hF2 : ∀ k, k ∈ gAL → xb_i H2 (A k) = xb_i H (A k) := fun k hk => hs.i (CA := []) k hk (by simp)
    have hS2 := hS.cgR hF2
    have ew : rwd A H2 (xb_i H2) v = rwd A H (xb_i H) v := by
      unfold rwd
      rw [(hs.1 61 (by decide)).2, (hs.1 57 (by decide)).1, (hs.1 54 (by decide)).1, (hs.1 56 (by decide)).1, (hs.1 87 (by decide)).2]
    have hA2 : rA (fun a => if a = x3 then 0 else or' a) mm A H2 (xb_i H2) v DM len rl (K + 1) := hA1.ow (fun a h1 h2 => if_neg (fun e => h2 (by rw [e]; exact o3)))
    have hvm : vmk A H2 (xb_i H2) := by
      have h9 : vmk A H (xb_i H) := hQ.2.2.2.2.2.2.2.2.1
      unfold vmk at *
      rw [(hs.1 75 (by decide)).1, (hs.1 74 (by decide)).2]
      exact h9
    refine r_run (J := fun lf z w => ∃ i, i ≤ N ∧ cMt W A (xb_i H2) DM (xb_l H (A 55)) (c i) lf z w) hA2 hvm ?_ (fun lf zz w ⟨i, hi, hm⟩ => hm.2.1.pos) (fun lf hlf _ h63 => ?_) (fun lf f w' zz z' hlf _ h63 h64 hca htz => ⟨0, Nat.zero_le _, ?_⟩) (fun y0 hy => ?_) (fun hx0 _ vS hvS vS0 vS63 r2 h2 F2 u hE => ?_)
    · rw [(hs.1 55 (by decide)).2]
      exact rJ_st (fun i hi => (hmo i hi).1) hc hI'.1.2.1 hgA
    · obtain ⟨a1', cs, n, b1, b2⟩ := hS2.1 h63
      have e : lf = a1.toInt.toNat := by rw [hlf]; rfl
      refine ⟨a1', cs, n, b1, 0, Nat.zero_le _, ?_⟩
      rw [ew, (hs.1 74 (by decide)).2, e]
      exact b2
    · have e : lf = a1.toInt.toNat := by rw [hlf]; rfl
      rw [(hs.1 67 (by decide)).2, (hs.1 74 (by decide)).2, ew] at hca
      rw [e]
      exact hS2.2 h63 f w' zz z' h64 hca htz
    · exfalso
      unfold byd at nb
      rcases hy with ⟨hy, -⟩ | ⟨-, hy, -⟩
      · omega
      · exact h62 hy
    · obtain ⟨⟨hf0, hA'⟩, ⟨hkB, hkL, hmm, hvm', huv⟩, hcase⟩ := hE
      have f0' : f0 or' H2 (xb_i H2) h2 F2 := ⟨hf0.1, hf0.2.1, hf0.2.2.1, fun a ha => hf0.2.2.2 a (by
        have : a ≠ x3 := fun e => by rw [e, o3] at ha; omega
        show (if a = x3 then 0 else or' a) < 60
        rw [if_neg this]
        exact ha)⟩
      have l3 : xb_l h2 x3 = xb_l H2 x3 := (hf0.2.2.2 x3 (by
        show (if x3 = x3 then 0 else or' x3) < 60
        rw [if_pos rfl]
        omega)).1
      have hA3 : rA or' mm A h2 F2 u DM len rl K := hA'.ow (fun a h1 h2 => by
        have h9 : 60 ≤ (if a = x3 then 0 else or' a) := h1
        by_cases h8 : a = x3
        · rw [if_pos h8] at h9
          omega
        · exact (if_neg h8).symm)
      have hu9 : ∀ j, j ∉ rnV → j ≠ 53 → j ≠ 88 → j ≠ 95 → j ≠ 62 → j ≠ 0 → j ≠ 63 → u j = v j := fun j h1 h2 h3 h4 h5 h6 h7 => (huv j h1 h2 h3 h4 h5).trans (hvS j h1 h6 h4 h7)
      have u0' : u 0 = 0 := (huv 0 (by decide) (by decide) (by decide) (by decide) (by decide)).trans vS0
      have u63 : u 63 ≠ 0 := by
        rw [huv 63 (by decide) (by decide) (by decide) (by decide) (by decide)]
        exact vS63
      have hφ : ∀ k, k ∈ kB → F2 (A k) = xb_i H (A k) := fun k hk => (hkB k hk).trans (hs.1 k ((by decide : ∀ k, k ∈ kB → ∃ e ∈ aL, e.1 = k) k hk)).1
      have hν : ∀ j, j ∈ [2, 5, 42, 66] → u j = v j := fun j hj => by
        have := (by decide : ∀ j, j ∈ [2, 5, 42, 66] → j ∉ rnV ∧ j ≠ 53 ∧ j ≠ 88 ∧ j ≠ 95 ∧ j ≠ 62 ∧ j ≠ 0 ∧ j ≠ 63) j hj
        exact hu9 j this.1 this.2.1 this.2.2.1 this.2.2.2.1 this.2.2.2.2.1 this.2.2.2.2.2.1 this.2.2.2.2.2.2
      obtain ⟨g1, g2, g3, g4, g5, g6⟩ := hQ.sg hI hM s (φ' := fun k => F2 (A k)) (ℓ' := fun k => xb_l h2 (A k)) (ν' := u) hφ ((hkL 65 (by decide)).trans (hs.1 65 (by decide)).2) hν
      have a15 : ad' 15 = ad 15 := s.2.2.2.2.2.2 15 (by decide)
      have a36 : ad' 36 = ad 36 := s.2.2.2.2.2.2 36 (by decide)
      have n36 : ad 36 ≠ ad 15 := hB.ne (by omega) (by omega) (by omega)
      have i36 : xb_i (xb_I H (ad 15) 7 0) (ad 36) = xb_i H (ad 36) := by rw [xh_iI, if_neg n36]
      obtain ⟨y1, y2⟩ := hQ.2.2.2.2.2.2.1
      have fin : ∀ (lf : Nat) (zz : rZ), cMt W A (xb_i H2) DM (xb_l H (A 55)) (k, oc', ad', H1, np, o) lf zz (rwd A h2 F2 u) → gRs ad' H1 (fun k => F2 (A k)) (xb_l h2 mm 85) → gRn ad' H1 (wgr W np) (fun k => F2 (A k)) (fun k => xb_l h2 (A k)) u DM → gQ ad' H1 (wgr W np) mc M ts (fun k => F2 (A k)) (fun k => xb_l h2 (A k)) u (xb_l h2 mm 85) DM := by
        intro lf zz ⟨m1, m2, m3, m4⟩ hrs hrn
        have hk0 : ∀ k, k ∈ gSL → (fun k => F2 (A k)) (id k) = xb_i H2 (A k) := fun k hk => hkB k ((by decide : ∀ k, k ∈ gSL → k ∈ kB) k hk)
        have e55 : xb_l h2 (A 55) = xb_l H (A 55) := (hkL 55 (by decide)).trans (hs.1 55 (by decide)).2
        have vn : ∀ j, j ∉ rnV → j ≠ 53 → j ≠ 88 → j ≠ 95 → j ≠ 62 → j ≠ 0 → j ≠ 63 → vN u j = vN v j := fun j h1 h2 h3 h4 h5 h6 h7 => by
          unfold vN
          rw [hu9 j h1 h2 h3 h4 h5 h6 h7]
        obtain ⟨c1, c2, c3, c4⟩ := hQ.2.2.1.1
        refine ⟨g1, g2, ⟨⟨(vn 30 (by decide) (by decide) (by decide) (by decide) (by decide) (by decide) (by decide)).trans c1, (vn 43 (by decide) (by decide) (by decide) (by decide) (by decide) (by decide) (by decide)).trans c2, (vn 58 (by decide) (by decide) (by decide) (by decide) (by decide) (by decide) (by decide)).trans c3, (vn 47 (by decide) (by decide) (by decide) (by decide) (by decide) (by decide) (by decide)).trans c4⟩, g3, ?_, ?_⟩, g4, g5, g6, hrs, hrn, hvm', ?_⟩
        · show stQ H1 ad' (wgr W np) id (fun k => F2 (A k)) DM (xb_l h2 (A 55))
          rw [e55]
          have m4' : stQ H1 ad' (wgr W np) A (xb_i H2) DM (xb_l H (A 55)) := m4
          exact m4'.cg0 (A' := id) (F' := fun k => F2 (A k)) hk0
        · have eg : gmV id (fun k => F2 (A k)) DM = gmV A (xb_i H2) DM := gmV_cg0 (A := A) (A' := id) (F := xb_i H2) (F' := fun k => F2 (A k)) hk0
          rw [eg]
          exact m3
        · have x9 : gXt H1 W (fun k => xb_i H (A k)) (fun k => xb_l H (A k)) DM := hQ.2.2.2.2.2.2.2.2.2.sm hI.1.2.1 (fun a ha ho => s.n1 hB ha ho)
          have x8 : gXt H1 (wgr W np) (fun k => xb_i H (A k)) (fun k => xb_l H (A k)) DM := x9
          exact x8.cg (φ := fun k => xb_i H (A k)) (ℓ := fun k => xb_l H (A k)) (φ' := fun k => F2 (A k)) (ℓ' := fun k => xb_l h2 (A k)) (fun k hk => hφ k ((by decide : ∀ k, k ∈ [31, 32, 33, 37, 38, 59, 60] → k ∈ kB) k hk)) ((hkL 50 (by decide)).trans (hs.1 50 (by decide)).2)
      have zfin : r2 = z ∧ gQ ad' H1 (wgr W np) mc M ts (fun k => F2 (A k)) (fun k => xb_l h2 (A k)) u (xb_l h2 mm 85) DM := by
        rcases hcase with ⟨e2, ⟨u62, u82⟩, f86, lmm, x, cs, n, ω, hst, eω, ⟨i, hi, hm⟩, hns⟩ | ⟨e2, u62, u68, f86, lf, n, ω, ⟨i, hi, hm⟩, l85⟩ | ⟨e2, u62, u68, lmm, lf, zz, ⟨i, hi, hm⟩, f0z, f1z, f2z, f3z⟩
        · obtain ⟨s1, -, s3⟩ := id hst
          obtain ⟨top, opens, t1, t2, t3⟩ := s3 (by simp)
          obtain ⟨o9, T, p0, E, lo, ν0, ν1, G, V, rm, hux, hG, -, -⟩ := n_uX hA'.N s1 t1 t2 t3
          have hb := hux.2.1.2.2.1.1
          have hlt : x.2.2.2.1 < E := (hb.2.2.2.2.2.2.1.2.1 _ _ _ hG).1.2.1
          have eM : fMo (fun k => F2 (A k)) DM x.1 = fMo (fun k => xb_i H2 (A k)) DM x.1 := by rw [fMo_cg (φ' := fun k => F2 (A k)) (φ := fun k => xb_i H2 (A k)) (hkB 31 (by decide)) (hkB 44 (by decide))]
          have hE := hb.2.1
          rw [eM] at hE hns
          have ei : i = N := hc.last2 hi hm.1 (fun D gx vv hk hw => by
            have m2 := hm.2.1
            rw [hk] at m2
            obtain ⟨h0, ⟨D', ed, f, fr⟩, -⟩ := m2
            have eD : D - 1 = D' := by omega
            rw [eD]
            have f' : fQ (wgr W (knp (c i))) (fun k => xb_i H2 (A k)) DM (gx D') x := f
            have hb9 := f'.byte hw hm.2.2.2 hlt hE
            have hb8 : dcb (wd W (gI (gx D'))) (gA (gx D')) = qc (fMo (fun k => xb_i H2 (A k)) DM x.1) x.2.2.2.1 := hb9
            rw [hb8]
            exact Classical.byContradiction (fun h9 => hns (nSt_fr.mpr h9)))
          rw [ei, hc.2.1] at hm
          have m2 := hm.2.1
          match o, m2, hgA, hoR, fin with
          | .inl (D, gx, vv), m2, hgA, hoR, fin =>
            have m2' : oQ W (fun k => xb_i H2 (A k)) DM (.inl (D, gx, vv)) (.inl (x :: cs, n, ω)) := m2
            have hgA' : z = 2 := hgA.1
            obtain ⟨rI1, v37, l15, -, i36'⟩ := hoR
            refine ⟨by rw [e2, hgA'], fin 0 _ hm ⟨?_, fun j hj => ?_⟩ (.inr ⟨?_, ?_, .inr ⟨u63, u82, D, gx, x :: cs, n, rI1, hst, ?_⟩⟩)⟩
            · rw [lmm, hs.2, a15, l15]
              exact y1
            · show F2 (A 86) j = _
              rw [f86, (hs.1 86 (by decide)).1, a36, i36', i36]
              exact y2 j hj
            · intro h9
              have := rI1.1.2.2.1
              rw [h9] at this
              cases this
            · rw [u62, hvS 62 (by decide) (by decide) (by decide) (by decide)]
              exact h62
            · have m3 := m2'.vv v37
              show oQ (wgr W np) (fun k => F2 (A k)) DM (.inl (D, gx, xb_l H1 (ad' 37))) (.inl (x :: cs, n, xb_l h2 (A 74)))
              rw [eω]
              exact oQ.wg.mp (m3.cgF (hkB 31 (by decide)) (hkB 44 (by decide)))
          | .inr (.inl y), m2, hgA, hoR, fin =>
            have m2' : oQ W (fun k => xb_i H2 (A k)) DM (.inr (.inl y)) (.inl (x :: cs, n, ω)) := m2
            cases m2'.1
          | .inr (.inr t), m2, hgA, hoR, fin =>
            have m2' : False := m2
            exact m2'.elim
        · have ei : i = N := hc.last hi (fun D gx vv hk => by
            have m2 := hm.2.1
            rw [hk] at m2
            obtain ⟨h0, h9, -⟩ := m2
            have h9' : D = 0 := h9
            omega)
          rw [ei, hc.2.1] at hm
          have m2 := hm.2.1
          match o, m2, hgA, hoR, fin with
          | .inl (D, gx, vv), m2, hgA, hoR, fin =>
            have m2' : oQ W (fun k => xb_i H2 (A k)) DM (.inl (D, gx, vv)) (.inl ([], n, ω)) := m2
            exfalso
            have h9' : D = 0 := m2'.2.1
            have := m2'.1
            omega
          | .inr (.inl y), m2, hgA, hoR, fin =>
            have m2' : oQ W (fun k => xb_i H2 (A k)) DM (.inr (.inl y)) (.inl ([], n, ω)) := m2
            have hgA' : z = 0 := hgA
            obtain ⟨⟨i3, i4⟩, l5, -, i36'⟩ := hoR
            refine ⟨by rw [e2, hgA'], fin lf _ hm ⟨?_, fun j hj => ?_⟩ (.inl ⟨?_, u62, Int32.toInt.inj u68⟩)⟩
            · rw [a15, l5, l85, m2'.2]
            · show F2 (A 86) j = _
              rw [f86, (hs.1 86 (by decide)).1, a36, i36', i36]
              exact y2 j hj
            · rw [a15]
              exact Int32.toInt.inj i3
          | .inr (.inr t), m2, hgA, hoR, fin =>
            have m2' : False := m2
            exact m2'.elim
        · have ei : i = N := hc.last hi (fun D gx vv hk => by
            have m2 := hm.2.1
            rw [hk] at m2
            exact m2)
          rw [ei, hc.2.1] at hm
          have m2 := hm.2.1
          match o, m2, hgA, hoR, fin with
          | .inl (D, gx, vv), m2, hgA, hoR, fin =>
            have m2' : False := m2
            exact m2'.elim
          | .inr (.inl y), m2, hgA, hoR, fin =>
            have m2' : False := m2
            exact m2'.elim
          | .inr (.inr t), m2, hgA, hoR, fin =>
            have m2' : oQ W (fun k => xb_i H2 (A k)) DM (.inr (.inr t)) (.inr zz) := m2
            have hgA' : z = 1 := hgA
            obtain ⟨⟨i3, i4⟩, l15, -, t0, t1, t2, t3⟩ := hoR
            obtain ⟨-, o0, o1, o2, o3'⟩ := m2'
            refine ⟨by rw [e2, hgA'], fin lf _ hm ⟨?_, fun j hj => ?_⟩ (.inl ⟨?_, u62, u68⟩)⟩
            · rw [lmm, hs.2, a15, l15]
              exact y1
            · show F2 (A 86) j = _
              rw [a36]
              apply Int32.toInt.inj
              rcases (show j = 0 ∨ j = 1 ∨ j = 2 ∨ j = 3 by omega) with e | e | e | e
              · rw [e, f0z, t0, o0]
              · rw [e, f1z, t1, o1]
              · rw [e, f2z, t2, o2]
              · rw [e, f3z, t3, o3']
            · rw [a15]
              exact Int32.toInt.inj i3
      rw [zfin.1]
      exact hQ2 _ _ _ f0' hA3 zfin.2 u0' l3
  · exact jO.twV (w := fun H1 b1 s1 Q2 => w_M_run mm a1 H1 (fun r2 H2 => Q2 r2 H2 b1 s1)) hO hX (by decide) (fun or' rc' rs' Q2 hA1 hg1 hQ2 => r_runB hA1 (.inl h9) (fun y0 hy hA' => hQ2 _ _ hA' vu_gVL (by
      rcases hy with ⟨-, hy⟩ | ⟨hy, -⟩
      · rw [hy]
        exact u0
      · exact absurd h9 hy)))
  · exact jO.twV (w := fun H1 b1 s1 Q2 => w_M_run mm a1 H1 (fun r2 H2 => Q2 r2 H2 b1 s1)) hO hX (by decide) (fun or' rc' rs' Q2 hA1 hg1 hQ2 => r_runB hA1 (.inr (i62.mp h8)) (fun y0 hy hA' => hQ2 _ _ hA' vu_gVL (by
      rcases hy with ⟨hy, -⟩ | ⟨-, -, hy⟩
      · exact absurd hy h9
      · rw [hy]
        exact u0)))
end HE

-- equality: instantiate, an instance was made: all is alike
section HY
variable {own ad own' ad' A A2 own2 : Nat → Nat} {H H' h2c h3 hr : xb_H} {W : wD} {σ ts K K' mc m md q len mm : Nat} {ms : Nat → Nat} {v v5 u3 : Nat → Int32} {DM : Nat → zM} {r4 y4 r7 y7 y : Int64} {M : Nat → mD} {G F5 : Nat → Nat → Int32}
theorem in_made (hI : cI own ad H W σ ts K') (hM : cMx own ad H mc M) (hQ : gQ ad H W mc M ts (fun k => xb_i H (A k)) (fun k => xb_l H (A k)) v y DM) (b52 : vN v 52 ≤ vN v 30) (h2 : W2 (fun k => xb_i H (A k)) v len DM) (h3' : W3 (fun k => xb_i H (A k)) v DM) (h4 : W4 (fun k => xb_i H (A k)) v DM) (hm : m < mc) (hmd : xb_r H (ad 2) m = some md)
    (hN : iN own ad H W md (M m) q ms own' ad' h2c) (s2 : stp [15, 0] [] own' ad' own' ad' h2c H') (z9 : xb_i H' (ad 0) 9 = 0 ∧ xb_i H' (ad 0) 10 = 0) (hSt : iSt H (wN1 W md (M m) q ms) (wic W) md ad H') (hI' : cI own' ad' H' (wN1 W md (M m) q ms) σ ts K) (h15 : xb_i H (ad 15) 3 = 0)
    (o4 : olV (DM m) 4 r4 y4) (o7 : olV (DM m) 5 r7 y7) (hNw : iNw A H (xb_i H) v DM m r4 y4 r7 y7 A2 h3 G) (hiR : iRf (fun k => xb_i H (A k)) (fun k => xb_l H (A k)) v (fun k => G (A2 k)) (fun k => xb_l h3 (A2 k)) u3) (hu : ∀ j, j ≠ 0 → j ∉ [14, 15, 16, 17, 18] → u3 j = v j) (hB2 : mB own2 mm A2 hr) (hX : mdX A2 h3 G u3 DM m hr F5 v5) :
    gQ ad' H' (wN1 W md (M m) q ms) mc M ts (fun k => F5 (A2 k)) (fun k => xb_l hr (A2 k)) v5 y DM := by
  obtain ⟨hB, hW, -⟩ := hI.1
  obtain ⟨hq, hbd⟩ := hQ.2.1.q hm
  obtain ⟨md', e9, hmo⟩ := hM.2.2.2 m hm
  rw [hmd] at e9
  have e8 := Option.some.inj e9
  subst e8
  have e5 : vN v 5 = mc := hQ.2.1.1
  obtain ⟨hp, hR, -, -, hV, -⟩ := h2 m (by omega)
  obtain ⟨vv, own1, ad1, h1, hlk, hT, hE, hD, hcn, hvr, hel, hda⟩ := in_cls hI hmo hN s2
  obtain ⟨hln, hcv, hr9, hr11, rg9, rg11⟩ := ln_rows hI hM hQ h2 h3' h4 hm hlk o4 o7 hNw hiR
  obtain ⟨⟨c1, c2, c3, c4⟩, gi, hst, hwq⟩ := id hQ.2.2.1
  have hx := hQ.2.2.2.2.2.2.2.2.2
  have hg : ∀ j, j < qt (DM m) 2 → (ub (qc (DM m)) (kpo (DM m) j)).toInt = 3 → ∃ g : Nat, (G (A2 33) (vN v 34 + j)).toInt = g ∧ g < vN v 58 := fun j hj h9 => by
    have i1 : kcn (qc (DM m)) (qp (DM m) 2) 3 j < iM (DM m) 3 := kcn_mox (P := qp (DM m) 2) (κ := 3) (cA := qc (DM m)) hj h9
    have i2 := ikx_u (D := DM m) (κ := 3) (n := qt (DM m) 2) hj h9 rfl
    obtain ⟨g, b1, b2, b3, -⟩ := hln.2.1 _ i1
    rw [i2] at b3
    exact ⟨g, b3, by omega⟩
  obtain ⟨φm, hF⟩ := in_ref hB2 hR hV hNw hiR hu hg hX
  have sH : stp (15 :: 0 :: lkC) [] own ad own' ad' H H' := (hN.1.tr s2).mono (by decide) (fun k hk => by simpa using hk)
  have hC : ∀ k ∈ 15 :: 0 :: lkC, k < 41 := by decide
  have sm : ∀ a, xb_k H a ≠ 0 → own a = 1 ∨ own a = 50 ∨ own a = 51 → xh_sm H H' a := fun a ha ho => sH.n1 hB hC ha (by simp) rfl (by omega)
  have ext1 : ∀ a, xb_k H a ≠ 0 → xb_k h1 a ≠ 0 := fun a ha => by rw [(hlk.1.2.2.2.1 a ha).1]; exact ha
  have lc : ∀ k, k < 41 → k ∉ [14, 32, 33, 34, 35] → xb_l h1 (ad1 k) = xb_l H (ad k) := fun k hk hn => by
    obtain ⟨a1, a2⟩ := hlk.1.cm hB hk hn
    rw [a1, a2.2.1]
  have cm : ∀ k, k < 41 → k ∉ 15 :: 0 :: lkC → ad' k = ad k ∧ xh_sm H H' (ad k) := fun k hk hn => sH.cm hB hC (fun x hx => by cases hx) hk hn
  have np16 := hW.2.2.2.1.2
  have np16' := hI'.1.2.1.2.2.2.1.2
  have fn := in_fn (md := md) (ms := ms) hF hq hln hcn hT c2 c3
  have tb := fun ht => in_tb (md := md) (ms := ms) hF hq hmo hln hcn o4 hW sm hst hx h3' c1 c4 ht
  have hw54 : ∀ i, i < wic W → 0 < dn (wd W i) 4 / 3 → (xb_i H (A 54) (gmV id (fun k => xb_i H (A k)) DM i)).toInt = mmP H W i ∧ ∀ j, j < mmP H W i → xb_i H (A 56) (16 * gmV id (fun k => xb_i H (A k)) DM i + j) = xb_i H (mmS H W i) j := fun i hi hm9 => hwq.2.2.1 i hi hm9
  have c53 : vN v 53 = wnp W := by
    have : (v 53).toInt = wnp W := hwq.2.2.2.1
    unfold vN
    rw [this, Int.toNat_natCast]
  have lt24 : vN v 52 < 24 := by
    have := hT.1
    omega
  have mmq := fun ht => in_mm (md := md) (ms := ms) hF hq hmo hln hcn o7 hW sm ext1 hst hw54 np16 h3' c1 c53 lt24 ht
  have el := in_el (md := md) (ms := ms) hF hel hq hR hV hmo o4 hst.2.2.2.2.1 (lc 24 (by decide) (by decide)) hcv rg9 fn.1 (fun ht => (tb ht).1.1) hI'.1.2.1.2.2.1 c4
  have n11 := hq.n7.2
  have n2i := hq.n.2.2.2.2.2.1 2 (by decide)
  have eBS : 0 < dn (M m) 4 / 3 → bS ad1 h1 (M m) = 65536 * (mmP H' (wN1 W md (M m) q ms) (wic W) : Int) := fun ht => in_bS (DM := DM) (m := m) (ms := ms) hmo hW hB hlk hcn sm (fun h9 => by
    obtain ⟨i, ma, a1, a2, a3, a4, -⟩ := hln.2.2.2.1 h9
    exact ⟨i, ma, a1, a3, a4⟩) hln.2.2.2.2 n2i ht
  have hfit : ∀ k, k < qt (DM m) 11 → (cnV A2 h3 G (DM m) (vN v 34) (cE (qc (DM m)) (qp (DM m) 11 k)) &&& 4294967295).toInt + cV (qc (DM m)) (rwE (DM m) 11 k) ≤ 65536 * (mmP H' (wN1 W md (M m) q ms) (wic W) : Int) := fun k hk => by
    have hb := hD k (by omega)
    obtain ⟨p, f, p1, p2, p3, p4, p5, p6, p7⟩ := hq.k11 hR hV hk
    have hex : 0 < dn (M m) 4 / 3 := by
      have := (hmo.2.1.2.2.2.2.2.2.2.2.2.1.2 k (by omega)).1
      omega
    have hrr := rg11 k hk
    unfold rbO at hb
    rw [eBS hex, p1, Int.toNat_natCast, p6] at hb
    rw [p1, Int.toNat_natCast] at hrr
    rw [← p2, ← hcv p p3, Z_low4 hrr.1 hrr.2]
    exact hb
  have hsl : 0 < dn (M m) 4 / 3 → ∀ j, j < mmP H' (wN1 W md (M m) q ms) (wic W) → 0 ≤ (xb_i H' (mmS H' (wN1 W md (M m) q ms) (wic W)) j).toInt ∧ (xb_i H' (mmS H' (wN1 W md (M m) q ms) (wic W)) j).toInt < (wnp (wN1 W md (M m) q ms) : Nat) := fun ht j hj => by
    obtain ⟨nia, niq, nid, niff, nifv⟩ := wN1_n (W := W) (md := md) (q := q) (d := M m) (ms := ms)
    have eic : wic (wN1 W md (M m) q ms) = wic W + 1 := rfl
    have hiO := (hI'.1.2.1.2.2.2.2.2.2.1.2.2.2 (wic W) (by omega)).2
    obtain ⟨ma, y1⟩ := hiO.2.2.2.2.2.2.1 (by rw [nid]; exact ht)
    obtain ⟨u1, u2, u3', u4, sl, pc, u5, u6, u7, u8, u9, u10, u11, u12⟩ := hiO.2.2.2.2.2.2.2 ma y1
    have eA : mmA H' (wN1 W md (M m) q ms) (wic W) = ma := by unfold mmA; rw [y1]; rfl
    have eS_ : mmS H' (wN1 W md (M m) q ms) (wic W) = sl := by unfold mmS; rw [eA, u5]; rfl
    have eP : mmP H' (wN1 W md (M m) q ms) (wic W) = pc := by unfold mmP; rw [eA, u10, Int.toNat_natCast]
    rw [eP] at hj
    rw [eS_]
    exact u12 j hj
  have by_ := in_by (md := md) (ms := ms) hF hda hq hR hV hmo hwq.2.1 (lc 26 (by decide) (by decide)) hcv rg11 hfit (fun ht => ⟨(mmq ht).2.2.1.2, hsl ht⟩) np16'
  have a27 : xb_i H' (ad' 27) = xb_i H (ad 27) := by rw [(cm 27 (by decide) (by decide)).1, (cm 27 (by decide) (by decide)).2.1]
  have a28 : xb_l H' (ad' 28) = xb_l H (ad 28) := by rw [(cm 28 (by decide) (by decide)).1, (cm 28 (by decide) (by decide)).2.2.1]
  have m10 := hp.2.2.2.2.2 0 (by decide)
  have stq := in_stQ (ad' := ad') (ms := ms) hW sm hst h3' hF c1 c2 hq hR hp.2.1 m10 hbd fn (fun ht => (tb ht).1) (fun ht => ⟨(mmq ht).1, (mmq ht).2.1, (mmq ht).2.2.2⟩) el
  have wq := in_wQ (ad' := ad') (ms := ms) hW sm hst hwq h3' hF c1 c3 c53 hq hmo o7 np16 hvr (lc 22 (by decide) (by decide)) hR hV hcv by_ (fun ht => (mmq ht).2.2.1) a27 a28
  have xt := in_gXt (ms := ms) hW sm hst hx h3' hF c1 c3 hq hmo hln fn.2 (fun ht => (tb ht).2)
  obtain ⟨g1, g2, -, g4, g5, -, -, -, g9, -⟩ := hQ.st hI hM sH hC
  have q1 := g1 (by decide)
  have q2 := g2 (by decide)
  have q4 := g4 (by decide)
  have q5 := g5 (by decide)
  obtain ⟨mn, ov, mnn, -⟩ := hF.mnq
  obtain ⟨nia, niq, nid, niff, nifv⟩ := wN1_n (W := W) (md := md) (q := q) (d := M m) (ms := ms)
  obtain ⟨⟨hr_, f1, -⟩, ⟨⟨x31, -⟩, -⟩, -, -, -, -, -, ⟨n30, n43, n58, n47, n53, nn⟩, hs8, z89⟩ := id hF
  have er : ∀ k, k ∈ [1, 3, 8, 12, 39, 40, 41, 75, 86] → F5 (A2 k) = xb_i H (A k) := fun k hk => by
    have := (by decide : ∀ k, k ∈ [1, 3, 8, 12, 39, 40, 41, 75, 86] → k ∈ gAL ∧ k ∉ [44, 45, 51, 56, 57, 89] ∧ k ∉ [31, 32, 33, 35, 36, 37, 38, 48, 49, 54, 59, 60, 89]) k hk
    exact (f1 k this.1 this.2.1).trans (hr_.1 k this.1 this.2.2)
  have a0 : ad' 0 = ad 0 := sH.2.2.2.2.2.2 0 (by decide)
  have a15 : ad' 15 = ad 15 := sH.2.2.2.2.2.2 15 (by decide)
  have n5 : vN v5 5 = vN v 5 := by unfold vN; rw [nn 5 (by decide) (by decide)]
  have n42 : vN v5 42 = vN v 42 := by unfold vN; rw [nn 42 (by decide) (by decide)]
  have e31 : F5 (A2 31) = φm 31 := f1 31 (by decide) (by decide)
  have n3d := hq.n.2.2.1
  have n4d := hq.n.2.2.2.1
  have n1i := hq.n.2.2.2.2.2.1 1 (by decide)
  refine ⟨?_, ?_, ⟨⟨?_, ?_, ?_, ?_⟩, fun i hi => ?_, stq, wq⟩, ?_, ?_, ?_, ?_, ?_, ?_, xt⟩
  · unfold gTp at q1 ⊢
    dsimp only at q1 ⊢
    rw [nn 2 (by decide) (by decide), er 1 (by decide)]
    exact q1
  · unfold gMd at q2 ⊢
    dsimp only at q2 ⊢
    rw [n5, er 12 (by decide), er 8 (by decide)]
    exact q2
  · rw [n30, c1]
    rfl
  · rw [n43, c2]
    show wno W + qt (DM m) 3 = wno W + (nf (M m) - ni (M m) 0)
    have n2 := hq.n.2.1
    have n0 := hq.n.2.2.2.2.2.1 0 (by decide)
    unfold nf
    omega
  · rw [n58, c3]
    show wnv W + qt (DM m) 6 = wnv W + (nvr (M m) - ni (M m) 3)
    have n2 := hq.n.2.2.2.2.1
    have n0 := hq.n.2.2.2.2.2.1 3 (by decide)
    unfold nvr
    omega
  · rw [n47, c4]
    show wne W + _ = wne W + (ol (M m) 3 1).toNat
    rw [(hq.ol3 hmo o4).1]
    by_cases h9 : qt (DM m) 4 = 0
    · rw [if_pos h9]
      rcases o4 with ⟨-, x, -⟩ | ⟨x, -⟩
      · rw [x]
        rfl
      · omega
    · rw [if_neg h9]
  · show (F5 (A2 31) i).toInt.toNat < mc ∧ _ = M (F5 (A2 31) i).toInt.toNat ∧ xb_r H' (ad' 2) (F5 (A2 31) i).toInt.toNat = _ ∧ _
    rw [e31, (cm 2 (by decide) (by decide)).1, (cm 2 (by decide) (by decide)).2.2.2]
    have cs : i < wic W ∨ i = wic W := by
      have : wic (wN1 W md (M m) q ms) = wic W + 1 := rfl
      omega
    rcases cs with h9 | h9
    · obtain ⟨b1, b2, b3, b4, b5⟩ := wN1_o (W := W) (md := md) (q := q) (d := M m) (ms := ms) h9
      obtain ⟨-, -, -, -, q5'⟩ := old_i (md := md) (q := q) (d := M m) (ms := ms) hW sm h9
      rw [(hr_.mn h3' (i := i) (by omega)).1, b1, b2, b3, q5']
      exact gi i h9
    · subst h9
      rw [← c1, x31, Int.toNat_natCast, c1, nid, niq, nia]
      refine ⟨hm, rfl, hmd, fun h8 => ?_, fun h8 => ?_⟩
      · rcases hcn.2.2.1 with ⟨t1, t2⟩ | ⟨t0, -⟩
        · rw [t2]
          exact hln.2.2.1.2 (by omega)
        · omega
      · rcases hcn.2.2.2 with ⟨t1, t2⟩ | ⟨t0, -⟩
        · rw [t2]
          exact hln.2.2.2.2 (by omega)
        · omega
  · unfold gNm at q4 ⊢
    dsimp only at q4 ⊢
    rw [n42, er 40 (by decide), er 41 (by decide), er 3 (by decide), er 39 (by decide)]
    exact q4
  · unfold gAr at q5 ⊢
    dsimp only at q5 ⊢
    have e65 : xb_l hr (A2 65) = xb_l H (A 65) := hr_.2.2.2.2.2.2.1 65 (by decide)
    rw [nn 66 (by decide) (by decide), e65]
    exact q5
  · unfold gFt
    rw [a0, z9.1, z9.2]
    exact z89
  · obtain ⟨y1, y2⟩ := hQ.2.2.2.2.2.2.1
    refine ⟨?_, fun j hj => ?_⟩
    · rw [a15, hSt.1]
      exact y1
    · show F5 (A2 86) j = _
      rw [er 86 (by decide), (cm 36 (by decide) (by decide)).1, (cm 36 (by decide) (by decide)).2.1]
      exact y2 j hj
  · -- what is under way
    have hrn := hQ.2.2.2.2.2.2.2.1
    have hrn' : v 62 = 0 ∧ v 68 = 0 := by
      rcases hrn with ⟨-, r2, r3⟩ | ⟨r1, -⟩
      · exact ⟨r2, r3⟩
      · exact absurd h15 r1
    have v68 : v5 68 = 0 := by rw [nn 68 (by decide) (by decide)]; exact hrn'.2
    obtain ⟨md9, b, N, cA, S, k1, k2, k3, -⟩ := hQ.2.1.2 m hm
    rw [hmd] at k1
    have e8 := Option.some.inj k1
    subst e8
    have hsf := mdQ.sf k2 k3 hR hV
    rcases hSt.2.2 with ⟨t1, t2⟩ | ⟨sf, f, t1, t2, t3, t4, t5, t6, t7⟩
    · left
      rcases hsf with ⟨u1, -⟩ | ⟨-, u2, -⟩
      · rcases hs8 with ⟨-, w2⟩ | ⟨w1, -⟩
        · exact ⟨by rw [a15, t2]; exact h15, by rw [w2]; exact hrn'.1, v68⟩
        · omega
      · omega
    · right
      rcases hsf with ⟨-, u2⟩ | ⟨u1, u2, u3'⟩
      · omega
      · have esf : sf = cV (qc (DM m)) (qp (DM m) 8 0) := by omega
        rcases hs8 with ⟨w1, -⟩ | ⟨-, w2, w3, w4⟩
        · omega
        · have hnf : sf < nf (M m) := by
            have n2 := hq.n.2.1
            unfold nf
            omega
          refine ⟨fun h9 => ?_, by rw [w3]; decide, .inl ⟨⟨w4, v68⟩, by rw [a15]; exact t5, f, by rw [a15]; exact t6, t3, ?_, fun j hj => ?_⟩⟩
          · rw [a15] at h9
            rw [h9] at t4
            exact absurd t4 (by decide)
          · rw [w2, ← esf, fn.1 sf hnf, t2]
          · exfalso
            rcases hI'.1.2.2.2.1 with ⟨z1, -⟩ | ⟨f', z1, z2, z3, z4, z5, -⟩ | ⟨D', gx, ⟨-, -, -, -, z5⟩, -⟩
            · rw [a15] at z1
              omega
            · rw [a15] at z3 z5
              have ef : f' = f := by omega
              rw [ef] at z5
              omega
            · rw [a15] at z5
              omega
  · unfold gVm at g9 ⊢
    dsimp only at g9 ⊢
    have e74 : xb_l hr (A2 74) = xb_l H (A 74) := hr_.2.2.2.2.2.2.1 74 (by decide)
    rw [er 75 (by decide), e74]
    exact g9
end HY

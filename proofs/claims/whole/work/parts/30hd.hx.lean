-- equality: instantiate
section HZ
variable {oc oc' or_ or' A A' : Nat → Nat} {H H1 H2 h h2 : xb_H} {F F2 : Nat → Nat → Int32} {v v2 u : Nat → Int32} {DM DM' : Nat → zM} {len rl len' rl' : Nat} {ad ad' : Nat → Nat} {W W' : wD} {σ x1 mm x3 K ts ts' mc mc' bc bs bc1 bs1 rc rs : Nat} {M M' : Nat → mD} {Qr : Int32 → xb_H → Nat → Nat → Prop} {r z c a1 : Int32} {y : Int64}
theorem sR.rf (hs : sR A mm H H2) : iRf (fun k => xb_i H (A k)) (fun k => xb_l H (A k)) v (fun k => xb_i H2 (A k)) (fun k => xb_l H2 (A k)) v := by
  have e : ∀ k, (∃ e ∈ aL, e.1 = k) → xb_i H2 (A k) = xb_i H (A k) ∧ xb_l H2 (A k) = xb_l H (A k) := hs.1
  refine ⟨fun k hk _ => (e k (gAL_k k hk)).1, fun k hk j _ => ?_, fun j _ => congrFun (e 33 (by decide)).1 j, fun t _ => ⟨congrFun (e 48 (by decide)).1 t, congrFun (e 49 (by decide)).1 t, congrFun (e 50 (by decide)).2 t⟩, fun t _ => ⟨congrFun (e 54 (by decide)).1 t, congrFun (e 55 (by decide)).2 t⟩, fun t _ => ⟨congrFun (e 59 (by decide)).1 t, congrFun (e 60 (by decide)).1 t, congrFun (e 61 (by decide)).2 t⟩, fun k hk => ?_, fun _ _ => rfl⟩
  · exact congrFun (e k ((by decide : ∀ k, k ∈ [31, 32, 35, 36, 37, 38] → ∃ e ∈ aL, e.1 = k) k hk)).1 j
  · exact (e k ((by decide : ∀ k, k ∈ [65, 67, 74, 87] → ∃ e ∈ aL, e.1 = k) k hk)).2
theorem sR.fo (hA : rA or_ mm A H (xb_i H) v DM len rl K) (hs : sR A mm H H2) {D : zM} {k : Nat} (hf : foR A H2 (xb_i H2) DM v D k r) : foR A H (xb_i H) DM v D k r :=
  foR_gen hA (fun c hc _ => (hs.1 c hc).1) (fun j _ => congrFun (hs.1 33 (by decide)).1 j) (hs.1 50 (by decide)).2 (hs.1 55 (by decide)).2 rfl hf
theorem sR.im_ (hA : rA or_ mm A H (xb_i H) v DM len rl K) (hs : sR A mm H H2) {D : zM} {k : Nat} {w : Nat → Int32} (hf : iI A H2 (xb_i H2) v DM D k w) : iI A H (xb_i H) v DM D k w := fun j hj => ⟨(hf j hj).1, sR.fo hA hs (hf j hj).2⟩
theorem gw_instantiate (hP : jG σ x1 mm x3 (K + 1) H bc bs) (hX : jVx σ x1 mm x3 K (fun H1 b1 s1 Q2 => w_M_instantiate mm a1 H1 b1 s1 Q2) Qr) : w_Law_instantiate σ x1 a1 x3 H bc bs Qr := by
  obtain ⟨oc, or_, A, v, DM, len, rl, ad, W, ts, mc, M, rc, rs, hO⟩ := hP.op
  obtain ⟨⟨e0, hI, hg, hM⟩, hQ, hA, eH, nx⟩ := id hO
  subst e0
  have hB := hI.1.1
  have hW := hI.1.2.1
  have e5 : vN v 5 = mc := hQ.2.1.1
  obtain ⟨w1, w2, w3, w4, -⟩ := hA.I
  have b52 : vN v 52 ≤ vN v 30 := w1.2.2.2.2.2.2.1
  obtain ⟨⟨c1, c2, c3, c4⟩, gi, hst, hwq⟩ := id hQ.2.2.1
  have c53 : vN v 53 = wnp W := by
    have : (v 53).toInt = wnp W := hwq.2.2.2.1
    unfold vN
    rw [this, Int.toNat_natCast]
  -- the class is idle: so is the reference
  have idl : xb_i H (ad 15) 3 = 0 → v 62 = 0 := fun h9 => by
    rcases hQ.2.2.2.2.2.2.2.1 with ⟨-, r2, -⟩ | ⟨r1, -⟩
    · exact r2
    · exact absurd h9 r1
  have bsy : xb_i H (ad 15) 3 ≠ 0 → v 62 ≠ 0 := fun h9 => by
    rcases hQ.2.2.2.2.2.2.2.1 with ⟨r1, -⟩ | ⟨-, r2, -⟩
    · exact absurd r1 h9
    · exact r2
  unfold w_Law_instantiate
  refine ⟨hB.k 0 (by omega), ho_instantiate hI hg hM (fun m H1 oc' ad' bc1 bs1 hm1 hm h15 sA i0 i14 hN hx8 hI' hg' _ => ?_) (fun m md q ms rr h2c H1 oc' ad' bc1 bs1 hm1 hm h15 hmd hrr hN s2 i0 z9 hSt hI' hg' _ => ?_) (fun h9 _ _ => .inr ⟨rfl, ?_⟩) (fun h9 h8 _ _ => .inl ⟨rfl, ?_⟩)⟩
  · -- refused
    obtain ⟨h8, hlk8, s8⟩ := hx8
    obtain ⟨hq, hbd⟩ := hQ.2.1.q hm
    obtain ⟨md, hmd, hmo⟩ := hM.2.2.2 m hm
    obtain ⟨hp, hR, -, -, hV, -⟩ := w2 m (by omega)
    have en : dn (M m) 1 / 7 = qt (DM m) 2 := by have := hq.n1; omega
    have n7 := hq.n7
    have en7 : dn (M m) 7 / 5 = qt (DM m) 9 := by omega
    have en11 : dn (M m) 11 / 5 = qt (DM m) 11 := by omega
    obtain ⟨g9, hr9, hM', a0⟩ := gQ.rf hI hM hQ hlk8 s8 i0
    have a15 : ad' 15 = ad 15 := sA.2.2.2.2.2.2 15 (by decide)
    have h15' : xb_i H1 (ad' 15) 3 = 0 := by
      rw [a15, (sA.cm hB (by decide) (fun x hx => by cases hx) (k := 15) (by decide) (by decide)).2.1]
      exact h15
    have fin : ∀ {H2 : xb_H} {A2 : Nat → Nat} {h2 : xb_H} {F2 : Nat → Nat → Int32} {u : Nat → Int32}, sR A mm H H2 → iRf (fun k => xb_i H2 (A k)) (fun k => xb_l H2 (A k)) v (fun k => F2 (A2 k)) (fun k => xb_l h2 (A2 k)) u → xb_l h2 mm 85 = xb_l H2 mm 85 → F2 (A2 89) 0 = xb_i H1 (ad 0) 9 → F2 (A2 89) 1 = xb_i H1 (ad 0) 10 → gQ ad' H1 W mc M ts (fun k => F2 (A2 k)) (fun k => xb_l h2 (A2 k)) u (xb_l h2 mm 85) DM := fun {H2 A2 h2 F2 u} hs hri hy f0 f1 => by
      have hri' := (sR.rf (v := v) hs).tr hri (fun _ _ => rfl)
      obtain ⟨q1, q2, q3, q4, q5, q6, q7, q8, q9⟩ := hri'.all w3 (y' := xb_l h2 mm 85) (by rw [hy]; exact congrFun hs.2 85) h15' g9
      exact ⟨q1, q2, q3, q4, q5, ⟨by rw [a0]; exact f0, by rw [a0]; exact f1⟩, q6, q7, q8, q9⟩
    refine jO.chX (w := fun H1 b1 s1 Q2 => w_M_instantiate mm a1 H1 b1 s1 Q2) hO hX hr9 a0 hI' hM' hg' (fun H2 or' rc' rs' Q2 hA1 hs hg1 hQ2 => r_instX hA1 hg1 ?_ ?_ ?_ ?_ ?_)
    · intro y0 hy0 _
      exfalso
      rcases hy0 with ⟨-, h9⟩ | ⟨-, h9, -⟩
      · unfold byd at h9
        omega
      · exact h9 (idl h15)
    · -- an import is refused
      rintro m' k w r own2 A2 h2 F2 u rl2 bc2 bs2 e1 _ _ hk hiI hr hfk f0 f1 hri ⟨hz, hA2, hg2, hy, hu0⟩
      have em : m' = m := by omega
      subst em
      have hiI' := sR.im_ hA hs hiI
      have hfk' := sR.fo hA hs hfk
      refine hQ2 own2 A2 h2 F2 u DM len rl2 bc2 bs2 hz hA2 hg2 ?_ hu0
      rcases hN with ⟨k', vv, k1, k2, k3, k4, k5⟩ | ⟨vv, own1, ad1, h1, hlk, -⟩
      · rw [en] at k1
        rcases Nat.lt_trichotomy k k' with h9 | h9 | h9
        · exfalso
          obtain ⟨g, b1, -⟩ := imp_ok hI hM hQ w2 w3 w4 hm hk (k2 k h9) hfk'
          omega
        · subst h9
          obtain ⟨b1, b2⟩ := imp_no hI hM hQ w2 w3 w4 hm hk k3 k4 hfk'
          exact fin hs hri hy (by rw [f0, b2]) (Int32.toInt.inj (by rw [f1, k5]))
        · exfalso
          have b1 := (imp_no hI hM hQ w2 w3 w4 hm k1 k3 k4 (hiI' k' h9).2).1
          have b2 := (hiI' k' h9).1
          omega
      · exfalso
        obtain ⟨g, b1, -⟩ := imp_ok hI hM hQ w2 w3 w4 hm hk (hlk.2.2 k (by rw [en]; exact hk)).1 hfk'
        omega
    · -- no room
      rintro m' w r4 y4 r7 y7 own2 A2 h2 F2 u rl2 bc2 bs2 e1 _ _ hiI o4 o7 hnr f0 f1 hri ⟨hz, hA2, hg2, hy, hu0⟩
      have em : m' = m := by omega
      subst em
      have hiI' := sR.im_ hA hs hiI
      have room := hq.room (W := W) (v := v) hmo o4 o7 c1 c2 c3 c4 c53
      refine hQ2 own2 A2 h2 F2 u DM len rl2 bc2 bs2 hz hA2 hg2 ?_ hu0
      rcases hN with ⟨k', vv, k1, k2, k3, k4, k5⟩ | ⟨vv, own1, ad1, h1, hlk, ⟨b1, b2, -⟩ | ⟨b1, -⟩⟩
      · exfalso
        rw [en] at k1
        have b1 := (imp_no hI hM hQ w2 w3 w4 hm k1 k3 k4 (hiI' k' k1).2).1
        have b2 := (hiI' k' k1).1
        omega
      · exact fin hs hri hy (by rw [f0, b1]) (by rw [f1, b2])
      · exact absurd hnr (room.mp b1)
    · -- a row is refused
      rintro m' k c r4 y4 r7 y7 own2 A2 h3 h2 G F2 u3 u rl2 bc2 bs2 e1 _ _ o4 o7 hnr hNw hi3 hrf f0 f1 hri ⟨hz, hA2, hg2, hy, hu0⟩
      have em : m' = m := by omega
      subst em
      have hNw' : iNw A H (xb_i H) v DM m' r4 y4 r7 y7 A2 h3 G := ⟨hNw.1, hNw.2.1, hNw.2.2.1, sR.im_ hA hs hNw.2.2.2⟩
      have hi3' := (sR.rf (v := v) hs).tr hi3 (fun _ _ => rfl)
      have room := hq.room (W := W) (v := v) hmo o4 o7 c1 c2 c3 c4 c53
      refine hQ2 own2 A2 h2 F2 u DM len rl2 bc2 bs2 hz hA2 hg2 ?_ hu0
      rcases hN with ⟨k', vv, k1, k2, k3, k4, k5⟩ | ⟨vv, own1, ad1, h1, hlk, ⟨-, -, b3⟩ | ⟨b1, hb⟩⟩
      · exfalso
        rw [en] at k1
        have b1 := (imp_no hI hM hQ w2 w3 w4 hm k1 k3 k4 (hNw'.2.2.2 k' k1).2).1
        have b2 := (hNw'.2.2.2 k' k1).1
        omega
      · exact absurd (room.mpr hnr) b3
      · obtain ⟨hln, hcv, f9, f11, -⟩ := ln_rows hI hM hQ w2 w3 w4 hm hlk o4 o7 hNw' hi3'
        rw [en7, en11] at hb
        rcases hrf with ⟨rc1, rt⟩ | ⟨rc1, ra, rt⟩
        · obtain ⟨t1, t2, t3⟩ := rfT_i hR hV (.inl rfl) rt
          rcases hb with ⟨x1, i, x2, x3, x4, x5⟩ | ⟨x1, -⟩
          · have eik : i = k := by
              rcases Nat.lt_trichotomy i k with h9 | h9 | h9
              · exact absurd ((f9 i x3).mpr (t2 i h9)) x4
              · exact h9
              · exact absurd ((f9 k t1).mp (x5 k h9)) t3
            exact fin hs hri hy (by rw [f0, rc1, x1]) (Int32.toInt.inj (by rw [f1, x2, eik]))
          · exact absurd ((f9 k t1).mp (x1 k t1)) t3
        · obtain ⟨t1, t2, t3⟩ := rfT_i hR hV (.inr rfl) rt
          have ra' := (rfA_i hR hV (.inl rfl)).mp ra
          rcases hb with ⟨x1, i, x2, x3, x4, x5⟩ | ⟨x0, x1, i, x2, x3, x4, x5⟩
          · exact absurd ((f9 i x3).mpr (ra' i x3)) x4
          · have eik : i = k := by
              rcases Nat.lt_trichotomy i k with h9 | h9 | h9
              · exact absurd ((f11 i x3).mpr (t2 i h9)) x4
              · exact h9
              · exact absurd ((f11 k t1).mp (x5 k h9)) t3
            exact fin hs hri hy (by rw [f0, rc1, x1]) (Int32.toInt.inj (by rw [f1, x2, eik]))
    · -- made by the reference alone: that can't be
      rintro m' rr r4 y4 r7 y7 own2 A2 h3 h2 G F2 u3 u rl2 bc2 bs2 e1 _ _ hrr o4 o7 hnr hNw hi3 hu3 hB2 hmd9 ⟨hz, hA2, hg2, hy, hu0⟩
      exfalso
      have em : m' = m := by omega
      subst em
      have hNw' : iNw A H (xb_i H) v DM m' r4 y4 r7 y7 A2 h3 G := ⟨hNw.1, hNw.2.1, hNw.2.2.1, sR.im_ hA hs hNw.2.2.2⟩
      have hi3' := (sR.rf (v := v) hs).tr hi3 (fun _ _ => rfl)
      have room := hq.room (W := W) (v := v) hmo o4 o7 c1 c2 c3 c4 c53
      have vu : ∀ k, k ∈ [30, 34] → vN u3 k = vN v k := fun k hk => by
        unfold vN
        rw [hu3 k ((by decide : ∀ k, k ∈ [30, 34] → k ≠ 0) k hk) ((by decide : ∀ k, k ∈ [30, 34] → k ∉ [14, 15, 16, 17, 18]) k hk)]
      obtain ⟨w9, z9, v2, v3, v4, F3, F4, -, -, -, -, -, -, ra9, ra11, -⟩ := hmd9
      rw [vu 30 (by decide), vu 34 (by decide)] at ra9 ra11
      have ra9' := (rfA_i hR hV (.inl rfl)).mp ra9
      have ra11' := (rfA_i hR hV (.inr rfl)).mp ra11
      rcases hN with ⟨k', vv, k1, k2, k3, k4, k5⟩ | ⟨vv, own1, ad1, h1, hlk, ⟨-, -, b3⟩ | ⟨b1, hb⟩⟩
      · rw [en] at k1
        have b1 := (imp_no hI hM hQ w2 w3 w4 hm k1 k3 k4 (hNw'.2.2.2 k' k1).2).1
        have b2 := (hNw'.2.2.2 k' k1).1
        omega
      · exact absurd (room.mpr hnr) b3
      · obtain ⟨hln, hcv, f9, f11, -⟩ := ln_rows hI hM hQ w2 w3 w4 hm hlk o4 o7 hNw' hi3'
        rw [en7, en11] at hb
        rcases hb with ⟨x1, i, x2, x3, x4, x5⟩ | ⟨x0, x1, i, x2, x3, x4, x5⟩
        · exact x4 ((f9 i x3).mpr (ra9' i x3))
        · exact x4 ((f11 i x3).mpr (ra11' i x3))
  · -- made
    obtain ⟨hq, hbd⟩ := hQ.2.1.q hm
    obtain ⟨md', e9, hmo⟩ := hM.2.2.2 m hm
    rw [hmd] at e9
    have e8 := Option.some.inj e9
    subst e8
    obtain ⟨hp, hR, -, -, hV, -⟩ := w2 m (by omega)
    have en : dn (M m) 1 / 7 = qt (DM m) 2 := by have := hq.n1; omega
    have n7 := hq.n7
    have en7 : dn (M m) 7 / 5 = qt (DM m) 9 := by omega
    have en11 : dn (M m) 11 / 5 = qt (DM m) 11 := by omega
    have sH : stp (15 :: 0 :: lkC) [] oc ad oc' ad' H H1 := (hN.1.tr s2).mono (by decide) (fun k hk => by simpa using hk)
    have hC : ∀ k ∈ 15 :: 0 :: lkC, k < 41 := by decide
    have a0 : ad' 0 = ad 0 := sH.2.2.2.2.2.2 0 (by decide)
    have hM' : cMx oc' ad' H1 mc M := hM.st hB sH hC (by decide) (i0 3 (by decide) (by decide))
    obtain ⟨-, -, hT, vv, own1, ad1, h1, hlk, hbE, hbD, -⟩ := id hN
    rw [en7] at hbE
    rw [en11] at hbD
    refine jO.chX (w := fun H1 b1 s1 Q2 => w_M_instantiate mm a1 H1 b1 s1 Q2) hO hX (sH.hR hB hC) a0 hI' hM' hg' (fun H2 or' rc' rs' Q2 hA1 hs hg1 hQ2 => r_instX hA1 hg1 ?_ ?_ ?_ ?_ ?_)
    · intro y0 hy0 _
      exfalso
      rcases hy0 with ⟨-, h9⟩ | ⟨-, h9, -⟩
      · unfold byd at h9
        omega
      · exact h9 (idl h15)
    · rintro m' k w r own2 A2 h2 F2 u rl2 bc2 bs2 e1 _ _ hk hiI hr hfk f0 f1 hri ⟨hz, hA2, hg2, hy, hu0⟩
      exfalso
      have em : m' = m := by omega
      subst em
      have hfk' := sR.fo hA hs hfk
      obtain ⟨g, b1, -⟩ := imp_ok hI hM hQ w2 w3 w4 hm hk (hlk.2.2 k (by rw [en]; exact hk)).1 hfk'
      omega
    · rintro m' w r4 y4 r7 y7 own2 A2 h2 F2 u rl2 bc2 bs2 e1 _ _ hiI o4 o7 hnr f0 f1 hri ⟨hz, hA2, hg2, hy, hu0⟩
      exfalso
      have em : m' = m := by omega
      subst em
      exact (hq.room (W := W) (v := v) hmo o4 o7 c1 c2 c3 c4 c53).mp hT hnr
    · rintro m' k c r4 y4 r7 y7 own2 A2 h3 h2 G F2 u3 u rl2 bc2 bs2 e1 _ _ o4 o7 hnr hNw hi3 hrf f0 f1 hri ⟨hz, hA2, hg2, hy, hu0⟩
      exfalso
      have em : m' = m := by omega
      subst em
      have hNw' : iNw A H (xb_i H) v DM m' r4 y4 r7 y7 A2 h3 G := ⟨hNw.1, hNw.2.1, hNw.2.2.1, sR.im_ hA hs hNw.2.2.2⟩
      have hi3' := (sR.rf (v := v) hs).tr hi3 (fun _ _ => rfl)
      obtain ⟨hln, hcv, f9, f11, -⟩ := ln_rows hI hM hQ w2 w3 w4 hm hlk o4 o7 hNw' hi3'
      rcases hrf with ⟨rc1, rt⟩ | ⟨rc1, ra, rt⟩
      · obtain ⟨t1, t2, t3⟩ := rfT_i hR hV (.inl rfl) rt
        exact t3 ((f9 k t1).mp (hbE k t1))
      · obtain ⟨t1, t2, t3⟩ := rfT_i hR hV (.inr rfl) rt
        exact t3 ((f11 k t1).mp (hbD k t1))
    · rintro m' rr' r4 y4 r7 y7 own2 A2 h3 h2 G F2 u3 u rl2 bc2 bs2 e1 _ _ hrr' o4 o7 hnr hNw hi3 hu3 hB2 hmd9 ⟨hz, hA2, hg2, hy, hu0⟩
      have em : m' = m := by omega
      subst em
      have hNw' : iNw A H (xb_i H) v DM m' r4 y4 r7 y7 A2 h3 G := ⟨hNw.1, hNw.2.1, hNw.2.2.1, sR.im_ hA hs hNw.2.2.2⟩
      have hi3' := (sR.rf (v := v) hs).tr hi3 (fun _ _ => rfl)
      have err : rr' = rr := Int32.toInt.inj (by rw [hrr', hrr, c1])
      rw [err]
      refine hQ2 own2 A2 h2 F2 u DM len rl2 bc2 bs2 hz hA2 hg2 ?_ hu0
      have ey : xb_l h2 mm 85 = xb_l H mm 85 := by rw [hy]; exact congrFun hs.2 85
      rw [ey]
      exact in_made hI hM hQ b52 w2 w3 w4 hm hmd hN s2 z9 hSt hI' h15 o4 o7 hNw' hi3' hu3 hB2 hmd9
  · refine jO.twX (w := fun H1 b1 s1 Q2 => w_M_instantiate mm a1 H1 b1 s1 Q2) hO hX (by decide) (fun or' rc' rs' Q2 hA1 hg1 hQ2 => r_instX hA1 hg1 ?_ ?_ ?_ ?_ ?_)
    · intro y0 hy0 hAy
      rcases hy0 with ⟨h8, -⟩ | ⟨-, -, m', e1, e2⟩
      · rw [h8] at hAy ⊢
        exact hQ2 0 or' A H (xb_i H) _ DM len rl _ _ zT.rf hAy hg1.dn (hQ.cgR (fun _ _ => rfl) (fun _ _ => rfl) (fun j hj => by rw [xh_up, if_neg (gVL_v j hj).1])) (by rw [xh_up, if_pos rfl])
      · exfalso
        unfold byd at h9
        omega
    · intro m' k w r own2 A2 h2 F2 u rl2 bc2 bs2 e1 e2
      exfalso
      unfold byd at h9
      omega
    · intro m' w r4 y4 r7 y7 own2 A2 h2 F2 u rl2 bc2 bs2 e1 e2
      exfalso
      unfold byd at h9
      omega
    · intro m' k c r4 y4 r7 y7 own2 A2 h3 h2 G F2 u3 u rl2 bc2 bs2 e1 e2
      exfalso
      unfold byd at h9
      omega
    · intro m' rr r4 y4 r7 y7 own2 A2 h3 h2 G F2 u3 u rl2 bc2 bs2 e1 e2
      exfalso
      unfold byd at h9
      omega
  · have b62 := bsy h8
    refine jO.twX (w := fun H1 b1 s1 Q2 => w_M_instantiate mm a1 H1 b1 s1 Q2) hO hX (by decide) (fun or' rc' rs' Q2 hA1 hg1 hQ2 => r_instX hA1 hg1 ?_ ?_ ?_ ?_ ?_)
    · intro y0 hy0 hAy
      rcases hy0 with ⟨-, h7⟩ | ⟨h7, -, m', e1, e2⟩
      · exfalso
        rw [e5] at h7
        exact h9 h7
      · rw [h7] at hAy ⊢
        exact hQ2 0 or' A H (xb_i H) _ DM len rl _ _ zT.rf hAy hg1.dn (hQ.cgR (fun _ _ => rfl) (fun _ _ => rfl) (fun j hj => by rw [xh_up, if_neg (gVL_v j hj).1])) (by rw [xh_up, if_pos rfl])
    · intro m' k w r own2 A2 h2 F2 u rl2 bc2 bs2 e1 e2 e3
      exact absurd e3 b62
    · intro m' w r4 y4 r7 y7 own2 A2 h2 F2 u rl2 bc2 bs2 e1 e2 e3
      exact absurd e3 b62
    · intro m' k c r4 y4 r7 y7 own2 A2 h3 h2 G F2 u3 u rl2 bc2 bs2 e1 e2 e3
      exact absurd e3 b62
    · intro m' rr r4 y4 r7 y7 own2 A2 h3 h2 G F2 u3 u rl2 bc2 bs2 e1 e2 e3
      exact absurd e3 b62
end HZ

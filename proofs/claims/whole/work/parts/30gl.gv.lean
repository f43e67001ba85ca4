-- equality: exports; counts; the end of a run
section GV
variable {oc oc' or_ or' A A' : Nat → Nat} {H H1 h h2 : xb_H} {F F2 : Nat → Nat → Int32} {v v2 u : Nat → Int32} {DM DM' : Nat → zM} {len rl len' rl' : Nat} {ad ad' : Nat → Nat} {W W' : wD} {σ x1 mm x3 K ts ts' mc mc' bc bs bc1 bs1 rc rs : Nat} {M M' : Nat → mD} {Qr : Int32 → xb_H → Nat → Nat → Prop} {Qs : Int32 → xb_H → Prop} {Ql : Int64 → xb_H → Prop} {r : Int32} {y : Int64}
theorem gw_exported {a1 a2 a3 : Int32} (hP : jG σ x1 mm x3 (K + 1) H bc bs) (hR : jV σ x1 mm x3 K (fun H1 b1 s1 Q2 => w_M_exported mm a1 a2 a3 H1 (fun r2 H2 => Q2 r2 H2 b1 s1)) Qr) : w_Law_exported x1 a1 a2 a3 x3 H bc bs Qr := by
  obtain ⟨oc, or_, A, v, DM, len, rl, ad, W, ts, mc, M, rc, rs, hO⟩ := hP.op
  obtain ⟨⟨e0, hI, hg, hM⟩, hQ, hA, eH, nx⟩ := id hO
  subst e0
  have hW := hI.1.2.1
  have hic : vN v 30 = wic W := hQ.2.2.1.1.1
  have st := hQ.2.2.1.2.2.1
  unfold w_Law_exported
  refine ⟨hI.1.1.k 0 (by omega), ho_exported hI hg (fun i j k z hi hi2 hj hj2 hk hk2 hz _ => ?_) (fun h9 _ _ => ⟨rfl, ?_⟩)⟩
  · obtain ⟨q1, ⟨md, q2⟩, -⟩ := hQ.ins hI hi2
    have n6 := q1.n2.2.1
    refine jO.an (w := fun H1 Q2 => w_M_exported mm a1 a2 a3 H1 Q2) hO hR (fun H1 or' Q2 hA1 t1 hi9 hQ2 => r_exported hA1 (fun i' k' m j' z' hi' _ hk' hm _ hk7 hj' _ hz' u hu hA' => ?_) (fun h9 => ?_))
    · have ei : i' = i := by omega
      have ek : k' = j := by omega
      have ej : j' = k := by omega
      subst ei
      subst ek
      subst ej
      rw [hi9] at hz' hm
      have em : (xb_i H (A 31) i').toInt.toNat = m := by omega
      rw [em] at q1 n6
      obtain ⟨x1, x2, x3, x4⟩ := q1.xp hk7
      obtain ⟨m1, m2, m3, m4⟩ := q2.xp hj2
      have ez : z' = z := by
        apply Int32.toInt.inj
        obtain ⟨y0, y1, y2⟩ := hz'
        obtain ⟨z0, z1, z2, z3⟩ := hz
        rcases (show j' = 0 ∨ j' = 1 ∨ j' = 2 ∨ j' = 3 by omega) with e | e | e | e
        · rw [y0 e, z0 e, x1]
        · rw [y1 e, z1 e, z_of64, x2]
          have := z'.toInt_lt
          rw [y1 e] at this
          omega
        · obtain ⟨y3, y4⟩ := y2 (by omega)
          rw [z2 e]
          by_cases hk0 : ub (qc (DM m)) (xko (DM m) k') = 0
          · have hk1 : (dvs (wd W i') 6 (5 * k' + 1)).toInt = 0 := by rw [x1, hk0]; rfl
            rw [if_pos hk1, (y4 hk0).1 e]
            have hnf := m4 hk1
            rw [x2] at hnf
            have hnf' : xnu (DM m) k' < nf (wd W i') := by omega
            have emn : mnV A (xb_i H) DM i' 0 (xnu (DM m) k') = fmp (fnI H W i' (xnu (DM m) k')) := (st.2.2.1 i' hi2).1 _ hnf'
            obtain ⟨f1, f2⟩ := fnI_ty hW hi2 hnf'
            obtain ⟨g1, g2⟩ := st.ft hW f1
            obtain ⟨f3, f4, f5, f6⟩ := q1.ft q2 hnf'
            have g1' : fPl (fun k => xb_i H (A k)) DM (fmp (fnI H W i' (xnu (DM m) k'))) = (fT W (fnI H W i' (xnu (DM m) k'))).1 := g1
            rw [emn, g1', f2, f6, ptl_len, x2, Int.toNat_natCast, f4, Int.toNat_natCast]
            exact (q1.ty q2 f5).2.2.symm
          · have hk1 : ¬ (dvs (wd W i') 6 (5 * k' + 1)).toInt = 0 := by
              rw [x1]
              intro h9
              exact hk0 (Int32.toInt.inj h9)
            rw [if_neg hk1, y3 hk0]
            rfl
        · obtain ⟨y3, y4⟩ := y2 (by omega)
          rw [z3 e]
          by_cases hk0 : ub (qc (DM m)) (xko (DM m) k') = 0
          · have hk1 : (dvs (wd W i') 6 (5 * k' + 1)).toInt = 0 := by rw [x1, hk0]; rfl
            rw [(y4 hk0).2 e]
            have hnf := m4 hk1
            rw [x2] at hnf
            have hnf' : xnu (DM m) k' < nf (wd W i') := by omega
            have emn : mnV A (xb_i H) DM i' 0 (xnu (DM m) k') = fmp (fnI H W i' (xnu (DM m) k')) := (st.2.2.1 i' hi2).1 _ hnf'
            obtain ⟨f1, f2⟩ := fnI_ty hW hi2 hnf'
            obtain ⟨g1, g2⟩ := st.ft hW f1
            obtain ⟨f3, f4, f5, f6⟩ := q1.ft q2 hnf'
            have g2' : fRt (fun k => xb_i H (A k)) DM (fmp (fnI H W i' (xnu (DM m) k'))) = (fT W (fnI H W i' (xnu (DM m) k'))).2 := g2
            rw [emn, g2', f2, f6, x2, Int.toNat_natCast, f4, Int.toNat_natCast, (q1.ty q2 f5).2.1]
            by_cases h64 : tRt (DM m) (fty (DM m) (xnu (DM m) k')) = 64
            · rw [if_pos h64, if_neg (fun h9 => h9.2 h64)]
              rfl
            · rw [if_neg h64, if_pos ⟨hk1, h64⟩]
              rfl
          · have hk1 : ¬ (dvs (wd W i') 6 (5 * k' + 1)).toInt = 0 := by
              rw [x1]
              intro h9
              exact hk0 (Int32.toInt.inj h9)
            rw [if_neg (fun h9 => hk1 h9.1), y3 hk0]
            rfl
      rw [ez]
      exact hQ2 _ hA' (vz_gVL hu) hu.2.1
    · exfalso
      rcases h9 with (h9 | ⟨i', m, hi', -, hm, -, h9⟩) | h9
      · exact byd_1 h9 hi (by omega)
      · have ei : i' = i := by omega
        subst ei
        rw [hi9] at hm
        rw [hm, Int.toNat_natCast] at n6
        exact byd_1 h9 hj (by omega)
      · exact byd_1 h9 hk hk2
  · refine jO.tw (w := fun H1 Q2 => w_M_exported mm a1 a2 a3 H1 Q2) hO hR (by decide) (fun or' Q2 hA1 hQ2 => r_exported hA1 (fun i' k' m j' z' hi' hi2 hk' hm _ hk7 hj' hj2 _ _ _ _ => ?_) (fun _ u hu hA' => hQ2 _ _ hA' (vz_gVL hu) hu.2.1))
    exfalso
    rcases h9 with h9 | ⟨i, hi, hic2, h9⟩ | h9
    · exact byd_1 h9 hi' (by omega)
    · have ei : i' = i := by omega
      subst ei
      obtain ⟨q1, -⟩ := hQ.ins hI hic2
      have n6 := q1.n2.2.1
      rw [hm, Int.toNat_natCast] at n6
      exact byd_1 h9 hk' (by omega)
    · exact byd_1 h9 hj' hj2
/-- the class answered, changed nothing, and so does the reference -/
theorem jO.aw {z : Int32} {w : xb_H → (Int32 → xb_H → Prop) → Prop} (hO : jO σ x1 mm x3 K H bc bs oc or_ A v DM len rl ad W ts mc M rc rs) (hR : jW σ x1 mm x3 K bc bs w Qs)
    (hw : ∀ (or' : Nat → Nat) (Q2 : Int32 → xb_H → Prop), rA or' mm A H (xb_i H) v DM len rl (K + 1) → (∀ u : Nat → Int32, rA or' mm A H (xb_i H) u DM len rl K → (∀ j, j ∈ gVL → u j = v j) → Q2 z (mH H (xb_i H) mm u)) → w (mH H (xb_i H) mm v) Q2) : Qs z H := by
  obtain ⟨or', hJ⟩ := hO.th (c := 0) (s := 0) (by omega) (by omega)
  rw [Nat.sub_zero, Nat.sub_zero] at hJ
  refine hR z _ hJ.k9 (fun Q2 hQ2 => ?_)
  have eH := hJ.2.1
  refine cast (congrArg (fun X => w X Q2) eH.symm) ?_
  refine hw or' _ hJ.1 (fun u hA' hu => hQ2 _ _ rfl ?_)
  exact hJ.fin f0.rf hA' (hO.2.1.cgR (fun _ _ => rfl) (fun _ _ => rfl) hu)
theorem gw_outs (hP : jG σ x1 mm x3 (K + 1) H bc bs) (hR : jW σ x1 mm x3 K bc bs (fun H1 Q2 => w_M_outs mm H1 Q2) Qs) : xb_k H x1 = 1 ∧ w_H_outs x1 H Qs := by
  obtain ⟨oc, or_, A, v, DM, len, rl, ad, W, ts, mc, M, rc, rs, hO⟩ := hP.op
  obtain ⟨⟨e0, hI, hg, hM⟩, hQ, hA, eH, nx⟩ := id hO
  subst e0
  refine ⟨hI.1.1.k 0 (by omega), ho_outs hI (jO.aw hO hR (fun or' Q2 hA1 hQ2 => r_outs hA1 (fun hA' => ?_)))⟩
  have e9 : v 88 = xb_i H (ad 27) 1 := hQ.2.2.1.2.2.2.2.2.2.2.1
  rw [e9]
  exact hQ2 _ hA' vu_gVL
theorem gw_wrong (hP : jG σ x1 mm x3 (K + 1) H bc bs) (hR : jW σ x1 mm x3 K bc bs (fun H1 Q2 => w_M_wrong mm H1 Q2) Qs) : xb_k H x1 = 1 ∧ w_H_wrong x1 H Qs := by
  obtain ⟨oc, or_, A, v, DM, len, rl, ad, W, ts, mc, M, rc, rs, hO⟩ := hP.op
  obtain ⟨⟨e0, hI, hg, hM⟩, hQ, hA, eH, nx⟩ := id hO
  subst e0
  exact ⟨hI.1.1.k 0 (by omega), jO.aw hO hR (fun or' Q2 hA1 hQ2 => r_wrong hA1 (fun hA' => hQ2 _ hA' vu_gVL))⟩
theorem gRn.dp (hI : cI oc ad H W σ ts K) (h : gRn ad H W (fun k => xb_i H (A k)) (fun k => xb_l H (A k)) v DM) : (v 62 = 0 → xb_i H (ad 15) 4 = 0 ∧ v 68 = 0) ∧ (v 62 ≠ 0 → v 63 = 0 → xb_i H (ad 15) 4 = 0 ∧ v 68 = 0) ∧ (v 62 ≠ 0 → v 63 ≠ 0 → xb_i H (ad 15) 4 = v 68) := by
  rcases h with ⟨h1, h2, h3⟩ | ⟨h1, h2, h3⟩
  · have h4 := (hI.1.2.2.2.1.rest h1).2
    exact ⟨fun _ => ⟨Int32.toInt.inj h4, h3⟩, fun h9 => absurd h2 h9, fun h9 => absurd h2 h9⟩
  · refine ⟨fun h9 => absurd h9 h2, fun _ h63 => ?_, fun _ h63 => ?_⟩
    · rcases h3 with ⟨⟨k1, k2⟩, k3, -⟩ | ⟨k1, -⟩
      · exact ⟨Int32.toInt.inj k3, k2⟩
      · exact absurd h63 k1
    · rcases h3 with ⟨⟨k1, k2⟩, k3, -⟩ | ⟨k1, k2, D, gx, cs, n, r1, r2, r3⟩
      · exact absurd k1 h63
      · apply Int32.toInt.inj
        rw [r1.1.2.2.2.1, r2.1, ← r3.2.1.len]
theorem gw_calls (hP : jG σ x1 mm x3 (K + 1) H bc bs) (hR : jW σ x1 mm x3 K bc bs (fun H1 Q2 => w_M_calls mm H1 Q2) Qs) : xb_k H x1 = 1 ∧ w_H_calls x1 H Qs := by
  obtain ⟨oc, or_, A, v, DM, len, rl, ad, W, ts, mc, M, rc, rs, hO⟩ := hP.op
  obtain ⟨⟨e0, hI, hg, hM⟩, hQ, hA, eH, nx⟩ := id hO
  subst e0
  refine ⟨hI.1.1.k 0 (by omega), ho_calls hI (jO.aw hO hR (fun or' Q2 hA1 hQ2 => r_calls hA1 (fun hA' => ?_)))⟩
  obtain ⟨d1, d2, d3⟩ := hQ.2.2.2.2.2.2.2.1.dp hI
  have e9 : (if v 62 ≠ 0 ∧ v 63 ≠ 0 then v 68 else 0) = xb_i H (ad 15) 4 := by
    by_cases h62 : v 62 = 0
    · rw [if_neg (fun h9 => h9.1 h62), (d1 h62).1]
    · by_cases h63 : v 63 = 0
      · rw [if_neg (fun h9 => h9.2 h63), (d2 h62 h63).1]
      · rw [if_pos ⟨h62, h63⟩, d3 h62 h63]
  rw [e9]
  exact hQ2 _ hA' vu_gVL
theorem gw_result (hP : jG σ x1 mm x3 (K + 1) H bc bs) (hR : jWl σ x1 mm x3 K bc bs (fun H1 Q2 => w_M_result mm H1 Q2) Ql) : xb_k H x1 = 1 ∧ w_H_result x1 H Ql := by
  obtain ⟨oc, or_, A, v, DM, len, rl, ad, W, ts, mc, M, rc, rs, hO⟩ := hP.op
  obtain ⟨⟨e0, hI, hg, hM⟩, hQ, hA, eH, nx⟩ := id hO
  subst e0
  refine ⟨hI.1.1.k 0 (by omega), ho_result hI ?_⟩
  obtain ⟨or', hJ⟩ := hO.th (c := 0) (s := 0) (by omega) (by omega)
  rw [Nat.sub_zero, Nat.sub_zero] at hJ
  refine hR _ _ hJ.k9 (fun Q2 hQ2 => ?_)
  show w_M_result mm H Q2
  refine cast (congrArg (fun X => w_M_result mm X Q2) hJ.2.1.symm) ?_
  refine r_result hJ.1 (fun hA' => hQ2 _ _ hQ.2.2.2.2.2.2.1.1 ?_)
  exact hJ.fin f0.rf hA' (hQ.cgR (fun _ _ => rfl) (fun _ _ => rfl) vu_gVL)
end GV

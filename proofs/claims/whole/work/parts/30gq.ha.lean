-- equality: invoke
section HB0
variable {cb : Nat → Int32} {pa P f k : Nat} {φ : Nat → Nat → Int32} {DM : Nat → zM}
theorem fPk_eq (h : ptl cb pa P = fPl φ DM f) (hk : k < P) : (cb (pa + k)).toInt = fPk φ DM f k := by
  unfold fPl at h
  unfold fPk
  by_cases h9 : f < 100000
  · rw [if_pos h9] at h ⊢
    exact (ptl_inj h).2 k hk
  · rw [if_neg h9] at h ⊢
    have h8 := congrArg List.length h
    rw [ptl_ln] at h8
    have e1 : P = 1 := h8
    subst e1
    have e2 : k = 0 := by omega
    subst e2
    rw [ptl_s] at h
    exact (List.cons.inj h).1
end HB0
section HB
variable {oc oc' or_ or' A A' : Nat → Nat} {H H1 H2 h h2 : xb_H} {F F2 : Nat → Nat → Int32} {v v2 u : Nat → Int32} {DM DM' : Nat → zM} {len rl len' rl' : Nat} {ad ad' : Nat → Nat} {W W' : wD} {σ x1 mm x3 K ts ts' mc mc' bc bs bc1 bs1 rc rs : Nat} {M M' : Nat → mD} {Qr : Int32 → xb_H → Nat → Nat → Prop} {Qs : Int32 → xb_H → Prop} {Ql : Int64 → xb_H → Prop} {r : Int32} {y : Int64} {φ φ' : Nat → Nat → Int32} {ℓ : Nat → Nat → Int64} {ν : Nat → Int32}
/-- an export of an instance, in both -/
theorem gQ.inv (hI : cI oc ad H W σ ts K) (hQ : gQ ad H W mc M ts (fun k => xb_i H (A k)) (fun k => xb_l H (A k)) v y DM) {i j m : Nat} (hi : i < wic W) (hj : j < dn (wd W i) 6 / 5) (hm : (xb_i H (A 31) i).toInt = m) : j < qt (DM m) 7 ∧ ((dvs (wd W i) 6 (5 * j + 1)).toInt = 0 ↔ ub (qc (DM m)) (xko (DM m) j) = 0) ∧ (dvs (wd W i) 6 (5 * j + 2)).toInt = xnu (DM m) j ∧ ((dvs (wd W i) 6 (5 * j + 1)).toInt = 0 → mnV A (xb_i H) DM i 0 (xnu (DM m) j) = fmp (fnI H W i (xnu (DM m) j)) ∧ (dvs (wd W i) 0 (5 * (dvs (wd W i) 2 (2 * xnu (DM m) j + 1)).toInt.toNat + 2)).toInt = (fPl (fun k => xb_i H (A k)) DM (fmp (fnI H W i (xnu (DM m) j)))).length ∧ (fT W (fnI H W i (xnu (DM m) j))).1.length = (fPl (fun k => xb_i H (A k)) DM (fmp (fnI H W i (xnu (DM m) j)))).length ∧ ∀ t, t < (fPl (fun k => xb_i H (A k)) DM (fmp (fnI H W i (xnu (DM m) j)))).length → (dcb (wd W i) ((dvs (wd W i) 0 (5 * (dvs (wd W i) 2 (2 * xnu (DM m) j + 1)).toInt.toNat + 1)).toInt.toNat + t)).toInt = fPk (fun k => xb_i H (A k)) DM (fmp (fnI H W i (xnu (DM m) j))) t) := by
  have hW := hI.1.2.1
  have st := hQ.2.2.1.2.2.1
  obtain ⟨q1, ⟨md, q2⟩, -⟩ := hQ.ins hI hi
  rw [hm, Int.toNat_natCast] at q1
  have n6 := q1.n2.2.1
  have hj7 : j < qt (DM m) 7 := by omega
  obtain ⟨x1, x2, x3, x4⟩ := q1.xp hj7
  obtain ⟨m1, m2, m3, m4⟩ := q2.xp hj
  refine ⟨hj7, ⟨fun h9 => ?_, fun h9 => ?_⟩, x2, fun h9 => ?_⟩
  · apply Int32.toInt.inj
    rw [← x1, h9]
    rfl
  · rw [x1, h9]
    rfl
  · have hnf := m4 h9
    rw [x2] at hnf
    have hnf' : xnu (DM m) j < nf (wd W i) := by omega
    have emn : mnV A (xb_i H) DM i 0 (xnu (DM m) j) = fmp (fnI H W i (xnu (DM m) j)) := (st.2.2.1 i hi).1 _ hnf'
    obtain ⟨f1, f2⟩ := fnI_ty hW hi hnf'
    obtain ⟨g1, g2⟩ := st.ft hW f1
    obtain ⟨f3, f4, f5, f6⟩ := q1.ft q2 hnf'
    have g1' : fPl (fun k => xb_i H (A k)) DM (fmp (fnI H W i (xnu (DM m) j))) = (fT W (fnI H W i (xnu (DM m) j))).1 := g1
    have ln : (fPl (fun k => xb_i H (A k)) DM (fmp (fnI H W i (xnu (DM m) j)))).length = tPn (DM m) (fty (DM m) (xnu (DM m) j)) := by
      rw [g1', f2, f6, ptl_len]
    have ty := q1.ty q2 f5
    have e2 : ptl (dcb (wd W i)) (dvs (wd W i) 0 (5 * fty (DM m) (xnu (DM m) j) + 1)).toInt.toNat (dvs (wd W i) 0 (5 * fty (DM m) (xnu (DM m) j) + 2)).toInt.toNat = fPl (fun k => xb_i H (A k)) DM (fmp (fnI H W i (xnu (DM m) j))) := by
      rw [g1', f2]
      unfold ftm tyf
      rw [f4, Int.toNat_natCast]
    refine ⟨emn, ?_, by rw [g1'], fun t ht => ?_⟩
    · rw [f4, Int.toNat_natCast, ty.2.2, ln]
    · rw [f4, Int.toNat_natCast]
      refine fPk_eq e2 ?_
      rw [ty.2.2, Int.toNat_natCast, ← ln]
      exact ht
theorem fPl_st {f : Nat} (h31 : φ' 31 = φ 31) (h44 : φ' 44 = φ 44) (h45 : φ' 45 = φ 45) : fPl φ' DM f = fPl φ DM f := by
  unfold fPl fMo fTy fMo aV
  rw [h31, h44, h45]
theorem sR.mn {i κ k : Nat} (hs : sR A mm H H1) : mnV A (xb_i H1) DM i κ k = mnV A (xb_i H) DM i κ k := by
  unfold mnV
  rw [(hs.1 31 (by decide)).1, (hs.1 32 (by decide)).1, (hs.1 33 (by decide)).1, (hs.1 35 (by decide)).1, (hs.1 36 (by decide)).1, (hs.1 37 (by decide)).1, (hs.1 38 (by decide)).1]
theorem sR.fp {f : Nat} (hs : sR A mm H H1) : fPl (fun k => xb_i H1 (A k)) DM f = fPl (fun k => xb_i H (A k)) DM f := fPl_st (hs.1 31 (by decide)).1 (hs.1 44 (by decide)).1 (hs.1 45 (by decide)).1
theorem gRn.i3 (h : gRn ad H W φ ℓ ν DM) : xb_i H (ad 15) 3 = 0 ↔ ν 62 = 0 := by
  rcases h with ⟨h1, h2, -⟩ | ⟨h1, h2, -⟩
  · exact ⟨fun _ => h2, fun _ => h1⟩
  · exact ⟨fun h9 => absurd h9 h1, fun h9 => absurd h9 h2⟩
theorem gw_invoke {a1 a2 : Int32} (hP : jG σ x1 mm x3 (K + 1) H bc bs) (hX : jU σ x1 mm x3 K (fun H1 b1 s1 Q2 => w_M_invoke mm a1 a2 H1 (fun H2 => Q2 H2 b1 s1)) Qr) : w_Law_invoke x1 a1 a2 H bc bs Qr := by
  obtain ⟨oc, or_, A, v, DM, len, rl, ad, W, ts, mc, M, rc, rs, hO⟩ := hP.op
  obtain ⟨⟨e0, hI, hg, hM⟩, hQ, hA, eH, nx⟩ := id hO
  subst e0
  have hB := hI.1.1
  have hic : vN v 30 = wic W := hQ.2.2.1.1.1
  have i62 : xb_i H (ad 15) 3 = 0 ↔ v 62 = 0 := hQ.2.2.2.2.2.2.2.1.i3
  have m9 : ∀ i, i < wic W → ∃ m : Nat, (xb_i H (A 31) i).toInt = m := by
    intro i hi
    obtain ⟨m', -, -, -, -, -, ⟨dm, -⟩, -⟩ := hA.io (by rw [hic]; exact hi)
    exact ⟨m', dm⟩
  obtain ⟨n66, n66b⟩ := hA.n (k := 66) (b := 1000) (by decide)
  obtain ⟨r1, r2⟩ := hQ.2.2.2.2.1
  unfold w_Law_invoke
  refine ⟨hB.k 0 (by omega), ho_invoke hI hg (r1.trans n66) (fun i j k f H1 oc' q bc1 bs1 hiv hkd hk hknf hna hi3 hf hvf hfT s hnum hoth hl15 hargs hi16 hI' hg' _ => ?_) (fun h9 _ _ => .inr (.inr ⟨rfl, ?_⟩)) (fun h9 _ _ => .inl ⟨rfl, ?_⟩) (fun h9 _ _ => .inr (.inl ⟨rfl, ?_⟩))⟩
  · obtain ⟨hi, hi2, hj, hj2⟩ := hiv
    obtain ⟨m, hm⟩ := m9 i hi2
    obtain ⟨e1, e2, e3, e4⟩ := hQ.inv hI hi2 hj2 hm
    obtain ⟨e5, e6, e7, e8⟩ := e4 hkd
    have ek : k = xnu (DM m) j := by rw [e3] at hk; exact (Int.ofNat.inj hk).symm
    subst ek
    have elen : (fPl (fun k => xb_i H (A k)) DM (fmp f)).length = vN v 66 := by
      rw [hf]
      rw [hna] at e6
      exact (Int.ofNat.inj e6).symm
    have a16 : va_up ad 37 q 16 = ad 16 := by rw [xh_up, if_neg (by decide)]
    have a15 : va_up ad 37 q 15 = ad 15 := by rw [xh_up, if_neg (by decide)]
    have a36 : va_up ad 37 q 36 = ad 36 := by rw [xh_up, if_neg (by decide)]
    have a37 : va_up ad 37 q 37 = q := by rw [xh_up, if_pos rfl]
    have i03 : xb_i H1 (ad 0) 3 = xb_i H (ad 0) 3 := by rw [(s.cm hB (by decide) (fun x hx => by cases hx) (k := 0) (by decide) (by decide)).2.1]
    refine jO.chU (w := fun H1 b1 s1 Q2 => w_M_invoke mm a1 a2 H1 (fun H2 => Q2 H2 b1 s1)) hO hX (s.hR hB (by decide)) s.a0 hI' (hM.st hB s (by decide) (by decide) i03) hg' (fun or' Q2 hA1 hs hg2 hQ2 => r_invoke hA1 (fun i' k' m' f' h' hv _ hf' _ _ _ hd h67 u hu u0' u17 u62 u63 u64 u66 u93 hf0 hA' => ?_) (fun h9 => ?_) (fun i' k' m' hv h9 => ?_) (fun i' k' m' _ _ _ h9 => absurd (i62.mp hi3) h9))
    · obtain ⟨v1, v2, v3, v4, v5, v6⟩ := hv
      have ei : i' = i := by omega
      have ej : k' = j := by omega
      subst ei
      subst ej
      rw [(hs.1 31 (by decide)).1] at v4
      have em : m' = m := by rw [hm] at v4; exact (Int.ofNat.inj v4).symm
      subst em
      rw [hs.mn, e5, ← hf] at hf'
      subst hf'
      have hl : ∀ k, k ∈ gLL → k ∉ [67] → xb_l h' (A k) = xb_l H (A k) := fun k hk hn => by
        have ok := hA1.1.o (gAL_aL k (List.mem_append_right _ hk))
        have o67 := hA1.1.o (k := 67) (by decide)
        have hne : k ≠ 67 := fun e => hn (by rw [e]; exact List.mem_singleton.mpr rfl)
        rw [hd _ (fun h9 => by rw [h9] at ok; omega)]
        exact hs.l (CL := []) k hk (by simp)
      have hm85 : xb_l h' mm 85 = xb_l H mm 85 := by
        have o67 := hA1.1.o (k := 67) (by decide)
        have om := hA1.1.1
        rw [hd mm (fun h9 => by rw [← h9] at o67; omega)]
        exact congrFun hs.2 85
      obtain ⟨p1, p2, p3, p4, p5, p6, p7, p8, p9⟩ := hQ.stR hI hM s (by decide) (CA := []) (CL := [67]) (CV := [62, 63, 64, 66]) (φ' := fun k => xb_i H1 (A k)) (ℓ' := fun k => xb_l h' (A k)) (ν' := u) (y' := xb_l h' mm 85) hs.i hl (fun j hj hn => hu j (by
        have h2 : j ≠ 62 ∧ j ≠ 63 ∧ j ≠ 64 ∧ j ≠ 66 := by simpa using hn
        exact (by decide : ∀ j, j ∈ gVL → j ≠ 62 → j ≠ 63 → j ≠ 64 → j ≠ 66 → j ∉ [0, 14, 15, 16, 17, 18, 62, 63, 64, 66, 93]) j hj h2.1 h2.2.1 h2.2.2.1 h2.2.2.2)) hm85
      refine hQ2 _ _ _ hf0 hA' ⟨p1 (by decide), p2 (by decide), p3 (by decide), p4 (by decide), ⟨?_, fun j hj => ?_⟩, p6 (by decide), ?_, .inr ⟨?_, ?_, .inl ⟨⟨u63, ?_⟩, ?_, f, ?_, hvf, u64, fun t ht => ?_⟩⟩, p9 (by decide)⟩ u0'
      · rw [a16, hi16, u66]
        rfl
      · rw [u66] at hj
        exact absurd hj (by simp only [Int32.reduceToInt]; omega)
      · obtain ⟨g1, g2⟩ := hQ.2.2.2.2.2.2.1
        have s36 := (s.cm hB (by decide) (fun x hx => by cases hx) (k := 36) (by decide) (by decide)).2
        unfold gRs
        rw [a15, a36, hl15, s36.1, hm85]
        exact ⟨g1, fun j hj => (congrFun (hs.1 86 (by decide)).1 j).trans (g2 j hj)⟩
      · rw [a15]
        intro h9
        have := hnum.1
        rw [h9] at this
        cases this
      · rw [u62]
        decide
      · have := (hQ.2.2.2.2.2.2.2.1.dp hI).1 (i62.mp hi3)
        rw [hu 68 (by decide)]
        exact this.2
      · rw [a15]
        exact hnum.2.1
      · rw [a15]
        exact hnum.2.2.1
      · have h7 : t < (fPl (fun k => xb_i H (A k)) DM (fmp f)).length := by
          rw [hf, ← e7, ← hf]
          exact ht
        have h8 : t < vN v 66 := by omega
        rw [fPk.st (φ := fun k => xb_i H (A k)) (φ' := fun k => xb_i H1 (A k)) (hs.1 31 (by decide)).1 (hs.1 44 (by decide)).1 (hs.1 45 (by decide)).1, a37, hargs t h8]
        show _ = arV _ (xb_l h' (A 67) t)
        have r2' : xb_l H (A 65) t = xb_l H (ad 17) t := r2 t (by omega)
        rw [h67 t, if_pos h8, (hs.1 65 (by decide)).2, r2']
        have h6 := e8 t (by rw [← hf]; exact h7)
        rw [← hf] at h6
        rw [h6]
    · exfalso
      rw [(hs.1 31 (by decide)).1] at h9
      rcases h9 with h9 | ⟨i', m', hi', -, hm', -, h9⟩
      · exact byd_1 h9 hi (by omega)
      · have ei : i' = i := by omega
        subst ei
        have em : m' = m := by rw [hm] at hm'; exact (Int.ofNat.inj hm').symm
        subst em
        exact byd_1 h9 hj e1
    · exfalso
      obtain ⟨v1, v2, v3, v4, v5, v6⟩ := hv
      have ei : i' = i := by omega
      have ej : k' = j := by omega
      subst ei
      subst ej
      rw [(hs.1 31 (by decide)).1] at v4
      have em : m' = m := by rw [hm] at v4; exact (Int.ofNat.inj v4).symm
      subst em
      rcases h9 with h9 | ⟨-, h9⟩
      · exact h9 (e2.mp hkd)
      · rw [hs.mn, hs.fp, e5, ← hf, elen] at h9
        exact h9 rfl
  · refine jO.twU (w := fun H1 b1 s1 Q2 => w_M_invoke mm a1 a2 H1 (fun H2 => Q2 H2 b1 s1)) hO hX (fun or' rc' rs' Q2 hA1 hg1 hQ2 => ?_)
    have no : ∀ i k m : Nat, ivR A (xb_i H) DM v a1 a2 i k m → False := fun i k m hv => by
      obtain ⟨v1, v2, v3, v4, v5, v6⟩ := hv
      rcases h9 with h9 | ⟨i', hi', hi2, h9⟩
      · exact byd_1 h9 v1 (by omega)
      · have ei : i' = i := by omega
        subst ei
        obtain ⟨q1, -⟩ := hQ.ins hI hi2
        have n6 := q1.n2.2.1
        rw [v4, Int.toNat_natCast] at n6
        exact byd_1 h9 v3 (by omega)
    exact r_invoke hA1 (fun i' k' m' f' h' hv => (no _ _ _ hv).elim) (fun _ u hu hA' => hQ2 _ hA' (vz_gVL hu) hu.2.1) (fun i' k' m' hv => (no _ _ _ hv).elim) (fun i' k' m' hv => (no _ _ _ hv).elim)
  · refine jO.twU (w := fun H1 b1 s1 Q2 => w_M_invoke mm a1 a2 H1 (fun H2 => Q2 H2 b1 s1)) hO hX (fun or' rc' rs' Q2 hA1 hg1 hQ2 => ?_)
    obtain ⟨i, j, ⟨hi, hi2, hj, hj2⟩, h9⟩ := h9
    obtain ⟨m, hm⟩ := m9 i hi2
    obtain ⟨e1, e2, e3, e4⟩ := hQ.inv hI hi2 hj2 hm
    have no : ∀ i' k' m' : Nat, ivR A (xb_i H) DM v a1 a2 i' k' m' → ub (qc (DM m')) (xko (DM m') k') = 0 → vN v 66 = (fPl (fun k => xb_i H (A k)) DM (mnV A (xb_i H) DM i' 0 (xnu (DM m') k'))).length → False := fun i' k' m' hv hub hln => by
      obtain ⟨v1, v2, v3, v4, v5, v6⟩ := hv
      have ei : i' = i := by omega
      have ej : k' = j := by omega
      subst ei
      subst ej
      have em : m' = m := by rw [hm] at v4; exact (Int.ofNat.inj v4).symm
      subst em
      rcases h9 with h9 | ⟨k, h9, hk, h8⟩
      · exact h9 (e2.mpr hub)
      · obtain ⟨e5, e6, e7, e8⟩ := e4 h9
        have ek : k = xnu (DM m') k' := by rw [e3] at hk; exact (Int.ofNat.inj hk).symm
        subst ek
        rw [e5] at hln
        rw [e6, ← hln] at h8
        exact h8 rfl
    refine r_invoke hA1 (fun i' k' m' f' h' hv hub hf' _ hln => (no _ _ _ hv hub (by rw [← hf']; exact hln)).elim) (fun h8 => ?_) (fun i' k' m' _ _ u hu hA' => hQ2 _ hA' (vz_gVL hu) hu.2.1) (fun i' k' m' hv hub hln => (no _ _ _ hv hub hln).elim)
    exfalso
    rcases h8 with h8 | ⟨i', m', hi', -, hm', -, h8⟩
    · exact byd_1 h8 hi (by omega)
    · have ei : i' = i := by omega
      subst ei
      have em : m' = m := by rw [hm] at hm'; exact (Int.ofNat.inj hm').symm
      subst em
      exact byd_1 h8 hj e1
  · refine jO.twU (w := fun H1 b1 s1 Q2 => w_M_invoke mm a1 a2 H1 (fun H2 => Q2 H2 b1 s1)) hO hX (fun or' rc' rs' Q2 hA1 hg1 hQ2 => ?_)
    obtain ⟨i, j, k, ⟨hi, hi2, hj, hj2⟩, hkd, hk, hna, hi3⟩ := h9
    obtain ⟨m, hm⟩ := m9 i hi2
    obtain ⟨e1, e2, e3, e4⟩ := hQ.inv hI hi2 hj2 hm
    obtain ⟨e5, e6, e7, e8⟩ := e4 hkd
    have ek : k = xnu (DM m) j := by rw [e3] at hk; exact (Int.ofNat.inj hk).symm
    subst ek
    have elen : (fPl (fun k => xb_i H (A k)) DM (fmp (fnI H W i (xnu (DM m) j)))).length = vN v 66 := by
      rw [hna] at e6
      exact (Int.ofNat.inj e6).symm
    refine r_invoke hA1 (fun i' k' m' f' h' hv hub hf' _ hln h62 => absurd (i62.mpr h62) hi3) (fun h8 => ?_) (fun i' k' m' hv h8 => ?_) (fun i' k' m' _ _ _ _ u hu hA' => hQ2 _ hA' (vz_gVL hu) hu.2.1)
    · exfalso
      rcases h8 with h8 | ⟨i', m', hi', -, hm', -, h8⟩
      · exact byd_1 h8 hi (by omega)
      · have ei : i' = i := by omega
        subst ei
        have em : m' = m := by rw [hm] at hm'; exact (Int.ofNat.inj hm').symm
        subst em
        exact byd_1 h8 hj e1
    · exfalso
      obtain ⟨v1, v2, v3, v4, v5, v6⟩ := hv
      have ei : i' = i := by omega
      have ej : k' = j := by omega
      subst ei
      subst ej
      have em : m' = m := by rw [hm] at v4; exact (Int.ofNat.inj v4).symm
      subst em
      rcases h8 with h8 | ⟨-, h8⟩
      · exact h8 (e2.mp hkd)
      · rw [e5, elen] at h8
        exact h8 rfl
end HB

-- equality: find, name
section GZ0
variable {own : Nat → Nat} {h : xb_H} {md : Nat} {d : mD} {D : zM} {u w : Nat → Int32} {p o l : Nat} {r r' : Int32}
theorem mdQ.sme (hq : mdQ d D) (hm : mo own h md d) (hu : ∀ t, t < l → u (p + t) = w (o + t)) {j : Nat} (hj : j < qt D 7) : smE (dn d) (dvs d) (dcb d) u p l j ↔ rxS D w o l j := by
  obtain ⟨-, -, x3, x4⟩ := hq.xp hj
  have n6 := hq.n2.2.1
  have c6 := hm.2.1.2.2.2.2.2.2.1.1
  obtain ⟨pj, hj5⟩ := c6.at (by omega) (i := j) (by omega)
  dsimp only [mp6] at pj
  have xx : ∀ t, t < cV (qc D) (qp D 7 j) → dcb d ((dvs d 6 (5 * j + 3)).toInt.toNat + t) = qc D (cE (qc D) (qp D 7 j) + t) := fun t ht => by
    rw [hq.cx.1.1 _ (by omega)]
    congr 1
    omega
  constructor
  · rintro ⟨e1, e2⟩
    have e3 : cV (qc D) (qp D 7 j) = l := by omega
    refine ⟨e3, fun t ht => ?_⟩
    rw [← xx t (by omega), e2 t ht, hu t ht]
  · rintro ⟨e1, e2⟩
    refine ⟨by omega, fun t ht => ?_⟩
    rw [xx t (by omega), e2 t ht, hu t ht]
theorem mdQ.exn (hq : mdQ d D) (hm : mo own h md d) (hu : ∀ t, t < l → u (p + t) = w (o + t)) (h1 : exN d u p l r) (h2 : rxN D w o l r') : r' = r := by
  have n6 := hq.n2.2.1
  have n7 : dn d 6 / 5 = qt D 7 := by omega
  unfold exN at h1
  rw [n7] at h1
  rcases h1 with ⟨a1, a2⟩ | ⟨i, a1, a2, a3, a4⟩
  · rcases h2 with ⟨b1, b2⟩ | ⟨k, b1, b2, b3, b4⟩
    · rw [a1, b1]
    · exact absurd ((hq.sme hm hu b2).mpr b3) (a2 k b2)
  · rcases h2 with ⟨b1, b2⟩ | ⟨k, b1, b2, b3, b4⟩
    · exact absurd ((hq.sme hm hu a2).mp a3) (b2 i a2)
    · have e : i = k := by
        rcases Nat.lt_trichotomy i k with h9 | h9 | h9
        · exact absurd ((hq.sme hm hu a2).mp a3) (b4 i h9)
        · exact h9
        · exact absurd ((hq.sme hm hu b2).mpr b3) (a4 k h9)
      apply Int32.toInt.inj
      rw [a1, b1, e]
theorem nar_id {x : Int32} (hx : -128 ≤ x.toInt ∧ x.toInt ≤ 127) : (vp_nar .byte x).toInt = x.toInt := by
  have h1 : (vp_nar .byte x) = (Int32.toInt8 x).toInt32 := rfl
  rw [h1, z_byte]
  omega
theorem z_s1 {x : Int32} {n : Nat} (h : x.toInt = n) (hn : n ≤ 512) : (x + 1).toInt = (n + 1 : Nat) := by
  rw [z_add, h]
  simp only [Int32.reduceToInt]
  omega
end GZ0
section GZ
variable {oc oc' or_ or' A A' : Nat → Nat} {H H1 H2 h h2 : xb_H} {F F2 : Nat → Nat → Int32} {v v2 u : Nat → Int32} {DM DM' : Nat → zM} {len rl len' rl' : Nat} {ad ad' : Nat → Nat} {W W' : wD} {σ x1 mm x3 K ts ts' mc mc' bc bs bc1 bs1 rc rs : Nat} {M M' : Nat → mD} {Qr : Int32 → xb_H → Nat → Nat → Prop} {Qs : Int32 → xb_H → Prop} {Ql : Int64 → xb_H → Prop} {r : Int32} {y : Int64} {φ : Nat → Nat → Int32} {ℓ : Nat → Nat → Int64} {ν : Nat → Int32}
theorem gw_find {a1 : Int32} (hP : jG σ x1 mm x3 (K + 1) H bc bs) (hX : jV σ x1 mm x3 K (fun H1 b1 s1 Q2 => w_M_find mm a1 H1 b1 s1 Q2) Qr) : w_Law_find x1 a1 x3 H bc bs Qr := by
  obtain ⟨oc, or_, A, v, DM, len, rl, ad, W, ts, mc, M, rc, rs, hO⟩ := hP.op
  obtain ⟨⟨e0, hI, hg, hM⟩, hQ, hA, eH, nx⟩ := id hO
  subst e0
  have hB := hI.1.1
  have hic : vN v 30 = wic W := hQ.2.2.1.1.1
  obtain ⟨t2, t1⟩ := hQ.1
  have t3 : vN v 2 = ts := by unfold vN; rw [t2]; rfl
  unfold w_Law_find
  refine ⟨hB.k 0 (by omega), ho_find hI hg (fun i z H1 hi hi2 hz e1 s hI' hg' _ => ?_) (fun h9 _ _ => ⟨rfl, ?_⟩)⟩
  · have i0 : ∀ j, j ≠ 1 → xb_i H1 (ad 0) j = xb_i H (ad 0) j := fun j hj => by
      rw [e1, xh_iI, if_pos rfl, xh_up, if_neg hj]
    refine jO.chV (w := fun H1 b1 s1 Q2 => w_M_find mm a1 H1 b1 s1 Q2) hO hX (s.hR hB (by decide)) s.a0 hI' (hM.st hB s (by decide) (by decide) (i0 3 (by decide))) hg' (fun H2 or' Q2 hA1 hs o3 hg2 hQ2 => r_find hA1 hg2 (fun i' m z' w hi' _ hm hm2 hw1 hw2 hz' u hu u0' u2' u17 hf hA' => ?_) (fun h9 => (byd_1 h9 hi (by omega)).elim))
    have ei : i' = i := by omega
    subst ei
    obtain ⟨q1, ⟨md, q2⟩, -⟩ := hQ.ins hI hi2
    rw [(hs.1 31 (by decide)).1] at hm
    rw [hm, Int.toNat_natCast] at q1
    rw [t3] at hz'
    have ez : z' = z := by
      refine q1.exn q2 (fun t ht => ?_) hz hz'
      rw [hw2 t (by omega), Nat.zero_add, (hs.1 1 (by decide)).1]
      apply Int32.toInt.inj
      have h8 : (xb_i H (A 1) t).toInt = (xb_i H (ad 1) t).toInt := t1 t ht
      have h7 := hI.2.1.2.2.2.2 t
      rw [nar_id (by omega), h8]
    rw [ez]
    obtain ⟨p1, p2, p3, p4, p5, p6, p7, p8, p9⟩ := hQ.stR hI hM s (by decide) (CA := [3]) (CL := []) (CV := [2]) (φ' := fun k => va_up (xb_i H2) (A 3) w (A k)) (ℓ' := fun k => xb_l H2 (A k)) (ν' := u) (y' := xb_l H2 mm 85) (hs.up hA1.1 (by decide)) hs.l (fun j hj hn => hu j (by
      have h2 : j ≠ 2 := by simpa using hn
      have := (by decide : ∀ j, j ∈ gVL → j ≠ 2 → j ∉ [0, 2, 14, 15, 16, 17, 18]) j hj h2
      exact this)) (congrFun hs.2 85)
    refine hQ2 _ _ _ hf hA' ⟨⟨?_, fun j hj => absurd hj (by omega)⟩, p2 (by decide), p3 (by decide), ⟨?_, fun k hk => ?_⟩, p5 (by decide), ?_, p7 (by decide), p8 (by decide), p9 (by decide)⟩ u0' rfl
    · rw [u2']
      rfl
    · have s29 := (s.cm hB (by decide) (fun x hx => by cases hx) (k := 29) (by decide) (by decide)).2
      unfold vN
      rw [s29.1, hu 42 (by decide)]
      exact hQ.2.2.2.1.1
    · have s30 := (s.cm hB (by decide) (fun x hx => by cases hx) (k := 30) (by decide) (by decide)).2
      have s31 := (s.cm hB (by decide) (fun x hx => by cases hx) (k := 31) (by decide) (by decide)).2
      have hk' : k < vN v 42 := by
        unfold vN at hk ⊢
        rw [hu 42 (by decide)] at hk
        exact hk
      obtain ⟨g1, g2, g3⟩ := hQ.2.2.2.1.2 k hk'
      obtain ⟨nf, ns, no, k1, k2, k3, k4, k5⟩ := hA.I.2.2.2.1.2.2.2.2.2.2 k hk'
      rw [s30.2.1, s31.1]
      have e39 := congrFun (hs.up (w := w) hA1.1 (j := 3) (by decide) 39 (by decide) (by decide)) k
      have e40 := congrFun (hs.up (w := w) hA1.1 (j := 3) (by decide) 40 (by decide) (by decide)) k
      have e41 := congrFun (hs.up (w := w) hA1.1 (j := 3) (by decide) 41 (by decide) (by decide)) k
      refine ⟨(congrArg Int32.toInt e40).trans g1, (congrArg Int32.toInt e41).trans g2, fun j hj => ?_⟩
      rw [← g3 j hj]
      show va_up (xb_i H2) (A 3) w (A 3) ((va_up (xb_i H2) (A 3) w (A 39) k).toInt.toNat + j) = _
      have k1' : (xb_i H (A 39) k).toInt = nf := k1
      have k2' : (xb_i H (A 40) k).toInt = ns := k2
      have g1' : (xb_i H (A 40) k).toInt = (xb_l H (ad 30) (3 * k + 1)).toInt := g1
      rw [e39, xh_up, if_pos rfl, k1', hw1 _ (by omega), (hs.1 3 (by decide)).1]
    · obtain ⟨f1, f2⟩ := hQ.2.2.2.2.2.1
      unfold gFt
      rw [i0 9 (by decide), i0 10 (by decide)]
      have e89 := hs.up (w := w) hA1.1 (j := 3) (by decide) 89 (by decide) (by decide)
      exact ⟨(congrFun e89 0).trans f1, (congrFun e89 1).trans f2⟩
  · exact jO.twV (w := fun H1 b1 s1 Q2 => w_M_find mm a1 H1 b1 s1 Q2) hO hX (by decide) (fun or' rc' rs' Q2 hA1 hg1 hQ2 => r_find hA1 hg1 (fun i' m z' w hi' hi2 => (byd_1 h9 hi' (by omega)).elim) (fun _ hA' => hQ2 _ _ hA' vu_gVL u0))
theorem gw_name {a1 : Int32} (hP : jG σ x1 mm x3 (K + 1) H bc bs) (hX : jU σ x1 mm x3 K (fun H1 b1 s1 Q2 => w_M_name1 mm a1 H1 b1 s1 Q2) Qr) : w_Law_name x1 a1 H bc bs Qr := by
  obtain ⟨oc, or_, A, v, DM, len, rl, ad, W, ts, mc, M, rc, rs, hO⟩ := hP.op
  obtain ⟨⟨e0, hI, hg, hM⟩, hQ, hA, eH, nx⟩ := id hO
  subst e0
  have hB := hI.1.1
  have hic : vN v 30 = wic W := hQ.2.2.1.1.1
  obtain ⟨t2, t1⟩ := hQ.1
  have t3 : vN v 2 = ts := by unfold vN; rw [t2]; rfl
  obtain ⟨nn, ns0, r0, hns, r2, r3, r4⟩ := hI.1.2.1.2.2.2.2.2.1
  obtain ⟨gn, gk⟩ := hQ.2.2.2.1
  obtain ⟨n42, n42b⟩ := hA.n (k := 42) (b := 512) (by decide)
  obtain ⟨n4, n4b⟩ := hA.n (k := 4) (b := 10240) (by decide)
  have enn : nn = vN v 42 := by
    have h9 : ((3 * nn : Nat) : Int) = (3 * vN v 42 : Nat) := r0.2.2.1.symm.trans gn
    clear hO nx hQ
    omega
  subst enn
  have w1 := hA.W1.2.2.2.1
  unfold w_Law_name
  refine ⟨hB.k 0 (by omega), ho_name hI hg gn hns (fun i H1 oc' ad' bc1 bs1 hi hi2 s hnum h14 h0 h30 h31 hI' hg' _ => ?_) (fun h9 _ _ => ⟨rfl, ?_⟩)⟩
  · have i0 : ∀ j, j ≠ 1 → xb_i H1 (ad 0) j = xb_i H (ad 0) j := fun j hj => by
      rw [h0, xh_up, if_neg hj]
    refine jO.chU (w := fun H1 b1 s1 Q2 => w_M_name1 mm a1 H1 b1 s1 Q2) hO hX (s.hR hB (by decide)) s.a0 hI' (hM.st hB s (by decide) (by decide) (i0 3 (by decide))) hg' (fun or' Q2 hA1 hs hg2 hQ2 => r_name hA1 hg2 (fun i' G w hi' _ hw1 hw2 hG g40 g39 g41 u hu u0' u2' u4' u42' hf hA' => ?_) (fun h9 => (byd_1 h9 hi (by omega)).elim))
    have ei : i' = i := by omega
    subst ei
    have al : ∀ k, k ∈ gAL → k ∉ [3, 39, 40, 41] → G (A k) = xb_i H (A k) := fun k hk hn => by
      have ok := hA1.1.o (gAL_aL k (List.mem_append_left _ hk))
      have o39 := hA1.1.o (k := 39) (by decide)
      have o40 := hA1.1.o (k := 40) (by decide)
      have o41 := hA1.1.o (k := 41) (by decide)
      have hn' : k ≠ 3 ∧ k ≠ 39 ∧ k ≠ 40 ∧ k ≠ 41 := by simpa using hn
      rw [hG (A k) (fun e => by rw [e] at ok; omega) (fun e => by rw [e] at ok; omega) (fun e => by rw [e] at ok; omega)]
      exact hs.up hA1.1 (by decide) k hk (by simpa using hn'.1)
    have g3 : G (A 3) = w := by
      have o3 := hA1.1.o (k := 3) (by decide)
      have o39 := hA1.1.o (k := 39) (by decide)
      have o40 := hA1.1.o (k := 40) (by decide)
      have o41 := hA1.1.o (k := 41) (by decide)
      rw [hG (A 3) (fun e => by rw [e] at o3; omega) (fun e => by rw [e] at o3; omega) (fun e => by rw [e] at o3; omega), xh_up, if_pos rfl]
    rw [(hs.1 40 (by decide)).1] at g40
    rw [(hs.1 39 (by decide)).1] at g39
    rw [(hs.1 41 (by decide)).1] at g41
    have e42 : vN u 42 = vN v 42 + 1 := by
      have h9 := z_s1 n42 n42b
      rw [← u42'] at h9
      show (u 42).toInt.toNat = _
      rw [h9]
      rfl
    obtain ⟨p1, p2, p3, p4, p5, p6, p7, p8, p9⟩ := hQ.stR hI hM s (by decide) (CA := [3, 39, 40, 41]) (CL := []) (CV := [2, 42]) (φ' := fun k => G (A k)) (ℓ' := fun k => xb_l H1 (A k)) (ν' := u) (y' := xb_l H1 mm 85) al hs.l (fun j hj hn => hu j (by
      have h2 : j ≠ 2 ∧ j ≠ 42 := by simpa using hn
      exact (by decide : ∀ j, j ∈ gVL → j ≠ 2 → j ≠ 42 → j ∉ [0, 2, 4, 42]) j hj h2.1 h2.2)) (congrFun hs.2 85)
    have a29 : ad' 29 = ad 29 := s.2.2.2.2.2.2 29 (by decide)
    refine hQ2 _ _ _ hf hA' ⟨⟨?_, fun j hj => absurd hj (by omega)⟩, p2 (by decide), p3 (by decide), ⟨?_, fun k hk => ?_⟩, p5 (by decide), ?_, p7 (by decide), p8 (by decide), p9 (by decide)⟩ u0'
    · rw [u2']
      rfl
    · rw [a29, e42]
      exact hnum.1
    · rw [e42] at hk
      obtain ⟨b0, b1, b2, b3⟩ := h30
      by_cases h9 : k = vN v 42
      · subst h9
        rw [b2, b3]
        show (G (A 40) (vN v 42)).toInt = _ ∧ (G (A 41) (vN v 42)).toInt = _ ∧ ∀ j : Nat, (j : Int) < _ → G (A 3) ((G (A 39) (vN v 42)).toInt.toNat + j) = _
        rw [g40, g41, g39, g3, xh_up, if_pos rfl, xh_up, if_pos rfl, xh_up, if_pos rfl]
        refine ⟨t2, hi, fun j hj => ?_⟩
        have e4 : (v 4).toInt.toNat = vN v 4 := rfl
        rw [b1, Int.toNat_natCast, h31.2 j (by omega), e4, hw2 j (by omega), (hs.1 1 (by decide)).1]
        apply Int32.toInt.inj
        have h8 : (xb_i H (A 1) j).toInt = (xb_i H (ad 1) j).toInt := t1 j (by omega)
        have h7 := hI.2.1.2.2.2.2 j
        rw [nar_id (by omega), h8]
      · obtain ⟨q1, q2, q3⟩ := gk k (by omega)
        obtain ⟨nf, ns, no, k1, k2, k3, k4, k5⟩ := hA.I.2.2.2.1.2.2.2.2.2.2 k (by omega)
        obtain ⟨c1, c2, c3, -⟩ := r4 k (by omega)
        rw [b0 _ (by omega), b0 _ (by omega), b0 _ (by omega)]
        show (G (A 40) k).toInt = _ ∧ (G (A 41) k).toInt = _ ∧ ∀ j : Nat, (j : Int) < _ → G (A 3) ((G (A 39) k).toInt.toNat + j) = _
        rw [g40, g41, g39, g3, xh_up, if_neg h9, xh_up, if_neg h9, xh_up, if_neg h9]
        refine ⟨q1, q2, fun j hj => ?_⟩
        have k1' : (xb_i H (A 39) k).toInt = nf := k1
        have k2' : (xb_i H (A 40) k).toInt = ns := k2
        have q1' : (xb_i H (A 40) k).toInt = (xb_l H (ad 30) (3 * k + 1)).toInt := q1
        rw [h31.1 _ (by omega), ← q3 j hj, hw1 _ (by omega), (hs.1 3 (by decide)).1]
    · obtain ⟨f1, f2⟩ := hQ.2.2.2.2.2.1
      unfold gFt
      rw [s.a0, i0 9 (by decide), i0 10 (by decide)]
      have e89 := al 89 (by decide) (by decide)
      exact ⟨(congrFun e89 0).trans f1, (congrFun e89 1).trans f2⟩
  · exact jO.twU (w := fun H1 b1 s1 Q2 => w_M_name1 mm a1 H1 b1 s1 Q2) hO hX (fun or' rc' rs' Q2 hA1 hg1 hQ2 => r_name hA1 hg1 (fun i' G w hi' hi2 => (byd_1 h9 hi' (by omega)).elim) (fun _ hA' => hQ2 _ hA' vu_gVL u0))
end GZ

-- equality, checking: exports, start, rows (the reference)
/-- two names are the same -/
def samN (cb : Nat → Int32) (p1 p2 : Nat) : Prop := cV cb p1 = cV cb p2 ∧ ∀ i, i < cV cb p1 → cb (cE cb p1 + i) = cb (cE cb p2 + i)
noncomputable def ckEx (D : zM) (k : Nat) : Option (Nat × Nat) :=
  if iM D (ub (qc D) (xko D k)).toInt.toNat + qt D (3 + (ub (qc D) (xko D k)).toInt.toNat) ≤ xnu D k then some (20, qp D 7 k) else @ite _ (∃ j, j < k ∧ samN (qc D) (qp D 7 j) (qp D 7 k)) (Classical.propDecidable _) (some (24, qp D 7 k)) none
def ckSt (D : zM) : Option (Nat × Nat) :=
  if qt D 8 = 0 then none else if iM D 0 + qt D 3 ≤ cV (qc D) (qp D 8 0) then some (20, qp D 8 0) else if tPn D (fty D (cV (qc D) (qp D 8 0))) = 0 ∧ tRt D (fty D (cV (qc D) (qp D 8 0))) = 64 then none else some (21, qp D 8 0)
def lsF (D : zM) : Nat → Nat → Option (Nat × Nat)
  | 0, _ => none
  | n + 1, q => if iM D 0 + qt D 3 ≤ cV (qc D) q then some (20, q) else lsF D n (cE (qc D) q)
noncomputable def ckEl (D : zM) (k : Nat) : Option (Nat × Nat) :=
  if iM D 1 + qt D 4 ≤ cV (qc D) (qp D 9 k) then some (20, qp D 9 k) else (ckCo D (cE (qc D) (qp D 9 k)) 127).or (lsF D (cV (qc D) (qW (qc D) (cE (qc D) (qp D 9 k)) + 1)) (cE (qc D) (qW (qc D) (cE (qc D) (qp D 9 k)) + 1)))
noncomputable def ckDa (D : zM) (k : Nat) : Option (Nat × Nat) :=
  if iM D 2 + qt D 5 ≤ cV (qc D) (qp D 11 k) then some (20, qp D 11 k) else ckCo D (cE (qc D) (qp D 11 k)) 127
section RKB
variable {own : Nat → Nat} {mm m b e p q st N t u f g k : Nat} {A : Nat → Nat} {h h' h2 : xb_H} {F : Nat → Nat → Int32} {v v' v2 cb : Nat → Int32} {D : zM} {op n : Nat} {ty : Int} {fn : Nat → Option (Nat × Nat)} {C : Option (Nat × Nat)} {Fl : Nat × Nat}
theorem ckEx_20 (h1 : iM D (ub (qc D) (xko D k)).toInt.toNat + qt D (3 + (ub (qc D) (xko D k)).toInt.toNat) ≤ xnu D k) : ckEx D k = some (20, qp D 7 k) := if_pos h1
theorem ckEx_24 {j : Nat} (h1 : ¬ iM D (ub (qc D) (xko D k)).toInt.toNat + qt D (3 + (ub (qc D) (xko D k)).toInt.toNat) ≤ xnu D k) (hj : j < k) (h2 : samN (qc D) (qp D 7 j) (qp D 7 k)) : ckEx D k = some (24, qp D 7 k) := by
  unfold ckEx
  rw [if_neg h1]
  exact if_pos ⟨j, hj, h2⟩
theorem ckEx_n (h1 : ¬ iM D (ub (qc D) (xko D k)).toInt.toNat + qt D (3 + (ub (qc D) (xko D k)).toInt.toNat) ≤ xnu D k) (h2 : ∀ j, j < k → ¬ samN (qc D) (qp D 7 j) (qp D 7 k)) : ckEx D k = none := by
  unfold ckEx
  rw [if_neg h1]
  exact if_neg (fun ⟨j, h3, h4⟩ => h2 j h3 h4)
theorem ckSt_0 (h1 : qt D 8 = 0) : ckSt D = none := if_pos h1
theorem ckSt_20 (h0 : 0 < qt D 8) (h1 : iM D 0 + qt D 3 ≤ cV (qc D) (qp D 8 0)) : ckSt D = some (20, qp D 8 0) := by
  unfold ckSt
  rw [if_neg (by omega), if_pos h1]
theorem ckSt_n (h0 : 0 < qt D 8) (h1 : ¬ iM D 0 + qt D 3 ≤ cV (qc D) (qp D 8 0)) (h2 : tPn D (fty D (cV (qc D) (qp D 8 0))) = 0 ∧ tRt D (fty D (cV (qc D) (qp D 8 0))) = 64) : ckSt D = none := by
  unfold ckSt
  rw [if_neg (by omega), if_neg h1, if_pos h2]
theorem ckSt_21 (h0 : 0 < qt D 8) (h1 : ¬ iM D 0 + qt D 3 ≤ cV (qc D) (qp D 8 0)) (h2 : ¬ (tPn D (fty D (cV (qc D) (qp D 8 0))) = 0 ∧ tRt D (fty D (cV (qc D) (qp D 8 0))) = 64)) : ckSt D = some (21, qp D 8 0) := by
  unfold ckSt
  rw [if_neg (by omega), if_neg h1, if_neg h2]
theorem lsF_1 (h1 : ¬ iM D 0 + qt D 3 ≤ cV (qc D) q) : lsF D (n + 1) q = lsF D n (cE (qc D) q) := by
  conv => lhs; unfold lsF
  rw [if_neg h1]
theorem lsF_20 (h1 : iM D 0 + qt D 3 ≤ cV (qc D) q) : lsF D (n + 1) q = some (20, q) := by
  conv => lhs; unfold lsF
  rw [if_pos h1]
theorem ckEl_20 (h1 : iM D 1 + qt D 4 ≤ cV (qc D) (qp D 9 k)) : ckEl D k = some (20, qp D 9 k) := if_pos h1
theorem ckEl_n (h1 : ¬ iM D 1 + qt D 4 ≤ cV (qc D) (qp D 9 k)) : ckEl D k = (ckCo D (cE (qc D) (qp D 9 k)) 127).or (lsF D (cV (qc D) (qW (qc D) (cE (qc D) (qp D 9 k)) + 1)) (cE (qc D) (qW (qc D) (cE (qc D) (qp D 9 k)) + 1))) := if_neg h1
theorem ckDa_20 (h1 : iM D 2 + qt D 5 ≤ cV (qc D) (qp D 11 k)) : ckDa D k = some (20, qp D 11 k) := if_pos h1
theorem ckDa_n (h1 : ¬ iM D 2 + qt D 5 ≤ cV (qc D) (qp D 11 k)) : ckDa D k = ckCo D (cE (qc D) (qp D 11 k)) 127 := if_neg h1
theorem ckE.qw {E : Nat} (h1 : ckE D p E) : E = qW (qc D) p + 1 := by
  obtain ⟨q, e1, e2, h2⟩ := h1
  have hq : qW (qc D) p = q := by
    rcases h2 with ⟨h3, x, h4, h5⟩ | ⟨op, h3, h4, h5, h6⟩
    · refine qW_E ?_
      rw [ub_op, h3]
      exact rW_4i.mpr ⟨x, h4⟩
    · refine qW_E ?_
      rw [ub_op, h3]
      exact h6
  omega
theorem xf.m2 (h1 : xf D v (C.or (sqF fn k))) (hn : v 17 ≠ 0) (hk : k ≤ n) : xf D v (C.or (sqF fn n)) := by
  cases C with
  | none => exact xf.mo (fn := fn) h1 hn hk
  | some Fl => exact h1
theorem xf.s2 (h1 : xf D v (C.or (sqF fn k))) (hz : v 17 = 0) (h2 : xf D v' (fn k)) : xf D v' (C.or (sqF fn (k + 1))) := by
  have := h1.z hz
  cases C with
  | none => exact xf.sc (fn := fn) h1 hz h2
  | some Fl => cases this
theorem x_typeOf {x1 x2 : Int32} {Qr : Int32 → xb_H → Prop} (hX : mX own mm A h F m D) (hz : v 17 = 0) (h1 : x1.toInt = m) (h2 : x2.toInt = f) (hf : f < iM D 0 + qt D 3) (ht : fty D f < 2147483648) (hQ : ∀ (v' : Nat → Int32) (r : Int32), vg v v' → (v' 14).toInt = qb D → v' 17 = 0 → r.toInt = fty D f → Qr r (mH h F mm v')) : w_M_typeOf mm x1 x2 (mH h F mm v) Qr := by
  have hs := hX.rd
  obtain ⟨hB, ⟨a1, a2, a3, a4, a5, a6⟩, hR⟩ := id hX
  obtain ⟨q, x, c1, c2, c3, c4⟩ := hR.fn hf
  have bi := hR.ib (κ := 0)
  have bt := (hR.2.2.2.1 3 (by decide)).1
  obtain ⟨g1, g2, -, g4⟩ := hB.g (k := 10) (kd := 102) (n := 256) (by decide)
  have e4 : (4 * x1).toInt = (4 * m : Nat) := by
    rw [Int32.toInt_mul, z_bm, h1]
    simp only [Int32.reduceToInt]
    omega
  have hb := rC_b c1
  have L44 : ∀ v1 : Nat → Int32, vk v v1 D (fpo D f) → w_M_typeOf_L44 Qr mm (mH h F mm v1) := fun v1 k1 => by
    unfold w_M_typeOf_L44
    refine ⟨hB.2.1, m_count_k hs k1.2.2.1 k1.2.2.2 c1 c4 (fun v2 o2 z2 _ => hQ v2 _ (k1.go o2 z2).1 (k1.go o2 z2).2.1 z2 ?_)⟩
    rw [z_of64]
    omega
  unfold w_M_typeOf
  refine ⟨hB.2.1, A 10, g1, g2, ?_, fun v5 e5 => ?_⟩
  · rw [z_in, e4]
    show _ ∧ _ < ((xb_n h (A 10) : Nat) : Int)
    omega
  rw [mH_o (hB.nm (by decide)), z_cl, e4, Int.toNat_natCast] at e5
  have e5' : v5.toInt = iM D 0 := by rw [e5]; exact a6 0 (by decide)
  refine ⟨fun hle => ?_, fun hle => ?_⟩
  · rw [z_le, e5', h2] at hle
    have hfp : fpo D f = qp D 3 (f - iM D 0) := by unfold fpo; rw [if_neg (by omega)]
    have e9 : (x2 - v5).toInt = (f - iM D 0 : Nat) := by
      rw [z_sub, h2, e5']
      omega
    refine m_placeOf (s := 3) hX h1 rfl (by decide) e9 (by omega) (fun r hr _ => m_go_k hX hz h1 (p := fpo D f) (by rw [hr, hfp]) c3 (by omega) (fun v1 k1 _ => L44 v1 k1))
  · rw [z_le, e5', h2] at hle
    have hl : f < iM D 0 := by omega
    have hfp : fpo D f = kpo D (ikx D 0 (qt D 2) f) + 1 := by unfold fpo; rw [if_pos hl]
    refine m_importOf (κ := 0) hX hz h1 rfl h2 hl (fun v1 r g1 z1 hr hlt _ => m_importAt hX z1 h1 hr hlt (fun v2 k2 _ => L44 v2 ?_))
    rw [hfp]
    exact ⟨g1.tr k2.1, k2.2⟩
theorem x_resultOf {x1 x2 : Int32} {Qr : Int32 → xb_H → Prop} (hX : mX own mm A h F m D) (hz : v 17 = 0) (h1 : x1.toInt = m) (h2 : x2.toInt = t) (ht : t < qt D 1) (hQ : ∀ (v' : Nat → Int32) (r : Int32), vg v v' → (v' 14).toInt = qb D → v' 17 = 0 → r.toInt = tRt D t → Qr r (mH h F mm v')) : w_M_resultOf mm x1 x2 (mH h F mm v) Qr := by
  have hs := hX.rd
  obtain ⟨s1, s2, s3, s4, s5, s6, s7, s8⟩ := hX.rd
  obtain ⟨n, p2, k', c1, c2, c3, c4, c5, c6, c7, c8, c9, c10, c11⟩ := hX.2.2.ty ht
  have hE := hX.2.2.2.2.1
  have hb4 := rC_b c4
  unfold w_M_resultOf w_M_resultOf_L44
  refine ⟨s1, m_parameters hX hz h1 h2 ht (fun v1 r k1 hr _ h4 e4 => ?_)⟩
  rw [mH_i, mH_I] at e4
  subst e4
  have e15 : (v1 15 + r).toInt = (tPa D t + tPn D t : Nat) := z_ad2 k1.2.2.1.1 hr (by omega) (by omega)
  obtain ⟨w, hw⟩ : ∃ w : Nat → Int32, w = va_up v1 15 (v1 15 + r) := ⟨_, rfl⟩
  rw [← hw]
  have wj : ∀ j, j ≠ 15 → w j = v1 j := fun j hj => by rw [hw, xh_up, if_neg hj]
  have Kw : vk v w D (tPa D t + tPn D t) := ⟨fun j j1 j2 j3 j4 j5 => by rw [wj j j2]; exact k1.1 j j1 j2 j3 j4 j5, by rw [wj 14 (by decide)]; exact k1.2.1, ⟨by rw [hw, xh_up, if_pos rfl]; exact e15, by rw [wj 16 (by decide)]; exact k1.2.2.1.2.1, by omega, by omega⟩, by rw [wj 17 (by decide)]; exact k1.2.2.2⟩
  refine m_count_k hs Kw.2.2.1 Kw.2.2.2 c4 (by omega) (fun v2 o2 z2 _ => ?_)
  have K2 := Kw.go o2 z2
  rw [mH_i]
  refine ⟨fun hn => ⟨A 3, s2, s3, ?_, ?_⟩, fun h0 => hQ v2 64 K2.1 K2.2.1 z2 ?_⟩
  · have : tRn D t ≠ 0 := fun e9 => hn (by rw [Z_eq, c5, e9]; rfl)
    rw [z_in, K2.2.2.1.1]
    show _ ∧ _ < ((xb_n h (A 3) : Nat) : Int)
    omega
  · have hne : tRn D t ≠ 0 := fun e9 => hn (by rw [Z_eq, c5, e9]; rfl)
    rw [mH_o s6, z_cl, K2.2.2.1.1, Int.toNat_natCast, s8 _ (by omega) (by omega)]
    refine hQ v2 _ K2.1 K2.2.1 z2 ?_
    unfold tRt
    rw [if_neg hne, c6]
    rfl
  · have : tRn D t = 0 := by
      rw [Z_eq, c5] at h0
      simp only [Int64.reduceToInt] at h0
      omega
    unfold tRt
    rw [if_pos this]
    rfl
theorem x_sameName {x1 x2 x3 : Int32} {p1 p2 q1 q2 : Nat} {Qr : Int32 → xb_H → Prop} (hX : mX own mm A h F m D) (hz : v 17 = 0) (h1 : x1.toInt = m) (h2 : x2.toInt = p1) (h3 : x3.toInt = p2) (n1 : rN (qc D) p1 q1) (n2 : rN (qc D) p2 q2) (b1 : qb D ≤ p1) (b2 : qb D ≤ p2) (l1 : q1 ≤ qe D) (l2 : q2 ≤ qe D) (hQ : ∀ (v' : Nat → Int32) (r : Int32), vg v v' → (v' 14).toInt = qb D → v' 17 = 0 → ((r = 0 ∧ ¬ samN (qc D) p1 p2) ∨ (r = 1 ∧ samN (qc D) p1 p2)) → Qr r (mH h F mm v')) : w_M_sameName mm x1 x2 x3 (mH h F mm v) Qr := by
  have hs := hX.rd
  obtain ⟨s1, s2, s3, s4, s5, s6, s7, s8⟩ := hX.rd
  have hE := hX.2.2.2.2.1
  obtain ⟨a1, c1, d1, -, -⟩ := id n1
  obtain ⟨a2, c2, d2, -, -⟩ := id n2
  obtain ⟨e1, f1, f1'⟩ := rN_b n1 d1
  obtain ⟨e2, f2, f2'⟩ := rN_b n2 d2
  have hb1 := rC_b d1
  have hb2 := rC_b d2
  unfold w_M_sameName
  refine ⟨s1, m_go_k hX hz h1 h2 b1 (by omega) (fun v1 k1 _ => m_count_k hs k1.2.2.1 k1.2.2.2 d1 (by omega) (fun v3 o3 z3 _ v6 e6 v7 e7 => ?_))⟩
  rw [mH_i] at e7
  have K3 := k1.go o3 z3
  have e7' : v7.toInt = a1 := by rw [e7]; exact K3.2.2.1.1
  have e6' : v6.toInt = c1.toInt := by rw [e6, z_of64]; omega
  refine m_go_k hX z3 h1 h3 b2 (by omega) (fun v4 k4 _ => m_count_k hs k4.2.2.1 k4.2.2.2 d2 (by omega) (fun v5 o5 z5 _ => ?_))
  have K5 := k4.go o5 z5
  have G5 : vg v v5 := K3.1.tr K5.1
  obtain ⟨E1, E2⟩ := rC_E d1
  obtain ⟨E3, E4⟩ := rC_E d2
  have sN : ∀ {x6 : Int32} {k : Nat}, ((x6 = 0 ∧ ¬ samN (qc D) p1 p2) ∨ (x6 = 1 ∧ (Int64.toInt32 c2) = v6 ∧ ∀ j, j < k → qc D (a1 + j) = qc D (a2 + j))) → (k : Int) = c1.toInt ∨ x6 = 0 → ((x6 = 0 ∧ ¬ samN (qc D) p1 p2) ∨ (x6 = 1 ∧ samN (qc D) p1 p2)) := fun {x6 k} hx hk => by
    rcases hx with hx | ⟨hx, hc, hall⟩
    · exact .inl hx
    · refine .inr ⟨hx, ?_⟩
      have hk' : (k : Int) = c1.toInt := hk.elim id (fun h9 => by rw [h9] at hx; exact absurd hx (by decide))
      have : (Int64.toInt32 c2).toInt = v6.toInt := by rw [hc]
      rw [z_of64, e6'] at this
      unfold samN
      rw [E1, E2, E3, E4]
      exact ⟨by omega, fun i hi => hall i (by omega)⟩
  have key : ∀ (n k : Nat) (x6 x7 : Int32), ((x6 = 0 ∧ ¬ samN (qc D) p1 p2) ∨ (x6 = 1 ∧ (Int64.toInt32 c2) = v6 ∧ ∀ j, j < k → qc D (a1 + j) = qc D (a2 + j))) → x7.toInt = k → (k : Int) + n = c1.toInt → w_M_sameName_L45 Qr (n + 1) mm v6 v7 x6 x7 (mH h F mm v5) := by
    intro n
    induction n with
    | zero =>
      intro k x6 x7 hx e8 hn
      unfold w_M_sameName_L45 w_M_sameName_L95
      refine ⟨fun _ => ⟨hx.imp (fun h => h.1) (fun h => h.1), hQ v5 x6 G5 K5.2.1 z5 (sN hx (.inl (by omega)))⟩, fun hle => ?_⟩
      rw [z_le, e6', e8] at hle
      omega
    | succ n ih =>
      intro k x6 x7 hx e8 hn
      unfold w_M_sameName_L45 w_M_sameName_L95 w_M_sameName_L87
      refine ⟨fun hle => ⟨hx.imp (fun h => h.1) (fun h => h.1), hQ v5 x6 G5 K5.2.1 z5 (sN hx (.inl ?_))⟩, fun hle => ⟨fun h0 => ⟨.inl h0, hQ v5 x6 G5 K5.2.1 z5 (sN hx (.inr h0))⟩, fun h0 => ?_⟩⟩
      · rw [z_le, e6', e8] at hle
        omega
      rcases hx with ⟨hx, -⟩ | ⟨hx, hc, hall⟩
      · exact absurd hx h0
      have ec : c2.toInt = c1.toInt := by
        have : (Int64.toInt32 c2).toInt = v6.toInt := by rw [hc]
        rw [z_of64, e6'] at this
        omega
      have e81 : (x7 + 1).toInt = (k + 1 : Nat) := z_inc e8 (by omega)
      rw [mH_i]
      have g1 : xb_i (mH h F mm v5) (A 3) (v7 + x7).toNatClampNeg = qc D (a1 + k) := by
        rw [mH_o s6, z_cl, z_ad2 e7' e8 (by omega) (by omega), Int.toNat_natCast, s8 _ (by omega) (by omega)]
      have g2 : xb_i (mH h F mm v5) (A 3) (v5 15 + x7).toNatClampNeg = qc D (a2 + k) := by
        rw [mH_o s6, z_cl, z_ad2 K5.2.2.1.1 e8 (by omega) (by omega), Int.toNat_natCast, s8 _ (by omega) (by omega)]
      refine ⟨s1, A 3, s2, s3, ?_, A 3, s2, s3, ?_, ?_, ?_⟩
      rotate_right 2
      · rw [g1, g2]
        refine fun hne => ih (k + 1) 0 (x7 + 1) (.inl ⟨rfl, fun h9 => hne ?_⟩) e81 (by omega)
        have := h9.2 k (by rw [E2]; omega)
        rw [E1, E3] at this
        exact this
      · rw [g1, g2]
        refine fun heq => ih (k + 1) 1 (x7 + 1) (.inr ⟨rfl, hc, fun j hj => ?_⟩) e81 (by omega)
        rcases Nat.lt_or_ge j k with h9 | h9
        · exact hall j h9
        · rw [show j = k by omega]
          exact heq
      · rw [z_in, z_ad2 e7' e8 (by omega) (by omega)]
        show _ ∧ _ < ((xb_n h (A 3) : Nat) : Int)
        omega
      · rw [z_in, z_ad2 K5.2.2.1.1 e8 (by omega) (by omega)]
        show _ ∧ _ < ((xb_n h (A 3) : Nat) : Int)
        omega
  unfold w_M_sameName_L40
  refine ⟨fun hne => ⟨c1.toInt.toNat + 1, key c1.toInt.toNat 0 0 0 (.inl ⟨rfl, fun h9 => hne ?_⟩) rfl (by omega)⟩, fun hc => ⟨c1.toInt.toNat + 1, key c1.toInt.toNat 0 1 0 (.inr ⟨rfl, hc, fun j hj => by omega⟩) rfl (by omega)⟩⟩
  have := h9.1
  rw [E2, E4] at this
  rw [z_eq, e6', z_of64]
  omega
theorem x_checkExports {x1 : Int32} {Qr : xb_H → Prop} (hX : mX own mm A h F m D) (h1 : x1.toInt = m) (hz : v 17 = 0) (h14 : (v 14).toInt = qb D) (hQ : ∀ v2, vg v v2 → (v2 14).toInt = qb D → xf D v2 (sqF (ckEx D) (qt D 7)) → (v2 17 = 0 → ∀ k, k < qt D 7 → cvX D k) → Qr (mH h F mm v2)) : w_M_checkExports mm x1 (mH h F mm v) Qr := by
  have bt := (hX.2.2.2.2.2.1 7 (by decide)).1
  have hs := hX.rd
  have hE := hX.2.2.2.2.1
  have k9 := hX.1.2.1
  have bD : qb D ≤ 12000 := by have := hX.2.2.2.1; omega
  have key : ∀ (n k : Nat) (x2 : Int32) (v2 : Nat → Int32), vg v v2 → (v2 14).toInt = qb D → xf D v2 (sqF (ckEx D) k) → x2.toInt = k → k ≤ qt D 7 → qt D 7 - k ≤ n → (v2 17 = 0 → ∀ j, j < k → cvX D j) → w_M_checkExports_L2 Qr (n + 1) mm x1 x2 (mH h F mm v2) := by
    intro n
    induction n with
    | zero =>
      intro k x2 v2 g1 g14 hxf e2 hk hn hc
      have ek : k = qt D 7 := by omega
      unfold w_M_checkExports_L2 w_M_checkExports_L120
      refine ⟨k9, m_manyOf (s := 7) hX h1 rfl (by decide) (fun r hr _ => ⟨fun _ => hQ v2 g1 g14 (by rw [← ek]; exact hxf) (by rw [← ek]; exact hc), fun hle => ?_⟩)⟩
      rw [z_le, hr, e2] at hle
      omega
    | succ n ih =>
      intro k x2 v2 g1 g14 hxf e2 hk hn hc
      unfold w_M_checkExports_L2 w_M_checkExports_L120
      refine ⟨k9, m_manyOf (s := 7) hX h1 rfl (by decide) (fun r hr _ => ⟨fun hle => ?_, fun hle => ?_⟩)⟩
      · rw [z_le, hr, e2] at hle
        have ek : k = qt D 7 := by omega
        exact hQ v2 g1 g14 (by rw [← ek]; exact hxf) (by rw [← ek]; exact hc)
      · rw [z_le, hr, e2] at hle
        rw [mH_i]
        refine ⟨fun hn0 => hQ v2 g1 g14 (hxf.mo hn0 hk) (fun hz2 => absurd hz2 hn0), fun hz2 => ?_⟩
        have hk7 : k < qt D 7 := by omega
        obtain ⟨q, x, c1, c2, c3, c4, c5, c6, c7⟩ := hX.2.2.x7 hk7
        have hb := rC_b c3
        have hu := ub_r (cb := qc D) (p := xko D k)
        have e21 : (x2 + 1).toInt = (k + 1 : Nat) := z_inc e2 (by omega)
        refine m_placeOf (s := 7) hX h1 rfl (by decide) e2 hk7 (fun r7 hr7 _ => m_go_k hX hz2 h1 hr7 c5 (by omega) (fun v3 k3 _ => m_name_k hs k3.2.2.1 k3.2.2.2 c1 (by omega) (fun v4 o4 z4 _ => m_next_k hs (o4.P k3.2.2.1) z4 (by omega) (fun v5 o5 z5 _ => m_count_k hs (o5.P (o4.P k3.2.2.1)) z5 c3 (by omega) (fun v6 o6 z6 _ => ?_)))))
        have G6 : vg v v6 := g1.tr (k3.1.tr (o4.tr (o5.tr o6)).vg)
        have g146 : (v6 14).toInt = qb D := by rw [(o4.tr (o5.tr o6)).e14]; exact k3.2.1
        -- the other names
        have L70 : ∀ (n2 j : Nat) (x5 : Int32) (v7 : Nat → Int32), vg v v7 → (v7 14).toInt = qb D → (v7 17 ≠ 0 → xf D v7 (ckEx D k)) → (v7 17 = 0 → ¬ iM D (ub (qc D) (xko D k)).toInt.toNat + qt D (3 + (ub (qc D) (xko D k)).toInt.toNat) ≤ xnu D k ∧ ∀ i, i < j → ¬ samN (qc D) (qp D 7 i) (qp D 7 k)) → x5.toInt = j → j ≤ k → k - j ≤ n2 → (v7 17 = 0 → cvX D k) → w_M_checkExports_L70 (w_M_checkExports_L2 Qr (n + 1)) Qr (n2 + 1) mm x1 x2 r7 x5 (mH h F mm v7) := by
          have out : ∀ v7 : Nat → Int32, vg v v7 → (v7 14).toInt = qb D → xf D v7 (ckEx D k) → (v7 17 = 0 → cvX D k) → w_M_checkExports_L114 (w_M_checkExports_L2 Qr (n + 1)) Qr mm x1 x2 (mH h F mm v7) := fun v7 g7 g147 xf7 hc7 => by
            unfold w_M_checkExports_L114
            refine ih (k + 1) (x2 + 1) v7 g7 g147 (hxf.sc hz2 xf7) e21 (by omega) (by omega) (fun hz7 j hj => ?_)
            rcases Nat.lt_or_ge j k with h9 | h9
            · exact hc hz2 j h9
            · rw [show j = k by omega]
              exact hc7 hz7
          have fx : ∀ (v7 : Nat → Int32) (j : Nat), (v7 17 ≠ 0 → xf D v7 (ckEx D k)) → (v7 17 = 0 → ¬ iM D (ub (qc D) (xko D k)).toInt.toNat + qt D (3 + (ub (qc D) (xko D k)).toInt.toNat) ≤ xnu D k ∧ ∀ i, i < j → ¬ samN (qc D) (qp D 7 i) (qp D 7 k)) → j = k ∨ v7 17 ≠ 0 → xf D v7 (ckEx D k) := fun v7 j a1 a2 a3 => by
            by_cases hz7 : v7 17 = 0
            · obtain ⟨b1, b2⟩ := a2 hz7
              have hj : j = k := a3.elim id (fun h9 => absurd hz7 h9)
              rw [ckEx_n b1 (fun i hi => b2 i (by omega))]
              exact hz7
            · exact a1 hz7
          intro n2
          induction n2 with
          | zero =>
            intro j x5 v7 g7 g147 xa xb e5 hj hn2 hc7
            unfold w_M_checkExports_L70
            refine ⟨fun _ => out v7 g7 g147 (fx v7 j xa xb (.inl (by omega))) hc7, fun hle => ?_⟩
            rw [z_le, e2, e5] at hle
            omega
          | succ n2 ih2 =>
            intro j x5 v7 g7 g147 xa xb e5 hj hn2 hc7
            unfold w_M_checkExports_L70 w_M_checkExports_L108
            rw [mH_i]
            refine ⟨fun hle => out v7 g7 g147 (fx v7 j xa xb (.inl ?_)) hc7, fun hle => ⟨k9, fun hn7 => out v7 g7 g147 (fx v7 j xa xb (.inr hn7)) hc7, fun hz7 => ?_⟩⟩
            · rw [z_le, e2, e5] at hle
              omega
            rw [z_le, e2, e5] at hle
            obtain ⟨xb1, xb2⟩ := xb hz7
            obtain ⟨q', x', d1, d2, d3, d4, d5, d6, d7⟩ := hX.2.2.x7 (show j < qt D 7 by omega)
            have hb' := rC_b d3
            have e51 : (x5 + 1).toInt = (j + 1 : Nat) := z_inc e5 (by omega)
            refine m_placeOf (s := 7) hX h1 rfl (by decide) e5 (by omega) (fun r5 hr5 _ => x_sameName hX hz7 h1 hr5 hr7 d1 c1 d5 c5 (by omega) (by omega) (fun v8 r8 g8 g148 z8 hr8 _ => ⟨fun h0 => ih2 (j + 1) (x5 + 1) v8 (g7.tr g8) g148 (fun hn => absurd z8 hn) (fun _ => ⟨xb1, fun i hi => ?_⟩) e51 (by omega) (by omega) (fun _ => hc7 hz7), fun h0 => k_fail (cc := 24) (w := qp D 7 k) k9 g148 bD rfl (by decide) hr7 (by omega) z8 (fun v9 f1 f2 f3 _ => ih2 (j + 1) (x5 + 1) v9 ((g7.tr g8).fl f1) (by rw [f1 14 (by decide) (by decide)]; exact g148) (fun _ => ?_) (fun h9 => absurd h9 f2) e51 (by omega) (by omega) (fun h9 => absurd h9 f2))⟩))
            · rcases Nat.lt_or_ge i j with h9 | h9
              · exact xb2 i h9
              · rw [show i = j by omega]
                rcases hr8 with ⟨-, h8⟩ | ⟨h8, -⟩
                · exact h8
                · rw [h8] at h0; exact absurd h0 (by decide)
            · have hsm : samN (qc D) (qp D 7 j) (qp D 7 k) := by
                rcases hr8 with ⟨h8, -⟩ | ⟨-, h8⟩
                · exact absurd h8 h0
                · exact h8
              rw [ckEx_24 xb1 (show j < k by omega) hsm]
              exact f3
        refine m_total (κ := (ub (qc D) (xko D k)).toInt.toNat) hX h1 (by omega) (by omega) (fun r17 hr17 _ => ⟨fun hlt => ?_, fun hlt => k_fail (cc := 20) (w := qp D 7 k) k9 g146 bD rfl (by decide) hr7 (by omega) z6 (fun v7 f1 f2 f3 _ => ?_)⟩)
        · unfold w_M_checkExports_L67
          refine ⟨k + 1, L70 k 0 0 v6 G6 g146 (fun hn => absurd z6 hn) (fun _ => ⟨by rw [Z_lt, hr17] at hlt; omega, fun i hi => by omega⟩) rfl (by omega) (by omega) (fun _ => ⟨(ub (qc D) (xko D k)).toInt.toNat, by omega, by omega, ?_⟩)⟩
          rw [Z_lt, hr17] at hlt
          omega
        · unfold w_M_checkExports_L67
          exact ⟨k + 1, L70 k 0 0 v7 (G6.fl f1) (by rw [f1 14 (by decide) (by decide)]; exact g146) (fun _ => by rw [ckEx_20 (by rw [Z_lt, hr17] at hlt; omega)]; exact f3) (fun h9 => absurd h9 f2) rfl (by omega) (by omega) (fun h9 => absurd h9 f2)⟩
  unfold w_M_checkExports
  exact ⟨qt D 7 + 1, key (qt D 7) 0 0 v vg.rf h14 hz rfl (by omega) (by omega) (fun _ j hj => by omega)⟩
theorem x_checkStart {x1 : Int32} {Qr : xb_H → Prop} (hX : mX own mm A h F m D) (h1 : x1.toInt = m) (hz : v 17 = 0) (h14 : (v 14).toInt = qb D) (hcf : ∀ f, f < iM D 0 + qt D 3 → fty D f < qt D 1) (hQ : ∀ v2, vg v v2 → (v2 14).toInt = qb D → xf D v2 (ckSt D) → (v2 17 = 0 → cvS D) → Qr (mH h F mm v2)) : w_M_checkStart mm x1 (mH h F mm v) Qr := by
  have hs := hX.rd
  have k9 := hX.1.2.1
  have hE := hX.2.2.2.2.1
  have bD : qb D ≤ 12000 := by have := hX.2.2.2.1; omega
  have bt1 := (hX.2.2.2.2.2.1 1 (by decide)).1
  have bt3 := (hX.2.2.2.2.2.1 3 (by decide)).1
  have bi := hX.2.2.ib (κ := 0)
  unfold w_M_checkStart
  refine ⟨k9, m_manyOf (s := 8) hX h1 rfl (by decide) (fun r3 hr3 _ => ⟨fun hn => ?_, fun h0 => hQ v vg.rf h14 (by rw [ckSt_0 (by rw [z_eq, hr3] at h0; simp only [Int32.reduceToInt] at h0; omega)]; exact hz) (fun _ h9 => ?_)⟩)⟩
  · have h8 : 0 < qt D 8 := by
      rw [z_eq, hr3] at hn
      simp only [Int32.reduceToInt] at hn
      omega
    obtain ⟨c1, q, ⟨x, c2⟩, c3⟩ := (hX.2.2.2.2.2.1 8 (by decide)).2 0 h8
    have hb := rC_b c2
    have ev := (rC_E c2).2
    refine m_placeOf (s := 8) (k := 0) hX h1 rfl (by decide) rfl h8 (fun r6 hr6 _ => m_go_k hX hz h1 hr6 c1 (by omega) (fun v1 k1 _ => m_count_k hs k1.2.2.1 k1.2.2.2 c2 c3 (fun v2 o2 z2 _ => m_total (κ := 0) hX h1 rfl (by decide) (fun r12 hr12 _ => ⟨fun hlt => ?_, fun hlt => ?_⟩))))
    · have G2 := k1.1.tr o2.vg
      rw [Z_lt, hr12, show (3 + 0 : Nat) = 3 from rfl] at hlt
      have hlt' : x.toInt.toNat < iM D 0 + qt D 3 := by omega
      have ex : (Int64.toInt32 x).toInt = (x.toInt.toNat : Nat) := by
        rw [z_of64]
        omega
      have hft := hcf _ hlt'
      have bad : ∀ v3, vg v v3 → (v3 14).toInt = qb D → v3 17 = 0 → ¬ (tPn D (fty D (cV (qc D) (qp D 8 0))) = 0 ∧ tRt D (fty D (cV (qc D) (qp D 8 0))) = 64) → w_M_checkStart_L88 Qr mm r6 0 (mH h F mm v3) := fun v3 g3 g143 z3 hn => by
        unfold w_M_checkStart_L88 w_M_checkStart_L102
        exact ⟨fun h9 => absurd rfl h9, fun _ => ⟨k9, k_fail (cc := 21) (w := qp D 8 0) k9 g143 bD rfl (by decide) hr6 (by omega) z3 (fun v4 f1 f2 f3 _ => hQ v4 (g3.fl f1) (by rw [f1 14 (by decide) (by decide)]; exact g143) (by rw [ckSt_21 h8 (by omega) hn]; exact f3) (fun h9 => absurd h9 f2))⟩⟩
      refine x_typeOf hX z2 h1 ex hlt' (by omega) (fun v3 r15 g3 g143 z3 hr15 _ => m_parameters hX z3 h1 hr15 hft (fun v4 r17 k4 hr17 _ => ⟨fun h17 => ?_, fun h17 => x_resultOf hX k4.2.2.2 h1 hr15 hft (fun v5 r20 g5 g145 z5 hr20 _ => ⟨fun h20 => ?_, fun h20 => ?_⟩)⟩))
      · unfold w_M_checkStart_L87
        exact bad v4 (G2.tr (g3.tr k4.1)) k4.2.1 k4.2.2.2 (fun h9 => h17 (by rw [z_eq, hr17, ← ev, h9.1]; rfl))
      · unfold w_M_checkStart_L87
        exact bad v5 (G2.tr (g3.tr (k4.1.tr g5))) g145 z5 (fun h9 => h20 (by rw [z_eq, hr20, ← ev, h9.2]; rfl))
      · unfold w_M_checkStart_L88 w_M_checkStart_L102
        refine ⟨fun _ => hQ v5 (G2.tr (g3.tr (k4.1.tr g5))) g145 ?_ (fun _ _ => ?_), fun h9 => absurd h9 (by decide)⟩
        · rw [z_eq, hr17, ← ev] at h17
          rw [z_eq, hr20, ← ev] at h20
          simp only [Int32.reduceToInt] at h17 h20
          rw [ckSt_n h8 (by omega) ⟨by omega, h20⟩]
          exact z5
        rw [ev]
        refine ⟨hlt', ?_⟩
        rw [z_eq, hr17] at h17
        simp only [Int32.reduceToInt] at h17
        omega
    · unfold w_M_checkStart_L102
      rw [Z_lt, hr12, show (3 + 0 : Nat) = 3 from rfl] at hlt
      exact k_fail (cc := 20) (w := qp D 8 0) k9 (by rw [o2.e14]; exact k1.2.1) bD rfl (by decide) hr6 (by omega) z2 (fun v4 f1 f2 f3 _ => hQ v4 ((k1.1.tr o2.vg).fl f1) (by rw [f1 14 (by decide) (by decide), o2.e14]; exact k1.2.1) (by rw [ckSt_20 h8 (by omega)]; exact f3) (fun h9 => absurd h9 f2))
  · rw [z_eq, hr3] at h0
    simp only [Int32.reduceToInt] at h0
    omega
theorem x_checkRows {x1 : Int32} {Qr : xb_H → Prop} (hX : mX own mm A h F m D) (h1 : x1.toInt = m) (hz : v 17 = 0) (h14 : (v 14).toInt = qb D) (hQ : ∀ v2, vg v v2 → (v2 14).toInt = qb D → xf D v2 ((sqF (ckEl D) (qt D 9)).or (sqF (ckDa D) (qt D 11))) → (v2 17 = 0 → (∀ k, k < qt D 9 → cvR D k) ∧ ∀ k, k < qt D 11 → cvD D k) → Qr (mH h F mm v2)) : w_M_checkRows mm x1 (mH h F mm v) Qr := by
  have bt := (hX.2.2.2.2.2.1 9 (by decide)).1
  have bt2 := (hX.2.2.2.2.2.1 11 (by decide)).1
  have hs := hX.rd
  have hE := hX.2.2.2.2.1
  have k9 := hX.1.2.1
  have bD : qb D ≤ 12000 := by have := hX.2.2.2.1; omega
  -- the second loop
  have key2 : ∀ (n k : Nat) (x2 : Int32) (v2 : Nat → Int32), vg v v2 → (v2 14).toInt = qb D → xf D v2 ((sqF (ckEl D) (qt D 9)).or (sqF (ckDa D) k)) → x2.toInt = k → k ≤ qt D 11 → qt D 11 - k ≤ n → (v2 17 = 0 → (∀ k, k < qt D 9 → cvR D k) ∧ ∀ j, j < k → cvD D j) → w_M_checkRows_L146 Qr (n + 1) mm x1 x2 (mH h F mm v2) := by
    intro n
    induction n with
    | zero =>
      intro k x2 v2 g1 g14 hxf e2 hk hn hc
      have ek : k = qt D 11 := by omega
      unfold w_M_checkRows_L146 w_M_checkRows_L216
      refine ⟨k9, m_manyOf (s := 11) hX h1 rfl (by decide) (fun r hr _ => ⟨fun _ => hQ v2 g1 g14 (by rw [← ek]; exact hxf) (by rw [← ek]; exact hc), fun hle => ?_⟩)⟩
      rw [z_le, hr, e2] at hle
      omega
    | succ n ih =>
      intro k x2 v2 g1 g14 hxf e2 hk hn hc
      unfold w_M_checkRows_L146 w_M_checkRows_L216 w_M_checkRows_L210
      refine ⟨k9, m_manyOf (s := 11) hX h1 rfl (by decide) (fun r hr _ => ⟨fun hle => ?_, fun hle => ?_⟩)⟩
      · rw [z_le, hr, e2] at hle
        have ek : k = qt D 11 := by omega
        exact hQ v2 g1 g14 (by rw [← ek]; exact hxf) (by rw [← ek]; exact hc)
      · rw [z_le, hr, e2] at hle
        rw [mH_i]
        refine ⟨fun hn0 => hQ v2 g1 g14 (hxf.m2 hn0 hk) (fun hz2 => absurd hz2 hn0), fun hz2 => ?_⟩
        obtain ⟨c1, q, ⟨p1, x, p2, p3, y, c2, c3, c4, c5⟩, c6⟩ := (hX.2.2.2.2.2.1 11 (by decide)).2 k (by omega)
        have hb := rC_b c2
        have hb4 := rC_b c4
        have hl3 := c3.1
        have e21 : (x2 + 1).toInt = (k + 1 : Nat) := z_inc e2 (by omega)
        refine m_placeOf (s := 11) hX h1 rfl (by decide) e2 (by omega) (fun r7 hr7 _ => m_go_k hX hz2 h1 hr7 c1 (by omega) (fun v3 k3 _ => m_count_k hs k3.2.2.1 k3.2.2.2 c2 (by omega) (fun v4 o4 z4 _ => m_total (κ := 2) hX h1 rfl (by decide) (fun r13 hr13 _ => ⟨fun hlt => ?_, fun hlt => k_fail (cc := 20) (w := qp D 11 k) k9 (by rw [o4.e14]; exact k3.2.1) bD rfl (by decide) hr7 (by omega) z4 (fun v5 f1 f2 f3 _ => ih (k + 1) (x2 + 1) v5 ((g1.tr (k3.1.tr o4.vg)).fl f1) (by rw [f1 14 (by decide) (by decide), o4.e14]; exact k3.2.1) (hxf.s2 hz2 (by rw [Z_lt, hr13, show (3 + 2 : Nat) = 5 from rfl] at hlt; rw [ckDa_20 (by rw [(rC_E c2).2]; omega)]; exact f3)) e21 (by omega) (by omega) (fun h9 => absurd h9 f2))⟩))))
        have K4 := k3.go o4 z4
        rw [Z_lt, hr13, show (3 + 2 : Nat) = 5 from rfl] at hlt
        refine x_checkConstant (v := v) hX h1 ⟨g1.tr K4.1, K4.2⟩ c3 (by omega) (fun v5 g5 g145 hok xf5 _ => ih (k + 1) (x2 + 1) v5 g5 g145 (hxf.s2 hz2 (by rw [ckDa_n (by rw [(rC_E c2).2]; omega), (rC_E c2).1]; exact xf5)) e21 (by omega) (by omega) (fun hz5 => ⟨(hc hz2).1, fun j hj => ?_⟩))
        rcases Nat.lt_or_ge j k with h9 | h9
        · exact (hc hz2).2 j h9
        · rw [show j = k by omega]
          exact ⟨by omega, p2, by rw [(rC_E c2).1]; exact (hok hz5).2⟩
  have key : ∀ (n k : Nat) (x2 : Int32) (v2 : Nat → Int32), vg v v2 → (v2 14).toInt = qb D → xf D v2 (sqF (ckEl D) k) → x2.toInt = k → k ≤ qt D 9 → qt D 9 - k ≤ n → (v2 17 = 0 → ∀ j, j < k → cvR D j) → w_M_checkRows_L2 Qr (n + 1) mm x1 x2 (mH h F mm v2) := by
    have out : ∀ (v2 : Nat → Int32), vg v v2 → (v2 14).toInt = qb D → xf D v2 (sqF (ckEl D) (qt D 9)) → (v2 17 = 0 → ∀ j, j < qt D 9 → cvR D j) → w_M_checkRows_L144 Qr mm x1 (mH h F mm v2) := fun v2 g2 g142 hxf2 hc => by
      unfold w_M_checkRows_L144
      exact ⟨qt D 11 + 1, key2 (qt D 11) 0 0 v2 g2 g142 (by by_cases hz2 : v2 17 = 0; exact hxf2.or hz2 hz2; exact hxf2.on hz2) rfl (by omega) (by omega) (fun hz2 => ⟨hc hz2, fun j hj => by omega⟩)⟩
    intro n
    induction n with
    | zero =>
      intro k x2 v2 g1 g14 hxf e2 hk hn hc
      have ek : k = qt D 9 := by omega
      unfold w_M_checkRows_L2
      refine ⟨k9, m_manyOf (s := 9) hX h1 rfl (by decide) (fun r hr _ => ⟨fun _ => out v2 g1 g14 (by rw [← ek]; exact hxf) (by rw [← ek]; exact hc), fun hle => ?_⟩)⟩
      rw [z_le, hr, e2] at hle
      omega
    | succ n ih =>
      intro k x2 v2 g1 g14 hxf e2 hk hn hc
      unfold w_M_checkRows_L2
      refine ⟨k9, m_manyOf (s := 9) hX h1 rfl (by decide) (fun r hr _ => ⟨fun hle => ?_, fun hle => ?_⟩)⟩
      · rw [z_le, hr, e2] at hle
        have ek : k = qt D 9 := by omega
        exact out v2 g1 g14 (by rw [← ek]; exact hxf) (by rw [← ek]; exact hc)
      · rw [z_le, hr, e2] at hle
        rw [mH_i]
        refine ⟨fun hn0 => out v2 g1 g14 (hxf.mo hn0 hk) (fun hz2 => absurd hz2 hn0), fun hz2 => ?_⟩
        obtain ⟨c1, q, ⟨p1, x, p2, p3, L, c2, c3, c4, c5⟩, c6⟩ := (hX.2.2.2.2.2.1 9 (by decide)).2 k (by omega)
        have hb := rC_b c2
        have hb4 := rC_b c4
        have hb5 := cks_b c5
        have hl3 := c3.1
        have e21 : (x2 + 1).toInt = (k + 1 : Nat) := z_inc e2 (by omega)
        have nxt : ∀ v8 : Nat → Int32, vg v v8 → (v8 14).toInt = qb D → xf D v8 (ckEl D k) → (v8 17 = 0 → cvR D k) → w_M_checkRows_L138 (w_M_checkRows_L2 Qr (n + 1)) Qr mm x1 x2 (mH h F mm v8) := fun v8 g8 g148 xf8 hc8 => by
          unfold w_M_checkRows_L138
          refine ih (k + 1) (x2 + 1) v8 g8 g148 (hxf.sc hz2 xf8) e21 (by omega) (by omega) (fun hz8 j hj => ?_)
          rcases Nat.lt_or_ge j k with h9 | h9
          · exact hc hz2 j h9
          · rw [show j = k by omega]
            exact hc8 hz8
        have dead : ∀ v8 : Nat → Int32, vg v v8 → (v8 14).toInt = qb D → xf D v8 (ckEl D k) → v8 17 ≠ 0 → w_M_checkRows_L66 (w_M_checkRows_L2 Qr (n + 1)) Qr mm x1 x2 (mH h F mm v8) := fun v8 g8 g148 xf8 hn8 => by
          unfold w_M_checkRows_L66 w_M_checkRows_L81
          rw [mH_i]
          refine ⟨k9, fun _ => ⟨0 + 1, ?_⟩, fun h9 => absurd h9 hn8⟩
          unfold w_M_checkRows_L86
          exact ⟨fun _ => nxt v8 g8 g148 xf8 (fun h9 => absurd h9 hn8), fun h9 => absurd (by decide) h9⟩
        refine m_placeOf (s := 9) hX h1 rfl (by decide) e2 (by omega) (fun r7 hr7 _ => m_go_k hX hz2 h1 hr7 c1 (by omega) (fun v3 k3 _ => m_count_k hs k3.2.2.1 k3.2.2.2 c2 (by omega) (fun v4 o4 z4 _ => m_total (κ := 1) hX h1 rfl (by decide) (fun r13 hr13 _ => ⟨fun hlt => ?_, fun hlt => k_fail (cc := 20) (w := qp D 9 k) k9 (by rw [o4.e14]; exact k3.2.1) bD rfl (by decide) hr7 (by omega) z4 (fun v5 f1 f2 f3 _ => dead v5 ((g1.tr (k3.1.tr o4.vg)).fl f1) (by rw [f1 14 (by decide) (by decide), o4.e14]; exact k3.2.1) (by rw [Z_lt, hr13, show (3 + 1 : Nat) = 4 from rfl] at hlt; rw [ckEl_20 (by rw [(rC_E c2).2]; omega)]; exact f3) f2)⟩))))
        have K4 := k3.go o4 z4
        rw [Z_lt, hr13, show (3 + 1 : Nat) = 4 from rfl] at hlt
        have en := ckEl_n (D := D) (k := k) (by rw [(rC_E c2).2]; omega)
        rw [(rC_E c2).1] at en
        refine x_checkConstant (v := v) hX h1 ⟨g1.tr K4.1, K4.2⟩ c3 (by omega) (fun v5 g5 g145 hok xf5 _ => ?_)
        by_cases hz5 : v5 17 = 0
        · obtain ⟨k5, kE⟩ := hok hz5
          unfold w_M_checkRows_L66
          rw [mH_i]
          refine ⟨k9, fun hn5 => absurd hz5 hn5, fun _ => m_count_k hs k5.2.2.1 k5.2.2.2 c4 (by omega) (fun v6 o6 z6 _ => ?_)⟩
          have K6 := k5.go o6 z6
          have eE := kE.qw
          rw [show ckCo D p1 127 = none from xf5.z hz5, ← eE, (rC_E c4).1, (rC_E c4).2] at en
          -- the functions
          have lp : ∀ (n2 j pj : Nat) (x6 : Int64) (v7 : Nat → Int32), vg v v7 → x6.toInt = j → j ≤ L.toInt.toNat → L.toInt.toNat - j ≤ n2 → cks (qc D) j p3 = some pj → (v7 14).toInt = qb D → (v7 17 ≠ 0 → xf D v7 (ckEl D k)) → (v7 17 = 0 → ckEl D k = lsF D (L.toInt.toNat - j) pj) → (v7 17 = 0 → rdP v7 (qb D) pj (qe D) ∧ ∀ i, i < j → ∃ pi q x, cks (qc D) i p3 = some pi ∧ rC (qc D) pi = some (q, x) ∧ x.toInt < (iM D 0 + qt D 3 : Nat)) → w_M_checkRows_L86 (w_M_checkRows_L2 Qr (n + 1)) Qr (n2 + 1) mm x1 x2 L x6 (mH h F mm v7) := by
            have fin : ∀ v7 : Nat → Int32, vg v v7 → (v7 14).toInt = qb D → xf D v7 (ckEl D k) → (v7 17 = 0 → cvE D p3 L.toInt.toNat) → w_M_checkRows_L138 (w_M_checkRows_L2 Qr (n + 1)) Qr mm x1 x2 (mH h F mm v7) := fun v7 g7 g147 xf7 hc7 => nxt v7 g7 g147 xf7 (fun hz7 => ⟨by omega, p2, p3, L, by rw [(rC_E c2).1]; exact kE, c4, hc7 hz7⟩)
            intro n2
            induction n2 with
            | zero =>
              intro j pj x6 v7 g7 e6 hj hn2 hcj g147 xa xb hc7
              unfold w_M_checkRows_L86
              have hj' : L.toInt.toNat - j = 0 := by omega
              refine ⟨fun _ => fin v7 g7 g147 (by by_cases hz7 : v7 17 = 0; rw [xb hz7, hj']; exact hz7; exact xa hz7) (fun hz7 i hi => (hc7 hz7).2 i (by omega)), fun hle => ?_⟩
              rw [Z_le, e6] at hle
              omega
            | succ n2 ih2 =>
              intro j pj x6 v7 g7 e6 hj hn2 hcj g147 xa xb hc7
              unfold w_M_checkRows_L86 w_M_checkRows_L129
              rw [mH_i]
              refine ⟨fun hle => fin v7 g7 g147 ?_ (fun hz7 i hi => (hc7 hz7).2 i ?_), fun hle => ⟨k9, fun hn7 => fin v7 g7 g147 (xa hn7) (fun h9 => absurd h9 hn7), fun hz7 v4' e4' => ?_⟩⟩
              · rw [Z_le, e6] at hle
                by_cases hz7 : v7 17 = 0
                · rw [xb hz7, show L.toInt.toNat - j = 0 by omega]
                  exact hz7
                · exact xa hz7
              · rw [Z_le, e6] at hle
                omega
              · rw [Z_le, e6] at hle
                obtain ⟨P7, hall⟩ := hc7 hz7
                obtain ⟨pj', d1, d2⟩ := cks_pre c5 (show j ≤ L.toInt.toNat by omega)
                rw [hcj] at d1
                simp only [Option.some.injEq] at d1
                subst d1
                obtain ⟨i2, hi2⟩ : ∃ i2, L.toInt.toNat - j = i2 + 1 := ⟨L.toInt.toNat - j - 1, by omega⟩
                rw [hi2] at d2
                unfold cks at d2
                split at d2
                · rename_i qj xj hcj2
                  have hbj := rC_b hcj2
                  have hbq := cks_b d2
                  have e61 : (x6 + 1).toInt = (j + 1 : Nat) := by
                    rw [Int64.toInt_add, e6, show (1 : Int64).toInt = 1 from rfl, Int.bmod_eq_of_le (by omega) (by omega)]
                    omega
                  have hcj1 : cks (qc D) (j + 1) p3 = some qj := by
                    have : ∀ (k p q : Nat) (z : Nat × Int64), cks (qc D) k p = some q → rC (qc D) q = some z → cks (qc D) (k + 1) p = some z.1 := by
                      intro k
                      induction k with
                      | zero =>
                        intro p q z a1 a2
                        simp only [cks, Option.some.injEq] at a1
                        subst a1
                        show (match rC (qc D) p with | some (q, _) => cks (qc D) 0 q | none => none) = _
                        rw [a2]
                        rfl
                      | succ k ihk =>
                        intro p q z a1 a2
                        conv at a1 => unfold cks
                        split at a1
                        · rename_i a b e9
                          have := ihk a q z a1 a2
                          show (match rC (qc D) p with | some (q, _) => cks (qc D) (k + 1) q | none => none) = _
                          rw [e9]
                          exact this
                        · cases a1
                    exact this j p3 pj (qj, xj) hcj hcj2
                  refine m_count_k hs P7 hz7 hcj2 (by omega) (fun v8 o8 z8 _ => m_total (κ := 0) hX h1 rfl (by decide) (fun r8 hr8 _ => ⟨fun hlt8 v1 e1 => ?_, fun hlt8 => k_fail (cc := 20) (w := pj) k9 (by rw [o8.e14]; exact g147) bD rfl (by decide) (by rw [e4']; exact P7.1) (by omega) z8 (fun v9 f1 f2 f3 _ v1 e1 => ?_)⟩))
                  · subst e1
                    refine ih2 (j + 1) qj _ v8 (g7.tr o8.vg) e61 (by omega) (by omega) hcj1 (by rw [o8.e14]; exact g147) (fun hn => absurd z8 hn) (fun _ => by rw [xb hz7, hi2, lsF_1 (by rw [(rC_E hcj2).2]; rw [Z_lt, hr8, show (3 + 0 : Nat) = 3 from rfl] at hlt8; omega), (rC_E hcj2).1]; congr 1; omega) (fun _ => ⟨o8.P P7, fun i hi => ?_⟩)
                    rcases Nat.lt_or_ge i j with h9 | h9
                    · exact hall i h9
                    · rw [Z_lt, hr8] at hlt8
                      rw [show i = j by omega]
                      exact ⟨pj, qj, xj, hcj, hcj2, hlt8⟩
                  · subst e1
                    exact ih2 (j + 1) qj _ v9 ((g7.tr o8.vg).fl f1) e61 (by omega) (by omega) hcj1 (by rw [f1 14 (by decide) (by decide), o8.e14]; exact g147) (fun _ => by rw [xb hz7, hi2, lsF_20 (by rw [(rC_E hcj2).2]; rw [Z_lt, hr8, show (3 + 0 : Nat) = 3 from rfl] at hlt8; omega)]; exact f3) (fun h9 => absurd h9 f2) (fun h9 => absurd h9 f2)
                · cases d2
          unfold w_M_checkRows_L81
          exact ⟨L.toInt.toNat + 1, lp L.toInt.toNat 0 p3 0 v6 K6.1 rfl (by omega) (by omega) rfl K6.2.1 (fun hn => absurd z6 hn) (fun _ => en) (fun _ => ⟨K6.2.2.1, fun i hi => by omega⟩)⟩
        · exact dead v5 g5 g145 (by rw [en]; exact xf5.on hz5) hz5
  unfold w_M_checkRows
  exact ⟨qt D 9 + 1, key (qt D 9) 0 0 v vg.rf h14 hz rfl (by omega) (by omega) (fun _ j hj => by omega)⟩
end RKB

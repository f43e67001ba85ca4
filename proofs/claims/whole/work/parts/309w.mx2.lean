-- the reference: types, functions, variables of a module, read again
section MX2
variable {own : Nat → Nat} {mm m m2 b e p q st N t u f g : Nat} {A : Nat → Nat} {h : xb_H} {F : Nat → Nat → Int32} {v v' v2 cb : Nat → Int32} {D D2 : zM}
theorem mdR.ty (hR : mdR D) (ht : t < qt D 1) : ∃ n p2 k, rC (qc D) (qp D 1 t + 1) = some (tPa D t, n) ∧ n.toInt = tPn D t ∧ rTs (qc D) (tPa D t) (tPa D t + tPn D t) ∧ rC (qc D) (tPa D t + tPn D t) = some (p2, k) ∧ k.toInt = tRn D t ∧ cE (qc D) (tPa D t + tPn D t) = p2 ∧ p2 + tRn D t ≤ qe D ∧ rTs (qc D) p2 (p2 + tRn D t) ∧ qb D ≤ qp D 1 t ∧ qp D 1 t + 1 < tPa D t ∧ tPa D t + tPn D t < p2 := by
  obtain ⟨b1, b2, b3, b4, b5⟩ := hR
  obtain ⟨c1, q, ⟨r0, p1, n, p2, k, r1, r2, r3, r4, r5⟩, c3⟩ := (b4 1 (by decide)).2 t ht
  obtain ⟨e1, e2⟩ := rC_E r1
  have e1' : tPa D t = p1 := e1
  have e2' : tPn D t = n.toInt.toNat := e2
  have hb := rC_b r1
  have hb3 := rC_b r3
  rw [← e2', ← e1'] at r2 r3
  obtain ⟨e3, e4⟩ := rC_E r3
  have e4' : tRn D t = k.toInt.toNat := e4
  refine ⟨n, p2, k, by rw [e1']; exact r1, by omega, r2, r3, by omega, e3, by omega, by rw [e4', ← r4]; exact r5, c1, by omega, by omega⟩
theorem mdR.fn (hR : mdR D) (hf : f < iM D 0 + qt D 3) : ∃ q x, rC (qc D) (fpo D f) = some (q, x) ∧ x.toInt = fty D f ∧ qb D ≤ fpo D f ∧ q ≤ qe D := by
  obtain ⟨b1, b2, b3, b4, b5⟩ := hR
  have key : ∀ q x, rC (qc D) (fpo D f) = some (q, x) → x.toInt = fty D f := fun q x hc => by
    have := (rC_E hc).2
    have hb := rC_b hc
    unfold fty
    omega
  by_cases hl : f < iM D 0
  · obtain ⟨g1, g2, g3⟩ := ikx_f (D := D) (κ := 0) (n := qt D 2) hl
    obtain ⟨c1, q, ⟨p1, p2, r1, r2, r3⟩, c3⟩ := (b4 2 (by decide)).2 _ g1
    have hkp : kpo D (ikx D 0 (qt D 2) f) = p2 := by unfold kpo; rw [rN_E r1, rN_E r2]
    have hfp : fpo D f = p2 + 1 := by unfold fpo; rw [if_pos hl, hkp]
    rw [hkp] at g2
    have l1 : qb D ≤ p2 := by
      obtain ⟨a2, x2, d6, d7, -⟩ := r2
      obtain ⟨a3, x3, d8, d9, -⟩ := r1
      have := rC_b d6
      have := rC_b d8
      omega
    rcases r3 with ⟨-, x, r3⟩ | ⟨r4, -⟩ | ⟨r4, -⟩ | ⟨r4, -⟩
    · rw [← hfp] at r3
      exact ⟨q, x, r3, key q x r3, by omega, c3⟩
    all_goals
      rw [r4] at g2
      simp only [Int32.reduceToInt] at g2
      omega
  · have hfp : fpo D f = qp D 3 (f - iM D 0) := by unfold fpo; rw [if_neg hl]
    obtain ⟨c1, q, ⟨x, r1⟩, c3⟩ := (b4 3 (by decide)).2 (f - iM D 0) (by omega)
    rw [← hfp] at r1
    exact ⟨q, x, r1, key q x r1, by rw [hfp]; exact c1, c3⟩
theorem mdR.va (hR : mdR D) (hf : g < iM D 3 + qt D 6) : rVar (qc D) (vpo D g) (vpo D g + 2) ∧ qb D ≤ vpo D g ∧ vpo D g + 2 ≤ qe D := by
  obtain ⟨b1, b2, b3, b4, b5⟩ := hR
  by_cases hl : g < iM D 3
  · obtain ⟨g1, g2, g3⟩ := ikx_f (D := D) (κ := 3) (n := qt D 2) hl
    obtain ⟨c1, q, ⟨p1, p2, r1, r2, r3⟩, c3⟩ := (b4 2 (by decide)).2 _ g1
    have hkp : kpo D (ikx D 3 (qt D 2) g) = p2 := by unfold kpo; rw [rN_E r1, rN_E r2]
    have hfp : vpo D g = p2 + 1 := by unfold vpo; rw [if_pos hl, hkp]
    rw [hkp] at g2
    have l1 : qb D ≤ p2 := by
      obtain ⟨a2, x2, d6, d7, -⟩ := r2
      obtain ⟨a3, x3, d8, d9, -⟩ := r1
      have := rC_b d6
      have := rC_b d8
      omega
    rcases r3 with ⟨r4, -⟩ | ⟨r4, -⟩ | ⟨r4, -⟩ | ⟨r4, r5⟩
    · rw [r4] at g2
      simp only [Int32.reduceToInt] at g2
      omega
    · rw [r4] at g2
      simp only [Int32.reduceToInt] at g2
      omega
    · rw [r4] at g2
      simp only [Int32.reduceToInt] at g2
      omega
    · have e9 := r5.2.2
      rw [hfp]
      rw [e9] at r5
      exact ⟨r5, by omega, by omega⟩
  · have hfp : vpo D g = qp D 6 (g - iM D 3) := by unfold vpo; rw [if_neg hl]
    obtain ⟨c1, q, ⟨p1, r1, r2⟩, c3⟩ := (b4 6 (by decide)).2 (g - iM D 3) (by omega)
    have e9 := r1.2.2
    have := r2.1
    rw [hfp]
    rw [e9] at r1
    exact ⟨r1, c1, by omega⟩
theorem vk.go {p' : Nat} (h1 : vk v v' D p) (o : ro v' v2 p p' (qe D)) (hz : v2 17 = 0) : vk v v2 D p' := ⟨h1.1.tr o.vg, by rw [o.1 14 (by decide) (by decide) (by decide)]; exact h1.2.1, o.P h1.2.2.1, hz⟩
/-- to a place of a module -/
theorem m_go_k {x1 x2 : Int32} {Qr : xb_H → Prop} (hX : mX own mm A h F m D) (hz : v 17 = 0) (h1 : x1.toInt = m) (h2 : x2.toInt = p) (hp1 : qb D ≤ p) (hp2 : p ≤ qe D) (hQ : ∀ v', vk v v' D p → Qr (mH h F mm v')) : w_M_go mm x1 x2 (mH h F mm v) Qr :=
  m_go hX h1 h2 hp1 hp2 (fun v' g1 g2 g3 g4 _ => hQ v' ⟨g1, g2, g3, g4.trans hz⟩)
theorem m_typeOf {x1 x2 : Int32} {Qr : Int32 → xb_H → Prop} (hX : mX own mm A h F m D) (hz : v 17 = 0) (h1 : x1.toInt = m) (h2 : x2.toInt = f) (hf : f < iM D 0 + qt D 3) (ht : fty D f < 2147483648) (hQ : ∀ (v' : Nat → Int32) (r : Int32), vg v v' → v' 17 = 0 → r.toInt = fty D f → Qr r (mH h F mm v')) : w_M_typeOf mm x1 x2 (mH h F mm v) Qr := by
  have hs := hX.rd
  obtain ⟨hB, ⟨a1, a2, a3, a4, a5, a6⟩, hR⟩ := id hX
  obtain ⟨q, x, c1, c2, c3, c4⟩ := hR.fn hf
  have bi := hR.ib (κ := 0)
  have bt := (hR.2.2.2.1 3 (by decide)).1
  obtain ⟨g1, g2, -, g4⟩ := hB.g (k := 10) (kd := 102) (n := 256) (by decide)
  have e4 : (4 * x1).toInt = (4 * m : Nat) := by
    rw [Int32.toInt_mul, z_bm, h1]
    simp only [Int32.reduceToInt]
    omega
  have hb := rC_b c1
  have L44 : ∀ v1 : Nat → Int32, vk v v1 D (fpo D f) → w_M_typeOf_L44 Qr mm (mH h F mm v1) := fun v1 k1 => by
    unfold w_M_typeOf_L44
    refine ⟨hB.2.1, m_count_k hs k1.2.2.1 k1.2.2.2 c1 c4 (fun v2 o2 z2 _ => hQ v2 _ (k1.go o2 z2).1 z2 ?_)⟩
    rw [z_of64]
    omega
  unfold w_M_typeOf
  refine ⟨hB.2.1, A 10, g1, g2, ?_, fun v5 e5 => ?_⟩
  · rw [z_in, e4]
    show _ ∧ _ < ((xb_n h (A 10) : Nat) : Int)
    omega
  rw [mH_o (hB.nm (by decide)), z_cl, e4, Int.toNat_natCast] at e5
  have e5' : v5.toInt = iM D 0 := by rw [e5]; exact a6 0 (by decide)
  refine ⟨fun hle => ?_, fun hle => ?_⟩
  · rw [z_le, e5', h2] at hle
    have hfp : fpo D f = qp D 3 (f - iM D 0) := by unfold fpo; rw [if_neg (by omega)]
    have e9 : (x2 - v5).toInt = (f - iM D 0 : Nat) := by
      rw [z_sub, h2, e5']
      omega
    refine m_placeOf (s := 3) hX h1 rfl (by decide) e9 (by omega) (fun r hr _ => m_go_k hX hz h1 (p := fpo D f) (by rw [hr, hfp]) c3 (by omega) (fun v1 k1 _ => L44 v1 k1))
  · rw [z_le, e5', h2] at hle
    have hl : f < iM D 0 := by omega
    have hfp : fpo D f = kpo D (ikx D 0 (qt D 2) f) + 1 := by unfold fpo; rw [if_pos hl]
    refine m_importOf (κ := 0) hX hz h1 rfl h2 hl (fun v1 r g1 z1 hr hlt _ => m_importAt hX z1 h1 hr hlt (fun v2 k2 _ => L44 v2 ?_))
    rw [hfp]
    exact ⟨g1.tr k2.1, k2.2⟩
theorem m_parameters {x1 x2 : Int32} {Qr : Int32 → xb_H → Prop} (hX : mX own mm A h F m D) (hz : v 17 = 0) (h1 : x1.toInt = m) (h2 : x2.toInt = t) (ht : t < qt D 1) (hQ : ∀ (v' : Nat → Int32) (r : Int32), vk v v' D (tPa D t) → r.toInt = tPn D t → Qr r (mH h F mm v')) : w_M_parameters mm x1 x2 (mH h F mm v) Qr := by
  have hs := hX.rd
  obtain ⟨n, p2, k, c1, c2, c3, c4, c5, c6, c7, c8, c9, c10, c11⟩ := hX.2.2.ty ht
  have hE := hX.2.2.2.2.1
  unfold w_M_parameters
  refine ⟨hX.1.2.1, m_placeOf (s := 1) hX h1 rfl (by decide) h2 ht (fun r hr _ => m_go_k hX hz h1 (z_inc hr (by omega)) (by omega) (by omega) (fun v1 k1 _ => m_count_k hs k1.2.2.1 k1.2.2.2 c1 (by omega) (fun v2 o2 z2 _ => hQ v2 _ (k1.go o2 z2) ?_)))⟩
  rw [z_of64, c2]
  omega
theorem m_parameter {x1 x2 x3 : Int32} {k : Nat} {Qr : Int32 → xb_H → Prop} (hX : mX own mm A h F m D) (hz : v 17 = 0) (h1 : x1.toInt = m) (h2 : x2.toInt = t) (ht : t < qt D 1) (h3 : x3.toInt = k) (hQ : ∀ (v' : Nat → Int32) (r : Int32), vk v v' D (tPa D t) → (k < tPn D t → r = ub (qc D) (tPa D t + k)) → (tPn D t ≤ k → r = 64) → Qr r (mH h F mm v')) : w_M_parameter mm x1 x2 x3 (mH h F mm v) Qr := by
  obtain ⟨s1, s2, s3, s4, s5, s6, s7, s8⟩ := hX.rd
  obtain ⟨n, p2, k', c1, c2, c3, c4, c5, c6, c7, c8, c9, c10, c11⟩ := hX.2.2.ty ht
  have hE := hX.2.2.2.2.1
  unfold w_M_parameter w_M_parameter_L34
  refine ⟨s1, m_parameters hX hz h1 h2 ht (fun v1 r k1 hr _ => ⟨fun hle => ?_, fun hle => ⟨A 3, s2, s3, ?_, ?_⟩⟩)⟩
  · rw [z_le, hr, h3] at hle
    exact hQ v1 64 k1 (fun h9 => by omega) (fun _ => rfl)
  · rw [z_le, hr, h3] at hle
    rw [mH_i, z_in, z_ad2 k1.2.2.1.1 h3 (by omega) (by omega)]
    show _ ∧ _ < ((xb_n h (A 3) : Nat) : Int)
    omega
  · rw [z_le, hr, h3] at hle
    rw [mH_i, mH_o s6, z_cl, z_ad2 k1.2.2.1.1 h3 (by omega) (by omega), Int.toNat_natCast, s8 _ (by omega) (by omega)]
    exact hQ v1 _ k1 (fun _ => rfl) (fun h9 => by omega)
theorem m_resultOf {x1 x2 : Int32} {Qr : Int32 → xb_H → Prop} (hX : mX own mm A h F m D) (hz : v 17 = 0) (h1 : x1.toInt = m) (h2 : x2.toInt = t) (ht : t < qt D 1) (hQ : ∀ (v' : Nat → Int32) (r : Int32), vg v v' → v' 17 = 0 → r.toInt = tRt D t → Qr r (mH h F mm v')) : w_M_resultOf mm x1 x2 (mH h F mm v) Qr := by
  have hs := hX.rd
  obtain ⟨s1, s2, s3, s4, s5, s6, s7, s8⟩ := hX.rd
  obtain ⟨n, p2, k', c1, c2, c3, c4, c5, c6, c7, c8, c9, c10, c11⟩ := hX.2.2.ty ht
  have hE := hX.2.2.2.2.1
  have hb4 := rC_b c4
  unfold w_M_resultOf w_M_resultOf_L44
  refine ⟨s1, m_parameters hX hz h1 h2 ht (fun v1 r k1 hr _ h4 e4 => ?_)⟩
  rw [mH_i, mH_I] at e4
  subst e4
  have e15 : (v1 15 + r).toInt = (tPa D t + tPn D t : Nat) := z_ad2 k1.2.2.1.1 hr (by omega) (by omega)
  obtain ⟨w, hw⟩ : ∃ w : Nat → Int32, w = va_up v1 15 (v1 15 + r) := ⟨_, rfl⟩
  rw [← hw]
  have wj : ∀ j, j ≠ 15 → w j = v1 j := fun j hj => by rw [hw, xh_up, if_neg hj]
  have Kw : vk v w D (tPa D t + tPn D t) := ⟨fun j j1 j2 j3 j4 j5 => by rw [wj j j2]; exact k1.1 j j1 j2 j3 j4 j5, by rw [wj 14 (by decide)]; exact k1.2.1, ⟨by rw [hw, xh_up, if_pos rfl]; exact e15, by rw [wj 16 (by decide)]; exact k1.2.2.1.2.1, by omega, by omega⟩, by rw [wj 17 (by decide)]; exact k1.2.2.2⟩
  refine m_count_k hs Kw.2.2.1 Kw.2.2.2 c4 (by omega) (fun v2 o2 z2 _ => ?_)
  have K2 := Kw.go o2 z2
  rw [mH_i]
  refine ⟨fun hn => ⟨A 3, s2, s3, ?_, ?_⟩, fun h0 => hQ v2 64 K2.1 z2 ?_⟩
  · have : tRn D t ≠ 0 := fun e9 => hn (by rw [Z_eq, c5, e9]; rfl)
    rw [z_in, K2.2.2.1.1]
    show _ ∧ _ < ((xb_n h (A 3) : Nat) : Int)
    omega
  · have hne : tRn D t ≠ 0 := fun e9 => hn (by rw [Z_eq, c5, e9]; rfl)
    rw [mH_o s6, z_cl, K2.2.2.1.1, Int.toNat_natCast, s8 _ (by omega) (by omega)]
    refine hQ v2 _ K2.1 z2 ?_
    unfold tRt
    rw [if_neg hne, c6]
    rfl
  · have : tRn D t = 0 := by
      rw [Z_eq, c5] at h0
      simp only [Int64.reduceToInt] at h0
      omega
    unfold tRt
    rw [if_pos this]
    rfl
/-- where something is wrong already -/
theorem m_resultOf_d {x1 x2 : Int32} {Qr : Int32 → xb_H → Prop} (hX : mX own mm A h F m D) (hz : v 17 ≠ 0) (h1 : x1.toInt = m) (h2 : x2.toInt = t) (ht : t < qt D 1) (hQ : ∀ (v' : Nat → Int32), vg v v' → v' 17 ≠ 0 → Qr 64 (mH h F mm v')) : w_M_resultOf mm x1 x2 (mH h F mm v) Qr := by
  have hs := hX.rd
  obtain ⟨s1, s2, s3, s4, s5, s6, s7, s8⟩ := hX.rd
  obtain ⟨n, p2, k', c1, c2, c3, c4, c5, c6, c7, c8, c9, c10, c11⟩ := hX.2.2.ty ht
  have hE := hX.2.2.2.2.1
  unfold w_M_resultOf w_M_resultOf_L44 w_M_parameters
  refine ⟨s1, s1, m_placeOf (s := 1) hX h1 rfl (by decide) h2 ht (fun r hr _ => m_go hX h1 (z_inc hr (by omega)) (by omega) (by omega) (fun v1 g1 g2 g3 g4 g5 _ => m_count_d hs g3 (by rw [g4]; exact hz) (fun v2 p2' o2 hp2 z2 _ _ h4 e4 => ?_)))⟩
  rw [mH_i, mH_I] at e4
  have e9 : va_up v2 15 (v2 15 + Int64.toInt32 0) = v2 := by
    have : v2 15 + Int64.toInt32 0 = v2 15 := by
      rw [z_eq, z_add, show (Int64.toInt32 0).toInt = 0 from rfl]
      have := z_rg (v2 15)
      omega
    rw [this, va_id]
  rw [e9] at e4
  subst e4
  refine m_count_d hs (o2.P g3) z2 (fun v3 p3 o3 _ z3 _ => ⟨fun h9 => absurd rfl h9, fun _ => hQ v3 (g1.tr (o2.tr o3).vg) z3⟩)
theorem m_variableTypeOf {x1 x2 : Int32} {Qr : Int32 → xb_H → Prop} (hX : mX own mm A h F m D) (hz : v 17 = 0) (h1 : x1.toInt = m) (h2 : x2.toInt = g) (hg : g < iM D 3 + qt D 6) (hQ : ∀ (v' : Nat → Int32), vk v v' D (vpo D g + 1) → Qr (ub (qc D) (vpo D g)) (mH h F mm v')) : w_M_variableTypeOf mm x1 x2 (mH h F mm v) Qr := by
  have hs := hX.rd
  obtain ⟨hB, ⟨a1, a2, a3, a4, a5, a6⟩, hR⟩ := id hX
  obtain ⟨c1, c2, c3⟩ := hR.va hg
  have bi := hR.ib (κ := 3)
  have bt := (hR.2.2.2.1 6 (by decide)).1
  obtain ⟨g1, g2, -, g4⟩ := hB.g (k := 10) (kd := 102) (n := 256) (by decide)
  have e4 := z_4 (y := 3) (s := 3) h1 rfl a1 (by decide)
  have L47 : ∀ v1 : Nat → Int32, vk v v1 D (vpo D g) → w_M_variableTypeOf_L47 Qr mm (mH h F mm v1) := fun v1 k1 => by
    unfold w_M_variableTypeOf_L47
    exact ⟨hB.2.1, m_next_k hs k1.2.2.1 k1.2.2.2 (by omega) (fun v2 o2 z2 _ => hQ v2 (k1.go o2 z2))⟩
  unfold w_M_variableTypeOf
  refine ⟨hB.2.1, A 10, g1, g2, ?_, fun v5 e5 => ?_⟩
  · rw [z_in, e4]
    show _ ∧ _ < ((xb_n h (A 10) : Nat) : Int)
    omega
  rw [mH_o (hB.nm (by decide)), z_cl, e4, Int.toNat_natCast] at e5
  have e5' : v5.toInt = iM D 3 := by rw [e5]; exact a6 3 (by decide)
  refine ⟨fun hle => ?_, fun hle => ?_⟩
  · rw [z_le, e5', h2] at hle
    have hfp : vpo D g = qp D 6 (g - iM D 3) := by unfold vpo; rw [if_neg (by omega)]
    have e9 : (x2 - v5).toInt = (g - iM D 3 : Nat) := by
      rw [z_sub, h2, e5']
      omega
    refine m_placeOf (s := 6) hX h1 rfl (by decide) e9 (by omega) (fun r hr _ => m_go_k hX hz h1 (p := vpo D g) (by rw [hr, hfp]) c2 (by omega) (fun v1 k1 _ => L47 v1 k1))
  · rw [z_le, e5', h2] at hle
    have hl : g < iM D 3 := by omega
    have hfp : vpo D g = kpo D (ikx D 3 (qt D 2) g) + 1 := by unfold vpo; rw [if_pos hl]
    refine m_importOf (κ := 3) hX hz h1 rfl h2 hl (fun v1 r g1 z1 hr hlt _ => m_importAt hX z1 h1 hr hlt (fun v2 k2 _ => L47 v2 ?_))
    rw [hfp]
    exact ⟨g1.tr k2.1, k2.2⟩
theorem m_changes {x1 x2 : Int32} {Qr : Int32 → xb_H → Prop} (hX : mX own mm A h F m D) (hz : v 17 = 0) (h1 : x1.toInt = m) (h2 : x2.toInt = g) (hg : g < iM D 3 + qt D 6) (hQ : ∀ (v' : Nat → Int32) (r : Int32), vk v v' D (vpo D g + 2) → (r = 0 ∧ vmu D g ≠ 1) ∨ (r = 1 ∧ vmu D g = 1) → Qr r (mH h F mm v')) : w_M_changes mm x1 x2 (mH h F mm v) Qr := by
  obtain ⟨c1, c2, c3⟩ := hX.2.2.va hg
  unfold w_M_changes w_M_changes_L20
  refine ⟨hX.1.2.1, m_variableTypeOf hX hz h1 h2 hg (fun v1 k1 _ => m_next_k hX.rd k1.2.2.1 k1.2.2.2 (by omega) (fun v2 o2 z2 _ => ⟨fun hn => ⟨.inl rfl, hQ v2 0 (k1.go o2 z2) (.inl ⟨rfl, fun h9 => hn ?_⟩)⟩, fun he => ⟨.inr rfl, hQ v2 1 (k1.go o2 z2) (.inr ⟨rfl, ?_⟩)⟩⟩))⟩
  · rw [z_eq]
    exact h9
  · rw [z_eq] at he
    exact he
theorem m_leastRead {q : Nat} {Qr : Int64 → xb_H → Prop} (hs : rdH mm st N b e cb h F) (hp : rdP v b p e) (hz : v 17 = 0) (hl : rLim cb p q) (hq : q ≤ e) (hQ : ∀ (v' : Nat → Int32) (r y : Int64), ro v v' p q e → v' 17 = 0 → 0 ≤ r.toInt → r.toInt < 4294967296 → -1 ≤ y.toInt → y.toInt < 4294967296 → Qr r (mH (xb_L h mm 91 y) F mm v')) : w_M_leastRead mm (mH h F mm v) Qr := by
  obtain ⟨l1, p1, x, l2, l3⟩ := hl
  have hb := rC_b l2
  have hq1 : p1 ≤ q := by
    rcases l3 with ⟨-, l3⟩ | ⟨-, y, l3⟩
    · omega
    · have := rC_b l3
      omega
  have L34 : ∀ (v2 : Nat → Int32) (y : Int64), ro v v2 p q e → v2 17 = 0 → -1 ≤ y.toInt → y.toInt < 4294967296 → w_M_leastRead_L34 Qr x y mm (mH h F mm v2) := fun v2 y o2 z2 y1 y2 => by
    unfold w_M_leastRead_L34
    refine ⟨hs.1, fun h2 e2 => ?_⟩
    subst e2
    exact hQ v2 x y o2 z2 (by omega) (by omega) y1 y2
  unfold w_M_leastRead w_M_leastRead_L13
  refine ⟨hs.1, m_next_k hs hp hz (by omega) (fun v1 o1 z1 _ => ⟨fun hn => ⟨hs.1, m_count_k hs (o1.P hp) z1 l2 (by omega) (fun v2 o2 z2 _ => ⟨fun _ => ?_, fun h9 => absurd rfl h9⟩)⟩, fun he => ⟨hs.1, m_count_k hs (o1.P hp) z1 l2 (by omega) (fun v2 o2 z2 _ => ⟨fun h9 => absurd h9 (by decide), fun _ => ?_⟩)⟩⟩)⟩
  · rcases l3 with ⟨-, l3⟩ | ⟨l4, -⟩
    · subst l3
      exact L34 v2 (-1) (o1.tr o2) z2 (by decide) (by decide)
    · exact absurd l4 hn
  · rcases l3 with ⟨l4, -⟩ | ⟨-, y, l3⟩
    · exact absurd he l4
    · have hby := rC_b l3
      exact m_count_k hs (o2.P (o1.P hp)) z2 l3 hq (fun v3 o3 z3 _ => L34 v3 y (o1.tr (o2.tr o3)) z3 (by omega) (by omega))
theorem m_sameTypeE {x1 x2 x3 x4 : Int32} {Qr : Int32 → xb_H → Prop} (hX : mX own mm A h F m D) (hX2 : mX own mm A h F m2 D2) (hz : v 17 = 0) (h1 : x1.toInt = m) (h2 : x2.toInt = t) (ht : t < qt D 1) (h3 : x3.toInt = m2) (h4 : x4.toInt = u) (hu : u < qt D2 1)
    (hQ : ∀ (v' : Nat → Int32) (r : Int32), vg v v' → v' 17 = 0 → (r = 0 ∧ ¬ (tPn D t = tPn D2 u ∧ tRt D t = tRt D2 u ∧ ∀ k, k < tPn D t → ub (qc D) (tPa D t + k) = ub (qc D2) (tPa D2 u + k))) ∨ (r = 1 ∧ tPn D t = tPn D2 u ∧ tRt D t = tRt D2 u ∧ ∀ k, k < tPn D t → ub (qc D) (tPa D t + k) = ub (qc D2) (tPa D2 u + k)) → Qr r (mH h F mm v')) : w_M_sameType mm x1 x2 x3 x4 (mH h F mm v) Qr := by
  have key : ∀ x5 : Int32, x5.toInt = tPn D t → ∀ (n k : Nat) (x6 x7 : Int32) (v2 : Nat → Int32), vg v v2 → v2 17 = 0 → x7.toInt = k → k ≤ tPn D t → tPn D t - k ≤ n → ((x6 = 0 ∧ ¬ (tPn D t = tPn D2 u ∧ tRt D t = tRt D2 u ∧ ∀ k, k < tPn D t → ub (qc D) (tPa D t + k) = ub (qc D2) (tPa D2 u + k))) ∨ (x6 = 1 ∧ tPn D t = tPn D2 u ∧ tRt D t = tRt D2 u ∧ ∀ j, j < k → ub (qc D) (tPa D t + j) = ub (qc D2) (tPa D2 u + j))) → w_M_sameType_L46 Qr (n + 1) mm x1 x2 x3 x4 x5 x6 x7 (mH h F mm v2) := by
    intro x5 h5 n
    obtain ⟨nn, p2, k', c1, c2, c3, c4, c5, c6, c7, c8, c9, c10, c11⟩ := hX.2.2.ty ht
    have hE := hX.2.2.2.2.1
    induction n with
    | zero =>
      intro k x6 x7 v2 g1 g2 e7 hk hn hc
      unfold w_M_sameType_L46 w_M_sameType_L91
      refine ⟨fun _ => ⟨hc.imp And.left (fun h => h.1), hQ v2 x6 g1 g2 (hc.imp id (fun h => ⟨h.1, h.2.1, h.2.2.1, fun j hj => h.2.2.2 j (by omega)⟩))⟩, fun hle => ?_⟩
      rw [z_le, h5, e7] at hle
      omega
    | succ n ih =>
      intro k x6 x7 v2 g1 g2 e7 hk hn hc
      unfold w_M_sameType_L46 w_M_sameType_L91 w_M_sameType_L83
      refine ⟨fun hle => ⟨hc.imp And.left (fun h => h.1), hQ v2 x6 g1 g2 (hc.imp id (fun h => ⟨h.1, h.2.1, h.2.2.1, fun j hj => h.2.2.2 j ?_⟩))⟩, fun hle => ⟨fun h0 => ⟨.inl h0, hQ v2 x6 g1 g2 (hc.elim .inl (fun h => absurd (h0.symm.trans h.1) (by decide)))⟩, fun h0 => ⟨hX.1.2.1, ?_⟩⟩⟩
      · rw [z_le, h5, e7] at hle
        refine m_parameter hX g2 h1 h2 ht e7 (fun v3 r3 k3 r4 _ _ => m_parameter hX2 k3.2.2.2 h3 h4 hu e7 (fun v4 r5 k4 r6 _ _ => ?_))
        have G := g1.tr (k3.1.tr k4.1)
        have e71 : (x7 + 1).toInt = (k + 1 : Nat) := z_inc e7 (by omega)
        refine ⟨fun hne => ih (k + 1) 0 (x7 + 1) v4 G k4.2.2.2 e71 (by omega) (by omega) (.inl ⟨rfl, fun hS => hne (by rw [r4 (by omega), r6 (by have := hS.1; omega)]; exact hS.2.2 k (by omega))⟩), fun he => ih (k + 1) 1 (x7 + 1) v4 G k4.2.2.2 e71 (by omega) (by omega) ?_⟩
        rcases hc with hc | ⟨d1, d2, d3, d4⟩
        · exact absurd hc.1 h0
        · refine .inr ⟨rfl, d2, d3, fun j hj => ?_⟩
          rcases Nat.lt_or_ge j k with h9 | h9
          · exact d4 j h9
          · rw [show j = k by omega, ← r4 (by omega), ← r6 (by omega)]
            exact he
      · rw [z_le, h5, e7] at hle
        omega
  unfold w_M_sameType w_M_sameType_L40 w_M_sameType_L41
  refine ⟨hX.1.2.1, m_parameters hX hz h1 h2 ht (fun v1 r3 k1 e3 _ => m_parameters hX2 k1.2.2.2 h3 h4 hu (fun v2 r5 k2 e5 _ => ?_))⟩
  have G2 := k1.1.tr k2.1
  refine ⟨fun hne => ⟨tPn D t + 1, key r3 e3 (tPn D t) 0 0 0 v2 G2 k2.2.2.2 rfl (by omega) (by omega) (.inl ⟨rfl, fun hS => hne (z_eq.mpr (by rw [e3, e5, hS.1]))⟩)⟩, fun he => m_resultOf hX k2.2.2.2 h1 h2 ht (fun v3 r8 g3 z3 e8 _ => m_resultOf hX2 z3 h3 h4 hu (fun v4 r10 g4 z4 e10 _ => ⟨fun hne => ⟨tPn D t + 1, key r3 e3 (tPn D t) 0 0 0 v4 (G2.tr (g3.tr g4)) z4 rfl (by omega) (by omega) (.inl ⟨rfl, fun hS => hne (z_eq.mpr (by rw [e8, e10, hS.2.1]))⟩)⟩, fun he2 => ⟨tPn D t + 1, key r3 e3 (tPn D t) 0 1 0 v4 (G2.tr (g3.tr g4)) z4 rfl (by omega) (by omega) (.inr ⟨rfl, ?_, ?_, fun j hj => by omega⟩)⟩⟩))⟩
  · rw [he, e5] at e3
    omega
  · rw [← e8, ← e10, he2]
theorem m_sameType {x1 x2 x3 x4 : Int32} {Qr : Int32 → xb_H → Prop} (hX : mX own mm A h F m D) (hX2 : mX own mm A h F m2 D2) (hz : v 17 = 0) (h1 : x1.toInt = m) (h2 : x2.toInt = t) (ht : t < qt D 1) (h3 : x3.toInt = m2) (h4 : x4.toInt = u) (hu : u < qt D2 1)
    (hQ : ∀ (v' : Nat → Int32) (r : Int32), vg v v' → v' 17 = 0 → r = 0 ∨ (r = 1 ∧ tPn D t = tPn D2 u ∧ tRt D t = tRt D2 u ∧ ∀ k, k < tPn D t → ub (qc D) (tPa D t + k) = ub (qc D2) (tPa D2 u + k)) → Qr r (mH h F mm v')) : w_M_sameType mm x1 x2 x3 x4 (mH h F mm v) Qr :=
  m_sameTypeE hX hX2 hz h1 h2 ht h3 h4 hu (fun v' r g1 g2 hr => hQ v' r g1 g2 (hr.imp And.left id))
end MX2

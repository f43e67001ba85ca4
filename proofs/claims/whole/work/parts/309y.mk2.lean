-- the reference's checker: exports, start, rows
/-- an export's kind and number -/
def xko (D : zM) (k : Nat) : Nat := qN (qc D) (qp D 7 k)
def xnu (D : zM) (k : Nat) : Nat := cV (qc D) (xko D k + 1)
def cvX (D : zM) (k : Nat) : Prop := ∃ κ : Nat, κ < 4 ∧ (ub (qc D) (xko D k)).toInt = κ ∧ xnu D k < iM D κ + qt D (3 + κ)
def cvS (D : zM) : Prop := 0 < qt D 8 → cV (qc D) (qp D 8 0) < iM D 0 + qt D 3 ∧ tPn D (fty D (cV (qc D) (qp D 8 0))) = 0
/-- elements that are written: the j-th of L functions -/
def cvE (D : zM) (p L : Nat) : Prop := ∀ j, j < L → ∃ pj q x, cks (qc D) j p = some pj ∧ rC (qc D) pj = some (q, x) ∧ x.toInt < (iM D 0 + qt D 3 : Nat)
def cvR (D : zM) (k : Nat) : Prop := 0 < iM D 1 + qt D 4 ∧ ∃ E p3 L, ckE D (cE (qc D) (qp D 9 k)) E ∧ rC (qc D) E = some (p3, L) ∧ cvE D p3 L.toInt.toNat
def cvD (D : zM) (k : Nat) : Prop := 0 < iM D 2 + qt D 5 ∧ ∃ E, ckE D (cE (qc D) (qp D 11 k)) E
section MK2
variable {own : Nat → Nat} {mm m b e p q st N t u f g : Nat} {A : Nat → Nat} {h h' h2 : xb_H} {F : Nat → Nat → Int32} {v v' v2 cb : Nat → Int32} {D : zM}
theorem rN_b {p1 : Nat} {n : Int64} (h : rN cb p q) (h1 : rC cb p = some (p1, n)) : q = p1 + n.toInt.toNat ∧ n.toInt < 4294967296 ∧ 0 ≤ n.toInt := by
  obtain ⟨a, x, h2, h3, -⟩ := h
  obtain ⟨e1, e2⟩ := rC_in h1 h2
  subst e1 e2
  have := rC_b h1
  omega
theorem m_sameName {x1 x2 x3 : Int32} {p1 p2 q1 q2 : Nat} {Qr : Int32 → xb_H → Prop} (hX : mX own mm A h F m D) (hz : v 17 = 0) (h1 : x1.toInt = m) (h2 : x2.toInt = p1) (h3 : x3.toInt = p2) (n1 : rN (qc D) p1 q1) (n2 : rN (qc D) p2 q2) (b1 : qb D ≤ p1) (b2 : qb D ≤ p2) (l1 : q1 ≤ qe D) (l2 : q2 ≤ qe D) (hQ : ∀ (v' : Nat → Int32) (r : Int32), vg v v' → v' 17 = 0 → Qr r (mH h F mm v')) : w_M_sameName mm x1 x2 x3 (mH h F mm v) Qr := by
  have hs := hX.rd
  obtain ⟨s1, s2, s3, s4, s5, s6, s7, s8⟩ := hX.rd
  have hE := hX.2.2.2.2.1
  obtain ⟨a1, c1, d1, -, -⟩ := id n1
  obtain ⟨a2, c2, d2, -, -⟩ := id n2
  obtain ⟨e1, f1, f1'⟩ := rN_b n1 d1
  obtain ⟨e2, f2, f2'⟩ := rN_b n2 d2
  have hb1 := rC_b d1
  have hb2 := rC_b d2
  unfold w_M_sameName
  refine ⟨s1, m_go_k hX hz h1 h2 b1 (by omega) (fun v1 k1 _ => m_count_k hs k1.2.2.1 k1.2.2.2 d1 (by omega) (fun v3 o3 z3 _ v6 e6 v7 e7 => ?_))⟩
  rw [mH_i] at e7
  have K3 := k1.go o3 z3
  have e7' : v7.toInt = a1 := by rw [e7]; exact K3.2.2.1.1
  have e6' : v6.toInt = c1.toInt := by rw [e6, z_of64]; omega
  refine m_go_k hX z3 h1 h3 b2 (by omega) (fun v4 k4 _ => m_count_k hs k4.2.2.1 k4.2.2.2 d2 (by omega) (fun v5 o5 z5 _ => ?_))
  have K5 := k4.go o5 z5
  have G5 : vg v v5 := K3.1.tr K5.1
  have key : ∀ (n k : Nat) (x6 x7 : Int32), (x6 = 0 ∨ (x6 = 1 ∧ (Int64.toInt32 c2) = v6)) → x7.toInt = k → (k : Int) + n = c1.toInt → w_M_sameName_L45 Qr (n + 1) mm v6 v7 x6 x7 (mH h F mm v5) := by
    intro n
    induction n with
    | zero =>
      intro k x6 x7 hx e8 hn
      unfold w_M_sameName_L45 w_M_sameName_L95
      refine ⟨fun _ => ⟨hx.imp id (fun h => h.1), hQ v5 x6 G5 z5⟩, fun hle => ?_⟩
      rw [z_le, e6', e8] at hle
      omega
    | succ n ih =>
      intro k x6 x7 hx e8 hn
      unfold w_M_sameName_L45 w_M_sameName_L95 w_M_sameName_L87
      refine ⟨fun _ => ⟨hx.imp id (fun h => h.1), hQ v5 x6 G5 z5⟩, fun hle => ⟨fun h0 => ⟨.inl h0, hQ v5 x6 G5 z5⟩, fun h0 => ?_⟩⟩
      rcases hx with hx | ⟨hx, hc⟩
      · exact absurd hx h0
      have ec : c2.toInt = c1.toInt := by
        have : (Int64.toInt32 c2).toInt = v6.toInt := by rw [hc]
        rw [z_of64, e6'] at this
        omega
      have e81 : (x7 + 1).toInt = (k + 1 : Nat) := z_inc e8 (by omega)
      rw [mH_i]
      refine ⟨s1, A 3, s2, s3, ?_, A 3, s2, s3, ?_, fun _ => ih (k + 1) 0 (x7 + 1) (.inl rfl) e81 (by omega), fun _ => ih (k + 1) 1 (x7 + 1) (.inr ⟨rfl, hc⟩) e81 (by omega)⟩
      · rw [z_in, z_ad2 e7' e8 (by omega) (by omega)]
        show _ ∧ _ < ((xb_n h (A 3) : Nat) : Int)
        omega
      · rw [z_in, z_ad2 K5.2.2.1.1 e8 (by omega) (by omega)]
        show _ ∧ _ < ((xb_n h (A 3) : Nat) : Int)
        omega
  unfold w_M_sameName_L40
  exact ⟨fun _ => ⟨c1.toInt.toNat + 1, key c1.toInt.toNat 0 0 0 (.inl rfl) rfl (by omega)⟩, fun hc => ⟨c1.toInt.toNat + 1, key c1.toInt.toNat 0 1 0 (.inr ⟨rfl, hc⟩) rfl (by omega)⟩⟩
theorem mdR.x7 (hR : mdR D) {k : Nat} (hk : k < qt D 7) : ∃ q x, rN (qc D) (qp D 7 k) (xko D k) ∧ (ub (qc D) (xko D k)).toInt < 4 ∧ rC (qc D) (xko D k + 1) = some (q, x) ∧ x.toInt = xnu D k ∧ qb D ≤ qp D 7 k ∧ q ≤ qe D ∧ qp D 7 k ≤ xko D k := by
  obtain ⟨b1, b2, b3, b4, b5⟩ := hR
  obtain ⟨c1, q, ⟨p1, x, r1, r2, r3⟩, c3⟩ := (b4 7 (by decide)).2 k hk
  have e1 : xko D k = p1 := rN_E r1
  have e2 : xnu D k = x.toInt.toNat := by unfold xnu; rw [e1]; exact (rC_E r3).2
  have hb := rC_b r3
  obtain ⟨a, y, r4, r5, -⟩ := id r1
  have hb4 := rC_b r4
  rw [← e1] at r1 r2 r3
  refine ⟨q, x, r1, ?_, r3, by omega, c1, c3, by omega⟩
  rw [z_le] at r2
  simp only [Int32.reduceToInt] at r2
  omega
theorem m_checkExports {x1 : Int32} {Qr : xb_H → Prop} (hX : mX own mm A h F m D) (h1 : x1.toInt = m) (hz : v 17 = 0) (hQ : ∀ v2, vg v v2 → (v2 17 = 0 → ∀ k, k < qt D 7 → cvX D k) → Qr (mH h F mm v2)) : w_M_checkExports mm x1 (mH h F mm v) Qr := by
  have bt := (hX.2.2.2.2.2.1 7 (by decide)).1
  have hs := hX.rd
  have hE := hX.2.2.2.2.1
  have k9 := hX.1.2.1
  have key : ∀ (n k : Nat) (x2 : Int32) (v2 : Nat → Int32), vg v v2 → x2.toInt = k → k ≤ qt D 7 → qt D 7 - k ≤ n → (v2 17 = 0 → ∀ j, j < k → cvX D j) → w_M_checkExports_L2 Qr (n + 1) mm x1 x2 (mH h F mm v2) := by
    intro n
    induction n with
    | zero =>
      intro k x2 v2 g1 e2 hk hn hc
      have ek : k = qt D 7 := by omega
      unfold w_M_checkExports_L2 w_M_checkExports_L120
      refine ⟨k9, m_manyOf (s := 7) hX h1 rfl (by decide) (fun r hr _ => ⟨fun _ => hQ v2 g1 (by rw [← ek]; exact hc), fun hle => ?_⟩)⟩
      rw [z_le, hr, e2] at hle
      omega
    | succ n ih =>
      intro k x2 v2 g1 e2 hk hn hc
      unfold w_M_checkExports_L2 w_M_checkExports_L120
      refine ⟨k9, m_manyOf (s := 7) hX h1 rfl (by decide) (fun r hr _ => ⟨fun hle => ?_, fun hle => ?_⟩)⟩
      · rw [z_le, hr, e2] at hle
        have ek : k = qt D 7 := by omega
        exact hQ v2 g1 (by rw [← ek]; exact hc)
      · rw [z_le, hr, e2] at hle
        rw [mH_i]
        refine ⟨fun hn0 => hQ v2 g1 (fun hz2 => absurd hz2 hn0), fun hz2 => ?_⟩
        have hk7 : k < qt D 7 := by omega
        obtain ⟨q, x, c1, c2, c3, c4, c5, c6, c7⟩ := hX.2.2.x7 hk7
        have hb := rC_b c3
        have hu := ub_r (cb := qc D) (p := xko D k)
        have e21 : (x2 + 1).toInt = (k + 1 : Nat) := z_inc e2 (by omega)
        refine m_placeOf (s := 7) hX h1 rfl (by decide) e2 hk7 (fun r7 hr7 _ => m_go_k hX hz2 h1 hr7 c5 (by omega) (fun v3 k3 _ => m_name_k hs k3.2.2.1 k3.2.2.2 c1 (by omega) (fun v4 o4 z4 _ => m_next_k hs (o4.P k3.2.2.1) z4 (by omega) (fun v5 o5 z5 _ => m_count_k hs (o5.P (o4.P k3.2.2.1)) z5 c3 (by omega) (fun v6 o6 z6 _ => ?_)))))
        have G6 : vg v v6 := g1.tr (k3.1.tr (o4.tr (o5.tr o6)).vg)
        -- the other names
        have L70 : ∀ (n2 j : Nat) (x5 : Int32) (v7 : Nat → Int32), vg v v7 → x5.toInt = j → j ≤ k → k - j ≤ n2 → (v7 17 = 0 → cvX D k) → w_M_checkExports_L70 (w_M_checkExports_L2 Qr (n + 1)) Qr (n2 + 1) mm x1 x2 r7 x5 (mH h F mm v7) := by
          have out : ∀ v7 : Nat → Int32, vg v v7 → (v7 17 = 0 → cvX D k) → w_M_checkExports_L114 (w_M_checkExports_L2 Qr (n + 1)) Qr mm x1 x2 (mH h F mm v7) := fun v7 g7 hc7 => by
            unfold w_M_checkExports_L114
            refine ih (k + 1) (x2 + 1) v7 g7 e21 (by omega) (by omega) (fun hz7 j hj => ?_)
            rcases Nat.lt_or_ge j k with h9 | h9
            · exact hc hz2 j h9
            · rw [show j = k by omega]
              exact hc7 hz7
          intro n2
          induction n2 with
          | zero =>
            intro j x5 v7 g7 e5 hj hn2 hc7
            unfold w_M_checkExports_L70
            refine ⟨fun _ => out v7 g7 hc7, fun hle => ?_⟩
            rw [z_le, e2, e5] at hle
            omega
          | succ n2 ih2 =>
            intro j x5 v7 g7 e5 hj hn2 hc7
            unfold w_M_checkExports_L70 w_M_checkExports_L108
            rw [mH_i]
            refine ⟨fun _ => out v7 g7 hc7, fun hle => ⟨k9, fun _ => out v7 g7 hc7, fun hz7 => ?_⟩⟩
            rw [z_le, e2, e5] at hle
            obtain ⟨q', x', d1, d2, d3, d4, d5, d6, d7⟩ := hX.2.2.x7 (show j < qt D 7 by omega)
            have hb' := rC_b d3
            have e51 : (x5 + 1).toInt = (j + 1 : Nat) := z_inc e5 (by omega)
            refine m_placeOf (s := 7) hX h1 rfl (by decide) e5 (by omega) (fun r5 hr5 _ => m_sameName hX hz7 h1 hr5 hr7 d1 c1 d5 c5 (by omega) (by omega) (fun v8 r8 g8 z8 _ => ⟨fun _ => ih2 (j + 1) (x5 + 1) v8 (g7.tr g8) e51 (by omega) (by omega) (fun _ => hc7 hz7), fun _ => m_fail k9 (by decide) (fun v9 f1 f2 _ => ih2 (j + 1) (x5 + 1) v9 ((g7.tr g8).fl f1) e51 (by omega) (by omega) (fun h9 => absurd h9 f2))⟩))
        refine m_total (κ := (ub (qc D) (xko D k)).toInt.toNat) hX h1 (by omega) (by omega) (fun r17 hr17 _ => ⟨fun hlt => ?_, fun _ => m_fail k9 (by decide) (fun v7 f1 f2 _ => ?_)⟩)
        · unfold w_M_checkExports_L67
          refine ⟨k + 1, L70 k 0 0 v6 G6 rfl (by omega) (by omega) (fun _ => ⟨(ub (qc D) (xko D k)).toInt.toNat, by omega, by omega, ?_⟩)⟩
          rw [Z_lt, hr17] at hlt
          omega
        · unfold w_M_checkExports_L67
          exact ⟨k + 1, L70 k 0 0 v7 (G6.fl f1) rfl (by omega) (by omega) (fun h9 => absurd h9 f2)⟩
  unfold w_M_checkExports
  exact ⟨qt D 7 + 1, key (qt D 7) 0 0 v vg.rf rfl (by omega) (by omega) (fun _ j hj => by omega)⟩
theorem m_checkStart {x1 : Int32} {Qr : xb_H → Prop} (hX : mX own mm A h F m D) (h1 : x1.toInt = m) (hz : v 17 = 0) (hcf : ∀ f, f < iM D 0 + qt D 3 → fty D f < qt D 1) (hQ : ∀ v2, vg v v2 → (v2 17 = 0 → cvS D) → Qr (mH h F mm v2)) : w_M_checkStart mm x1 (mH h F mm v) Qr := by
  have hs := hX.rd
  have k9 := hX.1.2.1
  have bt1 := (hX.2.2.2.2.2.1 1 (by decide)).1
  have bt3 := (hX.2.2.2.2.2.1 3 (by decide)).1
  have bi := hX.2.2.ib (κ := 0)
  unfold w_M_checkStart
  refine ⟨k9, m_manyOf (s := 8) hX h1 rfl (by decide) (fun r3 hr3 _ => ⟨fun hn => ?_, fun h0 => hQ v vg.rf (fun _ h9 => ?_)⟩)⟩
  · have h8 : 0 < qt D 8 := by
      rw [z_eq, hr3] at hn
      simp only [Int32.reduceToInt] at hn
      omega
    obtain ⟨c1, q, ⟨x, c2⟩, c3⟩ := (hX.2.2.2.2.2.1 8 (by decide)).2 0 h8
    have hb := rC_b c2
    have ev := (rC_E c2).2
    refine m_placeOf (s := 8) (k := 0) hX h1 rfl (by decide) rfl h8 (fun r6 hr6 _ => m_go_k hX hz h1 hr6 c1 (by omega) (fun v1 k1 _ => m_count_k hs k1.2.2.1 k1.2.2.2 c2 c3 (fun v2 o2 z2 _ => m_total (κ := 0) hX h1 rfl (by decide) (fun r12 hr12 _ => ⟨fun hlt => ?_, fun _ => ?_⟩))))
    · have G2 := k1.1.tr o2.vg
      rw [Z_lt, hr12, show (3 + 0 : Nat) = 3 from rfl] at hlt
      have hlt' : x.toInt.toNat < iM D 0 + qt D 3 := by omega
      have ex : (Int64.toInt32 x).toInt = (x.toInt.toNat : Nat) := by
        rw [z_of64]
        omega
      have hft := hcf _ hlt'
      have bad : ∀ v3, vg v v3 → w_M_checkStart_L88 Qr mm r6 0 (mH h F mm v3) := fun v3 g3 => by
        unfold w_M_checkStart_L88 w_M_checkStart_L102
        exact ⟨fun h9 => absurd rfl h9, fun _ => ⟨k9, m_fail k9 (by decide) (fun v4 f1 f2 _ => hQ v4 (g3.fl f1) (fun h9 => absurd h9 f2))⟩⟩
      refine m_typeOf hX z2 h1 ex hlt' (by omega) (fun v3 r15 g3 z3 hr15 _ => m_parameters hX z3 h1 hr15 hft (fun v4 r17 k4 hr17 _ => ⟨fun _ => ?_, fun h17 => m_resultOf hX k4.2.2.2 h1 hr15 hft (fun v5 r20 g5 z5 _ _ => ⟨fun _ => ?_, fun _ => ?_⟩)⟩))
      · unfold w_M_checkStart_L87
        exact bad v4 (G2.tr (g3.tr k4.1))
      · unfold w_M_checkStart_L87
        exact bad v5 (G2.tr (g3.tr (k4.1.tr g5)))
      · unfold w_M_checkStart_L88 w_M_checkStart_L102
        refine ⟨fun _ => hQ v5 (G2.tr (g3.tr (k4.1.tr g5))) (fun _ _ => ?_), fun h9 => absurd h9 (by decide)⟩
        rw [ev]
        refine ⟨hlt', ?_⟩
        rw [z_eq, hr17] at h17
        simp only [Int32.reduceToInt] at h17
        omega
    · unfold w_M_checkStart_L102
      exact m_fail k9 (by decide) (fun v4 f1 f2 _ => hQ v4 ((k1.1.tr o2.vg).fl f1) (fun h9 => absurd h9 f2))
  · rw [z_eq, hr3] at h0
    simp only [Int32.reduceToInt] at h0
    omega
theorem m_checkRows {x1 : Int32} {Qr : xb_H → Prop} (hX : mX own mm A h F m D) (h1 : x1.toInt = m) (hz : v 17 = 0) (hQ : ∀ v2, vg v v2 → (v2 17 = 0 → (∀ k, k < qt D 9 → cvR D k) ∧ ∀ k, k < qt D 11 → cvD D k) → Qr (mH h F mm v2)) : w_M_checkRows mm x1 (mH h F mm v) Qr := by
  have bt := (hX.2.2.2.2.2.1 9 (by decide)).1
  have bt2 := (hX.2.2.2.2.2.1 11 (by decide)).1
  have hs := hX.rd
  have hE := hX.2.2.2.2.1
  have k9 := hX.1.2.1
  -- the second loop
  have key2 : ∀ (n k : Nat) (x2 : Int32) (v2 : Nat → Int32), vg v v2 → x2.toInt = k → k ≤ qt D 11 → qt D 11 - k ≤ n → (v2 17 = 0 → (∀ k, k < qt D 9 → cvR D k) ∧ ∀ j, j < k → cvD D j) → w_M_checkRows_L146 Qr (n + 1) mm x1 x2 (mH h F mm v2) := by
    intro n
    induction n with
    | zero =>
      intro k x2 v2 g1 e2 hk hn hc
      have ek : k = qt D 11 := by omega
      unfold w_M_checkRows_L146 w_M_checkRows_L216
      refine ⟨k9, m_manyOf (s := 11) hX h1 rfl (by decide) (fun r hr _ => ⟨fun _ => hQ v2 g1 (by rw [← ek]; exact hc), fun hle => ?_⟩)⟩
      rw [z_le, hr, e2] at hle
      omega
    | succ n ih =>
      intro k x2 v2 g1 e2 hk hn hc
      unfold w_M_checkRows_L146 w_M_checkRows_L216 w_M_checkRows_L210
      refine ⟨k9, m_manyOf (s := 11) hX h1 rfl (by decide) (fun r hr _ => ⟨fun hle => ?_, fun hle => ?_⟩)⟩
      · rw [z_le, hr, e2] at hle
        have ek : k = qt D 11 := by omega
        exact hQ v2 g1 (by rw [← ek]; exact hc)
      · rw [z_le, hr, e2] at hle
        rw [mH_i]
        refine ⟨fun hn0 => hQ v2 g1 (fun hz2 => absurd hz2 hn0), fun hz2 => ?_⟩
        obtain ⟨c1, q, ⟨p1, x, p2, p3, y, c2, c3, c4, c5⟩, c6⟩ := (hX.2.2.2.2.2.1 11 (by decide)).2 k (by omega)
        have hb := rC_b c2
        have hb4 := rC_b c4
        have hl3 := c3.1
        have e21 : (x2 + 1).toInt = (k + 1 : Nat) := z_inc e2 (by omega)
        refine m_placeOf (s := 11) hX h1 rfl (by decide) e2 (by omega) (fun r7 hr7 _ => m_go_k hX hz2 h1 hr7 c1 (by omega) (fun v3 k3 _ => m_count_k hs k3.2.2.1 k3.2.2.2 c2 (by omega) (fun v4 o4 z4 _ => m_total (κ := 2) hX h1 rfl (by decide) (fun r13 hr13 _ => ⟨fun hlt => ?_, fun _ => m_fail k9 (by decide) (fun v5 f1 f2 _ => ih (k + 1) (x2 + 1) v5 ((g1.tr (k3.1.tr o4.vg)).fl f1) e21 (by omega) (by omega) (fun h9 => absurd h9 f2))⟩))))
        have K4 := k3.go o4 z4
        rw [Z_lt, hr13, show (3 + 2 : Nat) = 5 from rfl] at hlt
        refine m_checkConstant (v := v) hX h1 ⟨g1.tr K4.1, K4.2⟩ c3 (by omega) (fun v5 g5 hok _ => ih (k + 1) (x2 + 1) v5 g5 e21 (by omega) (by omega) (fun hz5 => ⟨(hc hz2).1, fun j hj => ?_⟩))
        rcases Nat.lt_or_ge j k with h9 | h9
        · exact (hc hz2).2 j h9
        · rw [show j = k by omega]
          exact ⟨by omega, p2, by rw [(rC_E c2).1]; exact (hok hz5).2⟩
  have key : ∀ (n k : Nat) (x2 : Int32) (v2 : Nat → Int32), vg v v2 → x2.toInt = k → k ≤ qt D 9 → qt D 9 - k ≤ n → (v2 17 = 0 → ∀ j, j < k → cvR D j) → w_M_checkRows_L2 Qr (n + 1) mm x1 x2 (mH h F mm v2) := by
    have out : ∀ (v2 : Nat → Int32), vg v v2 → (v2 17 = 0 → ∀ j, j < qt D 9 → cvR D j) → w_M_checkRows_L144 Qr mm x1 (mH h F mm v2) := fun v2 g2 hc => by
      unfold w_M_checkRows_L144
      exact ⟨qt D 11 + 1, key2 (qt D 11) 0 0 v2 g2 rfl (by omega) (by omega) (fun hz2 => ⟨hc hz2, fun j hj => by omega⟩)⟩
    intro n
    induction n with
    | zero =>
      intro k x2 v2 g1 e2 hk hn hc
      have ek : k = qt D 9 := by omega
      unfold w_M_checkRows_L2
      refine ⟨k9, m_manyOf (s := 9) hX h1 rfl (by decide) (fun r hr _ => ⟨fun _ => out v2 g1 (by rw [← ek]; exact hc), fun hle => ?_⟩)⟩
      rw [z_le, hr, e2] at hle
      omega
    | succ n ih =>
      intro k x2 v2 g1 e2 hk hn hc
      unfold w_M_checkRows_L2
      refine ⟨k9, m_manyOf (s := 9) hX h1 rfl (by decide) (fun r hr _ => ⟨fun hle => ?_, fun hle => ?_⟩)⟩
      · rw [z_le, hr, e2] at hle
        have ek : k = qt D 9 := by omega
        exact out v2 g1 (by rw [← ek]; exact hc)
      · rw [z_le, hr, e2] at hle
        rw [mH_i]
        refine ⟨fun hn0 => out v2 g1 (fun hz2 => absurd hz2 hn0), fun hz2 => ?_⟩
        obtain ⟨c1, q, ⟨p1, x, p2, p3, L, c2, c3, c4, c5⟩, c6⟩ := (hX.2.2.2.2.2.1 9 (by decide)).2 k (by omega)
        have hb := rC_b c2
        have hb4 := rC_b c4
        have hb5 := cks_b c5
        have hl3 := c3.1
        have e21 : (x2 + 1).toInt = (k + 1 : Nat) := z_inc e2 (by omega)
        have nxt : ∀ v8 : Nat → Int32, vg v v8 → (v8 17 = 0 → cvR D k) → w_M_checkRows_L138 (w_M_checkRows_L2 Qr (n + 1)) Qr mm x1 x2 (mH h F mm v8) := fun v8 g8 hc8 => by
          unfold w_M_checkRows_L138
          refine ih (k + 1) (x2 + 1) v8 g8 e21 (by omega) (by omega) (fun hz8 j hj => ?_)
          rcases Nat.lt_or_ge j k with h9 | h9
          · exact hc hz2 j h9
          · rw [show j = k by omega]
            exact hc8 hz8
        have dead : ∀ v8 : Nat → Int32, vg v v8 → v8 17 ≠ 0 → w_M_checkRows_L66 (w_M_checkRows_L2 Qr (n + 1)) Qr mm x1 x2 (mH h F mm v8) := fun v8 g8 hn8 => by
          unfold w_M_checkRows_L66 w_M_checkRows_L81
          rw [mH_i]
          refine ⟨k9, fun _ => ⟨0 + 1, ?_⟩, fun h9 => absurd h9 hn8⟩
          unfold w_M_checkRows_L86
          exact ⟨fun _ => nxt v8 g8 (fun h9 => absurd h9 hn8), fun h9 => absurd (by decide) h9⟩
        refine m_placeOf (s := 9) hX h1 rfl (by decide) e2 (by omega) (fun r7 hr7 _ => m_go_k hX hz2 h1 hr7 c1 (by omega) (fun v3 k3 _ => m_count_k hs k3.2.2.1 k3.2.2.2 c2 (by omega) (fun v4 o4 z4 _ => m_total (κ := 1) hX h1 rfl (by decide) (fun r13 hr13 _ => ⟨fun hlt => ?_, fun _ => m_fail k9 (by decide) (fun v5 f1 f2 _ => dead v5 ((g1.tr (k3.1.tr o4.vg)).fl f1) f2)⟩))))
        have K4 := k3.go o4 z4
        rw [Z_lt, hr13, show (3 + 1 : Nat) = 4 from rfl] at hlt
        refine m_checkConstant (v := v) hX h1 ⟨g1.tr K4.1, K4.2⟩ c3 (by omega) (fun v5 g5 hok _ => ?_)
        by_cases hz5 : v5 17 = 0
        · obtain ⟨k5, kE⟩ := hok hz5
          unfold w_M_checkRows_L66
          rw [mH_i]
          refine ⟨k9, fun hn5 => absurd hz5 hn5, fun _ => m_count_k hs k5.2.2.1 k5.2.2.2 c4 (by omega) (fun v6 o6 z6 _ => ?_)⟩
          have K6 := k5.go o6 z6
          -- the functions
          have lp : ∀ (n2 j pj : Nat) (x6 : Int64) (v7 : Nat → Int32), vg v v7 → x6.toInt = j → j ≤ L.toInt.toNat → L.toInt.toNat - j ≤ n2 → cks (qc D) j p3 = some pj → (v7 17 = 0 → rdP v7 (qb D) pj (qe D) ∧ ∀ i, i < j → ∃ pi q x, cks (qc D) i p3 = some pi ∧ rC (qc D) pi = some (q, x) ∧ x.toInt < (iM D 0 + qt D 3 : Nat)) → w_M_checkRows_L86 (w_M_checkRows_L2 Qr (n + 1)) Qr (n2 + 1) mm x1 x2 L x6 (mH h F mm v7) := by
            have fin : ∀ v7 : Nat → Int32, vg v v7 → (v7 17 = 0 → cvE D p3 L.toInt.toNat) → w_M_checkRows_L138 (w_M_checkRows_L2 Qr (n + 1)) Qr mm x1 x2 (mH h F mm v7) := fun v7 g7 hc7 => nxt v7 g7 (fun hz7 => ⟨by omega, p2, p3, L, by rw [(rC_E c2).1]; exact kE, c4, hc7 hz7⟩)
            intro n2
            induction n2 with
            | zero =>
              intro j pj x6 v7 g7 e6 hj hn2 hcj hc7
              unfold w_M_checkRows_L86
              refine ⟨fun _ => fin v7 g7 (fun hz7 i hi => (hc7 hz7).2 i (by omega)), fun hle => ?_⟩
              rw [Z_le, e6] at hle
              omega
            | succ n2 ih2 =>
              intro j pj x6 v7 g7 e6 hj hn2 hcj hc7
              unfold w_M_checkRows_L86 w_M_checkRows_L129
              rw [mH_i]
              refine ⟨fun hle => fin v7 g7 (fun hz7 i hi => (hc7 hz7).2 i ?_), fun hle => ⟨k9, fun hn7 => fin v7 g7 (fun h9 => absurd h9 hn7), fun hz7 v4' e4' => ?_⟩⟩
              · rw [Z_le, e6] at hle
                omega
              · rw [Z_le, e6] at hle
                obtain ⟨P7, hall⟩ := hc7 hz7
                obtain ⟨pj', d1, d2⟩ := cks_pre c5 (show j ≤ L.toInt.toNat by omega)
                rw [hcj] at d1
                simp only [Option.some.injEq] at d1
                subst d1
                obtain ⟨i2, hi2⟩ : ∃ i2, L.toInt.toNat - j = i2 + 1 := ⟨L.toInt.toNat - j - 1, by omega⟩
                rw [hi2] at d2
                unfold cks at d2
                split at d2
                · rename_i qj xj hcj2
                  have hbj := rC_b hcj2
                  have hbq := cks_b d2
                  have e61 : (x6 + 1).toInt = (j + 1 : Nat) := by
                    rw [Int64.toInt_add, e6, show (1 : Int64).toInt = 1 from rfl, Int.bmod_eq_of_le (by omega) (by omega)]
                    omega
                  have hcj1 : cks (qc D) (j + 1) p3 = some qj := by
                    have : ∀ (k p q : Nat) (z : Nat × Int64), cks (qc D) k p = some q → rC (qc D) q = some z → cks (qc D) (k + 1) p = some z.1 := by
                      intro k
                      induction k with
                      | zero =>
                        intro p q z a1 a2
                        simp only [cks, Option.some.injEq] at a1
                        subst a1
                        show (match rC (qc D) p with | some (q, _) => cks (qc D) 0 q | none => none) = _
                        rw [a2]
                        rfl
                      | succ k ihk =>
                        intro p q z a1 a2
                        conv at a1 => unfold cks
                        split at a1
                        · rename_i a b e9
                          have := ihk a q z a1 a2
                          show (match rC (qc D) p with | some (q, _) => cks (qc D) (k + 1) q | none => none) = _
                          rw [e9]
                          exact this
                        · cases a1
                    exact this j p3 pj (qj, xj) hcj hcj2
                  refine m_count_k hs P7 hz7 hcj2 (by omega) (fun v8 o8 z8 _ => m_total (κ := 0) hX h1 rfl (by decide) (fun r8 hr8 _ => ⟨fun hlt8 v1 e1 => ?_, fun _ => m_fail k9 (by decide) (fun v9 f1 f2 _ v1 e1 => ?_)⟩))
                  · subst e1
                    refine ih2 (j + 1) qj _ v8 (g7.tr o8.vg) e61 (by omega) (by omega) hcj1 (fun _ => ⟨o8.P P7, fun i hi => ?_⟩)
                    rcases Nat.lt_or_ge i j with h9 | h9
                    · exact hall i h9
                    · rw [Z_lt, hr8] at hlt8
                      rw [show i = j by omega]
                      exact ⟨pj, qj, xj, hcj, hcj2, hlt8⟩
                  · subst e1
                    exact ih2 (j + 1) qj _ v9 ((g7.tr o8.vg).fl f1) e61 (by omega) (by omega) hcj1 (fun h9 => absurd h9 f2)
                · cases d2
          unfold w_M_checkRows_L81
          exact ⟨L.toInt.toNat + 1, lp L.toInt.toNat 0 p3 0 v6 K6.1 rfl (by omega) (by omega) rfl (fun _ => ⟨K6.2.2.1, fun i hi => by omega⟩)⟩
        · exact dead v5 g5 hz5
  unfold w_M_checkRows
  exact ⟨qt D 9 + 1, key (qt D 9) 0 0 v vg.rf rfl (by omega) (by omega) (fun _ j hj => by omega)⟩
end MK2

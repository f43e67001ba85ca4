-- the reference's checker in a body: instructions, part 3
section MK7
variable {own : Nat → Nat} {mm m : Nat} {A : Nat → Nat} {h : xb_H} {F F' F2 : Nat → Nat → Int32} {v v' v2 cb lo ν : Nat → Int32} {D : zM} {cur ex : List Int} {fs r : List ckF} {f : ckF} {g : Int} {t lcn q op : Nat} {lv : Bool} {Qr : xb_H → Prop}
theorem z_ofI {x : Int} (h0 : -1000000 ≤ x) (h1 : x ≤ 1000000) : (Int32.ofInt x).toInt = x := by
  have : Int32.size = 4294967296 := rfl
  rw [Int32.toInt_ofInt, this, Int.bmod_eq_of_le (by omega) (by omega)]
theorem m_label_k {x : Int64} {Qr : Int32 → xb_H → Prop} (hB : mB own mm A h) (hz : v 17 = 0) (hS : zS A F v cur fs g) (hfl : fs.length ≤ 201) (hx : 0 ≤ x.toInt ∧ x.toInt < fs.length)
    (hQ : ∀ (u : Int32) (f' : ckF), fs[x.toInt.toNat]? = some f' → u.toInt = fl_ f' → Qr u (mH h F mm v)) : w_M_label mm x (mH h F mm v) Qr := by
  obtain ⟨s1, s2, s3, s4, s5, s6, s7⟩ := id hS
  obtain ⟨a1, a2, a3, a4⟩ := hB.kx (k := 25) (kd := 102) (n := 202) (by decide) (by decide)
  unfold w_M_label w_M_label_L16 w_M_label_L47
  rw [mH_i]
  refine ⟨hB.2.1, fun hle => ?_, fun _ => ⟨hB.2.1, m_need hB.2.1 (by decide) (fun v' g1 g2 g3 _ => ⟨hB.2.1, ?_⟩)⟩⟩
  · rw [Z_le, Z_of32, s2] at hle
    omega
  · have ev := g3 (by decide)
    subst ev
    rw [mH_i]
    refine ⟨fun hn => absurd hz hn, fun _ => ?_⟩
    have e1 : (Int64.toInt32 x).toInt = x.toInt := by
      rw [z_of64]
      omega
    have e2 : (v' 29 - 1 - Int64.toInt32 x).toInt = (fs.length - 1 - x.toInt.toNat : Nat) := by
      have : (v' 29 - 1).toInt = (fs.length : Int) - 1 := by
        rw [z_sub, s2]
        simp only [Int32.reduceToInt]
        omega
      rw [z_sub, this, e1]
      omega
    refine ⟨A 25, a1, a2, ?_, ?_⟩
    · rw [z_in, e2]
      show _ ∧ _ < ((xb_n h (A 25) : Nat) : Int)
      omega
    · rw [mH_o a4, z_cl, e2, Int.toNat_natCast]
      have hi : x.toInt.toNat < fs.length := by omega
      obtain ⟨f', hf'⟩ : ∃ f', fs[x.toInt.toNat]? = some f' := ⟨fs[x.toInt.toNat], List.getElem?_eq_getElem hi⟩
      exact hQ _ f' hf' (s5.at hf').2
theorem cks_nx : ∀ {k p q : Nat} {z : Nat × Int64}, cks cb k p = some q → rC cb q = some z → cks cb (k + 1) p = some z.1
  | 0, p, q, z, a1, a2 => by
    simp only [cks, Option.some.injEq] at a1
    subst a1
    show (match rC cb p with | some (q, _) => cks cb 0 q | none => none) = _
    rw [a2]
    rfl
  | k + 1, p, q, z, a1, a2 => by
    conv at a1 => unfold cks
    split at a1
    · rename_i a b e9
      show (match rC cb p with | some (q, _) => cks cb (k + 1) q | none => none) = _
      rw [e9]
      exact cks_nx a1 a2
    · cases a1
theorem m_checkTable {q1 q' : Nat} {L : Int64} (ho : op = 14) (hz : v 17 = 0) (hp : rdP v (qb D) (q + 1) (qe D)) (hc : rC (qc D) (q + 1) = some (q1, L)) (hq : q' ≤ qe D) (hν : (ν (q + 1)).toBitVec.toNat = L.toBitVec.toNat)
    (hall : ∀ k, k ≤ L.toInt.toNat → ∃ pk q2 y, cks (qc D) k q1 = some pk ∧ rC (qc D) pk = some (q2, y) ∧ q2 ≤ qe D ∧ (ν (q + 2 + k)).toBitVec.toNat = y.toBitVec.toNat) (hLq : q + 2 + L.toInt.toNat < 100000) (hfa : ∀ y ∈ f :: r, -1 ≤ fa y ∧ fa y ≤ 100000)
    (hE : bE own mm A h F v m D t lcn lo cur ex f r g) (hQ : bQ A h F mm v D lo t lcn lv q op cur f r ν g Qr) : w_M_checkTable mm (mH h F mm v) Qr := by
  obtain ⟨⟨hX, hcf, hct, ht⟩, ⟨hS, hex, hl, hg, hfl, hty, hlb⟩, -⟩ := id hE
  have hB := hX.1
  have hs := hX.rd
  have hb := rC_b hc
  have hE2 := hX.2.2.2.2.1
  unfold w_M_checkTable
  refine ⟨hB.2.1, fun v2 e2 => m_count_k hs hp hz hc (by obtain ⟨pk, q2, y, a1, a2, a3, -⟩ := hall 0 (by omega); simp only [cks, Option.some.injEq] at a1; have := rC_b a2; omega) (fun v3 o3 z3 _ => ?_)⟩
  rw [mH_i] at e2
  have e2' : v2.toInt = (q + 1 : Nat) := by rw [e2]; exact hp.1
  -- the second loop: all labels are of one type
  have L87 : ∀ (lab : Int32) (n k : Nat) (x5 : Int32) (x6 : Int64) (v4 : Nat → Int32) (pk : Nat), bv v v4 → zS A F v4 cur (f :: r) g → v4 17 = 0 → x6.toInt = k → 1 ≤ k → k ≤ L.toInt.toNat + 1 → L.toInt.toNat + 1 - k ≤ n → (k ≤ L.toInt.toNat → cks (qc D) k q1 = some pk) → rdP v4 (qb D) pk (qe D) → tyl lab.toInt →
      (∀ j, j ≤ L.toInt.toNat → ∃ pj q2 y, cks (qc D) j q1 = some pj ∧ rC (qc D) pj = some (q2, y) ∧ q2 ≤ qe D ∧ y.toInt < ((f :: r).length : Nat)) →
      (x5 ≠ 0 → ∀ j, j < k → ∃ pj q2 y f', cks (qc D) j q1 = some pj ∧ rC (qc D) pj = some (q2, y) ∧ (f :: r)[y.toInt.toNat]? = some f' ∧ fl_ f' = lab.toInt) → w_M_checkTable_L87 Qr (n + 1) mm L lab x5 x6 (mH h F mm v4) := by
    intro lab n
    -- the end
    have fin : ∀ (x5 : Int32) (v4 : Nat → Int32), bv v v4 → zS A F v4 cur (f :: r) g → tyl lab.toInt → (x5 ≠ 0 → ∀ j, j ≤ L.toInt.toNat → ∃ pj q2 y f', cks (qc D) j q1 = some pj ∧ rC (qc D) pj = some (q2, y) ∧ (f :: r)[y.toInt.toNat]? = some f' ∧ fl_ f' = lab.toInt) → xb_k (mH h F mm v4) mm = 9 ∧ w_M_need mm x5 21 (mH h F mm v4) (fun h3 => xb_ext (mH h F mm v4) h3 → w_M_take mm 127 h3 (fun r6 h5 => xb_ext h3 h5 → w_M_takeResult mm lab h5 (fun h7 => xb_ext h5 h7 → w_M_dead mm h7 (fun h9 => xb_ext h7 h9 → Qr h9)))) := by
      intro x5 v4 g1 g2 hlab hsame
      refine ⟨hB.2.1, m_need hB.2.1 (by decide) (fun v5 n1 n2 n3 _ => m_take hB (g2.n2 n1) hex (by omega) hfl (by decide) (fun u6 v6 c6 e6 a1 a2 a3 a4 a5 _ a7 _ => m_takeResult hB a2 a3 (by omega) hfl (fun rr v7 c7 e7 b1 b2 b3 b4 b5 b6 _ => m_dead hB b2 b3 hfl (fun v8 w d1 d2 _ => ?_))))⟩
      obtain ⟨νx, hνx⟩ : ∃ νx : Nat → Int32, ∀ j, νx j = if q + 2 ≤ j ∧ j ≤ q + 2 + L.toInt.toNat then (match (f :: r)[(ν j).toInt.toNat]? with | some f' => Int32.ofInt (fa f') | none => 0) else ν j := ⟨_, fun _ => rfl⟩
      refine hQ v8 _ (fb f) (fdie f :: r) νx g (g1.tr ((bv.n2 n1).tr ((bv.t3 a1).tr ((bv.t3 b1).tr (fun j _ _ _ _ _ j6 _ _ => d1 j j6))))) (bF.up (by decide)) (fun hz8 => ?_)
      rw [d1 17 (by decide)] at hz8
      obtain ⟨z6, t7⟩ := b6 hz8
      obtain ⟨z5, t6⟩ := a7 z6
      obtain ⟨z4, ns⟩ := n2 z5
      have hs5 := hsame ns
      refine ⟨d2, KS_7 (by omega) ⟨L.toInt.toNat, lab.toInt, c6, c7, u6.toInt, rr, nt_i hν (by omega) (by omega), fun j hj => ?_, fun k hk => ?_, t6, t7, rfl, rfl, rfl⟩, fun _ => ?_⟩
      · rw [hνx, if_neg (by omega)]
      · obtain ⟨pk, q2, y, k1, k2, k3, k4⟩ := hall k hk
        obtain ⟨pj, q3, y', f', j1, j2, j3, j4⟩ := hs5 k hk
        rw [k1] at j1
        simp only [Option.some.injEq] at j1
        subst j1
        obtain ⟨-, ey⟩ := rC_in k2 j2
        subst ey
        have hby := rC_b k2
        have hi : y.toInt.toNat < (f :: r).length := (List.getElem?_eq_some_iff.mp j3).1
        have ei : (ν (q + 2 + k)).toInt = (y.toInt.toNat : Nat) := nt_i k4 (by omega) (by omega)
        refine ⟨y.toInt.toNat, f', ei, j3, ?_, j4⟩
        rw [hνx, if_pos (by omega), ei, Int.toNat_natCast, j3]
        have := hfa f' (List.mem_of_getElem? j3)
        exact z_ofI (by omega) (by omega)
      · rw [hνx, if_neg (by omega)]
    induction n with
    | zero =>
      intro k x5 x6 v4 pk g1 g2 z4 e6 k1 k2 k3 k4 P4 hlab hin hsame
      unfold w_M_checkTable_L87
      refine ⟨fun _ => fin x5 v4 g1 g2 hlab (fun ns j hj => hsame ns j (by omega)), fun hlt => ?_⟩
      rw [Z_lt, e6] at hlt
      omega
    | succ n ih =>
      intro k x5 x6 v4 pk g1 g2 z4 e6 k1 k2 k3 k4 P4 hlab hin hsame
      unfold w_M_checkTable_L87
      refine ⟨fun hlt => fin x5 v4 g1 g2 hlab (fun ns j hj => hsame ns j ?_), fun hlt => ⟨hB.2.1, ?_⟩⟩
      · rw [Z_lt, e6] at hlt
        omega
      · rw [Z_lt, e6] at hlt
        have hkL : k ≤ L.toInt.toNat := by omega
        obtain ⟨pj, q2, y, j1, j2, j3, j4⟩ := hin k hkL
        rw [k4 hkL] at j1
        simp only [Option.some.injEq] at j1
        subst j1
        have hby := rC_b j2
        refine m_count_k hs P4 z4 j2 j3 (fun v5 o5 z5 _ => m_label_k hB z5 (g2.vg o5.vg) hfl (by omega) (fun u f' hf' hu _ => ?_))
        have e61 : (x6 + 1).toInt = (k + 1 : Nat) := by
          rw [Int64.toInt_add, e6, show (1 : Int64).toInt = 1 from rfl, Int.bmod_eq_of_le (by omega) (by omega)]
          omega
        have nx : ∀ y0 : Int32, (y0 ≠ 0 → x5 ≠ 0 ∧ u = lab) → w_M_checkTable_L117 (w_M_checkTable_L87 Qr (n + 1)) Qr mm L lab x6 y0 (mH h F mm v5) := fun y0 hy0 => by
          unfold w_M_checkTable_L117
          intro v1 e1
          subst e1
          refine ih (k + 1) y0 _ v5 q2 (g1.tr o5.vg.bv) (g2.vg o5.vg) z5 e61 (by omega) (by omega) (by omega) (fun _ => cks_nx (k4 hkL) j2) (o5.P P4) hlab hin (fun ny j hj => ?_)
          obtain ⟨nx5, eu⟩ := hy0 ny
          rcases Nat.lt_or_ge j k with h9 | h9
          · exact hsame nx5 j h9
          · rw [show j = k by omega]
            exact ⟨pk, q2, y, f', k4 hkL, j2, hf', by rw [← hu, eu]⟩
        unfold w_M_checkTable_L116
        exact ⟨fun _ => nx 0 (fun h9 => absurd rfl h9), fun eu => ⟨fun _ => nx 0 (fun h9 => absurd rfl h9), fun nx5 => nx 1 (fun _ => ⟨nx5, eu⟩)⟩⟩
  -- the first loop: all labels are there
  have key : ∀ (n k : Nat) (x4 : Int64) (v4 : Nat → Int32) (pk : Nat), vg v v4 → v4 17 = 0 → x4.toInt = k → k ≤ L.toInt.toNat + 1 → L.toInt.toNat + 1 - k ≤ n → (k ≤ L.toInt.toNat → cks (qc D) k q1 = some pk) → rdP v4 (qb D) pk (qe D) → (v4 14).toInt = qb D ∨ True → (∀ j, j < k → ∃ pj q2 y, cks (qc D) j q1 = some pj ∧ rC (qc D) pj = some (q2, y) ∧ q2 ≤ qe D ∧ y.toInt < ((f :: r).length : Nat)) → w_M_checkTable_L13 Qr (n + 1) mm v2 L x4 (mH h F mm v4) := by
    have go2 : ∀ v4 : Nat → Int32, vg v v4 → v4 17 = 0 → (∃ p4, rdP v4 (qb D) p4 (qe D)) → (∀ j, j ≤ L.toInt.toNat → ∃ pj q2 y, cks (qc D) j q1 = some pj ∧ rC (qc D) pj = some (q2, y) ∧ q2 ≤ qe D ∧ y.toInt < ((f :: r).length : Nat)) → xb_k (mH h F mm v4) mm = 9 ∧ ∀ h3 : xb_H, h3 = xb_I (mH h F mm v4) mm 15 v2 → w_M_count mm h3 (fun r5 h4 => xb_ext h3 h4 → w_M_count mm h4 (fun r7 h6 => xb_ext h4 h6 → w_M_label mm r7 h6 (fun r9 h8 => xb_ext h6 h8 → (∃ n8 : Nat, w_M_checkTable_L87 Qr n8 mm r5 r9 1 1 h8)))) := by
      intro v4 g4 z4 ⟨p4, P4⟩ hin
      refine ⟨hB.2.1, fun h3 e3 => ?_⟩
      rw [mH_I] at e3
      subst e3
      obtain ⟨pj, q2, y, j1, j2, j3, j4⟩ := hin 0 (by omega)
      simp only [cks, Option.some.injEq] at j1
      subst j1
      have hby := rC_b j2
      obtain ⟨w, hw⟩ : ∃ w : Nat → Int32, w = va_up v4 15 v2 := ⟨_, rfl⟩
      rw [← hw]
      have wj : ∀ j, j ≠ 15 → w j = v4 j := fun j hj => by rw [hw, xh_up, if_neg hj]
      have Pw : rdP w (qb D) (q + 1) (qe D) := ⟨by rw [hw, xh_up, if_pos rfl]; exact e2', by rw [wj 16 (by decide)]; exact P4.2.1, hp.2.2.1, hp.2.2.2⟩
      have Gw : vg v w := fun j a b c d e => by rw [wj j b]; exact g4 j a b c d e
      have Zw : w 17 = 0 := by rw [wj 17 (by decide)]; exact z4
      refine m_count_k hs Pw Zw hc (by omega) (fun v5 o5 z5 _ => m_count_k hs (o5.P Pw) z5 j2 j3 (fun v6 o6 z6 _ => ?_))
      have G6 := Gw.tr (o5.tr o6).vg
      refine m_label_k hB z6 (hS.vg G6) hfl (by omega) (fun u f' hf' hu _ => ⟨L.toInt.toNat + 1, L87 u L.toInt.toNat 1 1 1 v6 q2 G6.bv (hS.vg G6) z6 rfl (by omega) (by omega) (by omega) (fun h1 => cks_nx (k := 0) rfl j2) ((o5.tr o6).P Pw) ?_ hin (fun _ j hj => ?_)⟩)
      · rw [hu]
        exact (hlb f' (List.mem_of_getElem? hf')).1
      · rw [show j = 0 by omega]
        exact ⟨q1, q2, y, f', rfl, j2, hf', hu.symm⟩
    intro n
    induction n with
    | zero =>
      intro k x4 v4 pk g4 z4 e4 k1 k2 k3 P4 _ hin
      unfold w_M_checkTable_L13
      refine ⟨fun _ => go2 v4 g4 z4 ⟨pk, P4⟩ (fun j hj => hin j (by omega)), fun hlt => ?_⟩
      rw [Z_lt, e4] at hlt
      omega
    | succ n ih =>
      intro k x4 v4 pk g4 z4 e4 k1 k2 k3 P4 _ hin
      unfold w_M_checkTable_L13
      refine ⟨fun hlt => go2 v4 g4 z4 ⟨pk, P4⟩ (fun j hj => hin j ?_), fun hlt => ⟨hB.2.1, ?_⟩⟩
      · rw [Z_lt, e4] at hlt
        omega
      · rw [Z_lt, e4] at hlt
        have hkL : k ≤ L.toInt.toNat := by omega
        obtain ⟨pj, q2, y, j1, j2, j3, -⟩ := hall k hkL
        rw [k3 hkL] at j1
        simp only [Option.some.injEq] at j1
        subst j1
        have hby := rC_b j2
        have e41 : (x4 + 1).toInt = (k + 1 : Nat) := by
          rw [Int64.toInt_add, e4, show (1 : Int64).toInt = 1 from rfl, Int.bmod_eq_of_le (by omega) (by omega)]
          omega
        refine m_count_k hs P4 z4 j2 j3 (fun v5 o5 z5 _ => ?_)
        have G5 := g4.tr o5.vg
        have L39 : ∀ y0 : Int32, (y0 ≠ 0 → y.toInt < ((f :: r).length : Nat)) → w_M_checkTable_L39 (w_M_checkTable_L13 Qr (n + 1)) Qr mm v2 L x4 y0 mm (mH h F mm v5) := fun y0 hy => by
          unfold w_M_checkTable_L39
          refine ⟨hB.2.1, m_need hB.2.1 (by decide) (fun v6 n1 n2 n3 _ => ⟨hB.2.1, ?_⟩)⟩
          rw [mH_i]
          refine ⟨fun hz6 v7 e7 => ?_, fun hn => hQ.d (G5.bv.tr (bv.n2 n1)) bF.rf hn⟩
          subst e7
          have ny := (n2 hz6).2
          have e9 := n3 ny
          subst e9
          refine ih (k + 1) _ v6 q2 G5 z5 e41 (by omega) (by omega) (fun _ => cks_nx (k3 hkL) j2) (o5.P P4) (.inr trivial) (fun j hj => ?_)
          rcases Nat.lt_or_ge j k with h9 | h9
          · exact hin j h9
          · rw [show j = k by omega]
            exact ⟨pk, q2, y, k3 hkL, j2, j3, hy ny⟩
        rw [mH_i]
        refine ⟨fun _ => L39 0 (fun h9 => absurd rfl h9), fun hle => L39 1 (fun _ => ?_)⟩
        have e29 : (v5 29).toInt = (f :: r).length := by
          rw [G5 29 (by decide) (by decide) (by decide) (by decide) (by decide)]
          exact hS.2.1
        rw [Z_le, Z_of32, e29] at hle
        omega
  exact ⟨L.toInt.toNat + 1 + 1, key (L.toInt.toNat + 1) 0 0 v3 q1 o3.vg z3 rfl (by omega) (by omega) (fun _ => rfl) (o3.P hp) (.inr trivial) (fun j hj => by omega)⟩
end MK7

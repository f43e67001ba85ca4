-- the reference: locals of a body
/-- the types of the locals, group by group -/
def lgf (cb : Nat → Int32) : Nat → Nat → List Int
  | 0, _ => []
  | k + 1, p => List.replicate (cV cb p) (ub cb (cE cb p)).toInt ++ lgf cb k (cE cb p + 1)
/-- a local's type: parameters first -/
def lty (D : zM) (t gs p i : Nat) : Int := if i < tPn D t then (qc D (tPa D t + i)).toInt else (lgf (qc D) gs p).getD (i - tPn D t) 0
section MK9
variable {own : Nat → Nat} {mm m : Nat} {A : Nat → Nat} {h : xb_H} {F F' F2 : Nat → Nat → Int32} {v v' v2 cb : Nat → Int32} {D : zM} {t p q gs T : Nat}
theorem lgf_s {k : Nat} : lgf cb (k + 1) p = List.replicate (cV cb p) (ub cb (cE cb p)).toInt ++ lgf cb k (cE cb p + 1) := rfl
theorem lgs_l : ∀ {k p q T : Nat}, lgs cb k p q T → (lgf cb k p).length = T ∧ p + 2 * k ≤ q
  | 0, p, q, T, hl => by
    obtain ⟨h1, h2⟩ := hl
    exact ⟨by rw [h2]; rfl, by omega⟩
  | k + 1, p, q, T, hl => by
    obtain ⟨p1, n, T', h1, h2, h3, h4⟩ := hl
    obtain ⟨e1, e2⟩ := rC_E h1
    obtain ⟨g1, g2⟩ := lgs_l h3
    have := rC_b h1
    unfold lgf
    rw [List.length_append, List.length_replicate, e1, e2, g1]
    exact ⟨by omega, by omega⟩
/-- numbers that reading locals may change -/
def v20 (v v' : Nat → Int32) : Prop := ∀ j, j ≠ 14 → j ≠ 15 → j ≠ 16 → j ≠ 17 → j ≠ 18 → j ≠ 20 → v' j = v j
theorem mX.u19 (hX : mX own mm A h F m D) {w : Nat → Int32} : mX own mm A h (va_up F (A 19) w) m D := hX.up (fun k hk => by
  have : ∀ k, k ∈ [3, 6, 7, 8, 9, 10, 11] → (∃ e ∈ aL, e.1 = k) ∧ k ≠ 19 := by decide
  exact hX.1.ne (this k hk).1 (by decide) (this k hk).2)
theorem getD_app {a b : List Int} {j : Nat} (h : a.length ≤ j) : (a ++ b).getD j 0 = b.getD (j - a.length) 0 := by
  simp only [List.getD_eq_getElem?_getD, List.getElem?_append_right h]
theorem getD_rep {n j : Nat} {x : Int} {b : List Int} (h : j < n) : (List.replicate n x ++ b).getD j 0 = x := by
  simp only [List.getD_eq_getElem?_getD, List.getElem?_append_left (show j < (List.replicate n x).length by rw [List.length_replicate]; exact h), List.getElem?_replicate, if_pos h, Option.getD_some]
theorem m_readLocals {x1 x2 : Int32} {q0 : Nat} {gg : Int64} {Qr : xb_H → Prop} (hX : mX own mm A h F m D) (h1 : x1.toInt = m) (h2 : x2.toInt = t) (ht : t < qt D 1) (hz : v 17 = 0) (hp : rdP v (qb D) q0 (qe D)) (hc : rC (qc D) q0 = some (p, gg)) (hg : gg.toInt.toNat = gs) (hl : lgs (qc D) gs p q T) (hq : q ≤ qe D) (hT : T ≤ 1000)
    (hQ : ∀ (v' w : Nat → Int32), v20 v v' → vk v' v' D q → (v' 20).toInt = (tPn D t + T : Nat) → (∀ i, i < tPn D t + T → (w i).toInt = lty D t gs p i ∧ 124 ≤ (w i).toInt ∧ (w i).toInt ≤ 127) → Qr (mH h (va_up F (A 19) w) mm v')) : w_M_readLocals mm x1 x2 (mH h F mm v) Qr := by
  have hB := hX.1
  obtain ⟨T1, T2, -, -, -, -⟩ := hX.2.2.tb ht
  obtain ⟨n, p2', k', c1, c2, c3, c4, c5, c6, c7, c8, c9, c10, c11⟩ := hX.2.2.ty ht
  obtain ⟨a1, a2, a3, a4⟩ := hB.kx (k := 19) (kd := 100) (n := 70000) (by decide) (by decide)
  have hE2 := hX.2.2.2.2.1
  obtain ⟨hll, hlq⟩ := lgs_l hl
  have hbc := rC_b hc
  -- groups
  have L64 : ∀ (k pp TT : Nat) (x4 x6 : Int64) (v1 w : Nat → Int32), x4.toInt = gs → x6.toInt + k = gs → 0 ≤ x6.toInt → lgs (qc D) k pp q TT → v20 v v1 → vk v1 v1 D pp → (v1 20).toInt = (tPn D t + (T - TT) : Nat) → TT ≤ T → (∀ i, i < tPn D t + (T - TT) → (w i).toInt = lty D t gs p i ∧ 124 ≤ (w i).toInt ∧ (w i).toInt ≤ 127) → (∀ j, j < TT → (lgf (qc D) gs p).getD (T - TT + j) 0 = (lgf (qc D) k pp).getD j 0) → w_M_readLocals_L64 Qr (k + 1) mm x4 x6 (mH h (va_up F (A 19) w) mm v1) := by
    intro k
    induction k with
    | zero =>
      intro pp TT x4 x6 v1 w e4 e6 p6 hl1 g1 g2 g3 g4 g5 g6
      obtain ⟨h3, h4⟩ := hl1
      subst h3 h4
      unfold w_M_readLocals_L64
      refine ⟨fun _ => hQ v1 w g1 g2 (by rw [g3]; rfl) (fun i hi => g5 i (by omega)), fun hle => ?_⟩
      rw [Z_le, e4] at hle
      omega
    | succ k ih =>
      intro pp TT x4 x6 v1 w e4 e6 p6 hl1 g1 g2 g3 g4 g5 g6
      obtain ⟨p1, nn, T', h3, h4, h5, h6⟩ := hl1
      have hb3 := rC_b h3
      obtain ⟨E1, E2⟩ := rC_E h3
      obtain ⟨hl5, hlq5⟩ := lgs_l h5
      obtain ⟨u1, u2, u3⟩ := ub_ty (hX.2.2.1 p1) h4.1 h4.2
      unfold w_M_readLocals_L64
      refine ⟨fun hle => ?_, fun hle => ⟨hB.2.1, m_count_k hX.u19.rd g2.2.2.1 g2.2.2.2 h3 (by omega) (fun v2 o2 z2 _ => m_next_k hX.u19.rd (o2.P g2.2.2.1) z2 (by omega) (fun v3 o3 z3 _ => ?_))⟩⟩
      · rw [Z_le, e4] at hle
        omega
      have K3 : vk v3 v3 D (p1 + 1) := ⟨vg.rf, by rw [(o2.tr o3).1 14 (by decide) (by decide) (by decide)]; exact g2.2.1, (o2.tr o3).P g2.2.2.1, z3⟩
      have G3 : v20 v v3 := fun j j1 j2 j3 j4 j5 j6 => by rw [(o2.tr o3).1 j j2 j4 j5]; exact g1 j j1 j2 j3 j4 j5 j6
      have e20 : (v3 20).toInt = (tPn D t + (T - TT) : Nat) := by rw [(o2.tr o3).1 20 (by decide) (by decide) (by decide)]; exact g3
      -- one group's locals
      have L87 : ∀ (n9 i : Nat) (x11 : Int64) (v4 w4 : Nat → Int32), x11.toInt = i → i ≤ nn.toInt.toNat → nn.toInt.toNat - i ≤ n9 → v20 v v4 → vk v4 v4 D (p1 + 1) → (v4 20).toInt = (tPn D t + (T - TT) + i : Nat) → (∀ j, j < tPn D t + (T - TT) + i → (w4 j).toInt = lty D t gs p j ∧ 124 ≤ (w4 j).toInt ∧ (w4 j).toInt ≤ 127) → w_M_readLocals_L87 (w_M_readLocals_L64 Qr (k + 1)) Qr (n9 + 1) mm x4 x6 nn (ub (qc D) p1) x11 (mH h (va_up F (A 19) w4) mm v4) := by
        have out : ∀ (v4 w4 : Nat → Int32), v20 v v4 → vk v4 v4 D (p1 + 1) → (v4 20).toInt = (tPn D t + (T - TT) + nn.toInt.toNat : Nat) → (∀ j, j < tPn D t + (T - TT) + nn.toInt.toNat → (w4 j).toInt = lty D t gs p j ∧ 124 ≤ (w4 j).toInt ∧ (w4 j).toInt ≤ 127) → w_M_readLocals_L64 Qr (k + 1) mm x4 (x6 + 1) (mH h (va_up F (A 19) w4) mm v4) := by
          intro v4 w4 d1 d2 d3 d4
          have e61 : (x6 + 1).toInt = x6.toInt + 1 := by
            rw [Int64.toInt_add, show (1 : Int64).toInt = 1 from rfl, Int.bmod_eq_of_le (by omega) (by omega)]
          refine ih (p1 + 1) T' x4 (x6 + 1) v4 w4 e4 (by omega) (by omega) h5 d1 d2 (by rw [d3]; congr 1; omega) (by omega) (fun i hi => d4 i (by omega)) (fun j hj => ?_)
          have := g6 (nn.toInt.toNat + j) (by omega)
          rw [show T - TT + (nn.toInt.toNat + j) = T - T' + j by omega] at this
          rw [this, lgf_s, E1, E2, getD_app (by rw [List.length_replicate]; omega), List.length_replicate, show nn.toInt.toNat + j - nn.toInt.toNat = j by omega]
        intro n9
        induction n9 with
        | zero =>
          intro i x11 v4 w4 e11 i1 i2 d1 d2 d3 d4
          unfold w_M_readLocals_L87
          refine ⟨fun _ v5 e5 => ?_, fun hle9 => ?_⟩
          · subst e5
            exact out v4 w4 d1 d2 (by rw [d3]; congr 1; omega) (fun j hj => d4 j (by omega))
          · rw [Z_le, e11] at hle9
            omega
        | succ n9 ih9 =>
          intro i x11 v4 w4 e11 i1 i2 d1 d2 d3 d4
          unfold w_M_readLocals_L87
          refine ⟨fun hle9 v5 e5 => ?_, fun hle9 => ⟨hB.2.1, A 19, a1, a2, ?_, fun h7 e7 h8 e8 v9 e9 => ?_⟩⟩
          · subst e5
            rw [Z_le, e11] at hle9
            exact out v4 w4 d1 d2 (by rw [d3]; congr 1; omega) (fun j hj => d4 j (by omega))
          · rw [mH_i, z_in, d3]
            show _ ∧ _ < ((xb_n h (A 19) : Nat) : Int)
            omega
          · rw [Z_le, e11] at hle9
            rw [mH_i, mH_AA a4, z_cl, d3, Int.toNat_natCast] at e7
            subst e7
            rw [mH_i, mH_I] at e8
            subst e8
            subst e9
            have e111 : (x11 + 1).toInt = (i + 1 : Nat) := by
              rw [Int64.toInt_add, e11, show (1 : Int64).toInt = 1 from rfl, Int.bmod_eq_of_le (by omega) (by omega)]
              omega
            have eT : (vp_nar .byte ((Int32.toInt8 (ub (qc D) p1)).toInt32)).toInt = (qc D p1).toInt := by
              rw [z_i8 (by rw [u1]; omega) (by rw [u1]; omega), u1]
            have hbd : tPn D t + (T - TT) + i ≤ 1000000 := by omega
            refine ih9 (i + 1) _ _ _ e111 (by omega) (by omega) (fun j j1 j2 j3 j4 j5 j6 => by rw [xh_up, if_neg j6]; exact d1 j j1 j2 j3 j4 j5 j6) ⟨vg.rf, by rw [xh_up, if_neg (by decide)]; exact d2.2.1, ⟨by rw [xh_up, if_neg (by decide)]; exact d2.2.2.1.1, by rw [xh_up, if_neg (by decide)]; exact d2.2.2.1.2.1, d2.2.2.1.2.2⟩, by rw [xh_up, if_neg (by decide)]; exact d2.2.2.2⟩ (by rw [xh_up, if_pos rfl]; exact z_inc d3 hbd) (fun j hj => ?_)
            rw [xh_up]
            split
            · rename_i ej
              rw [eT]
              refine ⟨?_, u2, u3⟩
              unfold lty
              rw [if_neg (by omega), ej, show tPn D t + (T - TT) + i - tPn D t = T - TT + i by omega, g6 i (by omega), lgf_s, E1, E2, getD_rep (by omega), u1]
            · exact d4 j (by omega)
      exact ⟨nn.toInt.toNat + 1, L87 nn.toInt.toNat 0 0 v3 w rfl (by omega) (by omega) G3 K3 (by rw [e20]; rfl) (fun j hj => g5 j (by omega))⟩
  -- parameters
  unfold w_M_readLocals
  refine ⟨hB.2.1, fun v2 e2 => m_parameters hX hz h1 h2 ht (fun v3 r4 k3 e4 _ h5 e5 => ⟨tPn D t + 1, ?_⟩)⟩
  rw [mH_i] at e2
  have e2' : v2.toInt = q0 := by rw [e2]; exact hp.1
  rw [mH_I] at e5
  subst e5
  have key : ∀ (n9 k : Nat) (x4 : Int32) (v4 w4 : Nat → Int32), x4.toInt = k → k ≤ tPn D t → tPn D t - k ≤ n9 → v20 v v4 → v4 17 = 0 → (v4 20).toInt = tPn D t → (∀ j, j < k → (w4 j).toInt = lty D t gs p j ∧ 124 ≤ (w4 j).toInt ∧ (w4 j).toInt ≤ 127) → w_M_readLocals_L18 Qr (n9 + 1) mm x1 x2 v2 x4 (mH h (va_up F (A 19) w4) mm v4) := by
    have out : ∀ (v4 w4 : Nat → Int32), v20 v v4 → v4 17 = 0 → (v4 20).toInt = tPn D t → (∀ j, j < tPn D t → (w4 j).toInt = lty D t gs p j ∧ 124 ≤ (w4 j).toInt ∧ (w4 j).toInt ≤ 127) → w_M_go mm x1 v2 (mH h (va_up F (A 19) w4) mm v4) (fun h3 => xb_ext (mH h (va_up F (A 19) w4) mm v4) h3 → w_M_count mm h3 (fun r6 h5 => xb_ext h3 h5 → (∃ n8 : Nat, w_M_readLocals_L64 Qr n8 mm r6 0 h5))) := by
      intro v4 w4 d1 d2 d3 d4
      refine m_go_k hX.u19 d2 h1 e2' hp.2.2.1 hp.2.2.2 (fun v5 k5 _ => m_count_k hX.u19.rd k5.2.2.1 k5.2.2.2 hc (by omega) (fun v6 o6 z6 _ => ⟨gs + 1, L64 gs p T gg 0 v6 w4 (by omega) (by rw [show (0 : Int64).toInt = 0 from rfl]; omega) (by decide) hl ?_ ?_ ?_ (Nat.le_refl _) (fun i hi => d4 i (by omega)) (fun j hj => by rw [show T - T + j = j by omega])⟩))
      · exact fun j j1 j2 j3 j4 j5 j6 => by rw [o6.1 j j2 j4 j5, k5.1 j j1 j2 j3 j4 j5]; exact d1 j j1 j2 j3 j4 j5 j6
      · exact ⟨vg.rf, by rw [o6.1 14 (by decide) (by decide) (by decide)]; exact k5.2.1, o6.P k5.2.2.1, z6⟩
      · rw [o6.1 20 (by decide) (by decide) (by decide), k5.1 20 (by decide) (by decide) (by decide) (by decide) (by decide), d3]
        congr 1
        omega
    intro n9
    induction n9 with
    | zero =>
      intro k x4 v4 w4 e4' i1 i2 d1 d2 d3 d4
      unfold w_M_readLocals_L18
      rw [mH_i]
      refine ⟨hB.2.1, fun _ => out v4 w4 d1 d2 d3 (fun j hj => d4 j (by omega)), fun hle => ?_⟩
      rw [z_le, d3, e4'] at hle
      omega
    | succ n9 ih9 =>
      intro k x4 v4 w4 e4' i1 i2 d1 d2 d3 d4
      unfold w_M_readLocals_L18
      rw [mH_i]
      refine ⟨hB.2.1, fun hle => ?_, fun hle => ⟨A 19, a1, ?_⟩⟩
      · rw [z_le, d3, e4'] at hle
        exact out v4 w4 d1 d2 d3 (fun j hj => d4 j (by omega))
      · rw [z_le, d3, e4'] at hle
        refine m_parameter (k := k) hX.u19 d2 h1 h2 ht e4' (fun v5 r9 k5 u1 _ _ => ⟨a2, ?_, fun h12 e12 => ?_⟩)
        · rw [z_in, e4']
          show _ ∧ _ < ((xb_n h (A 19) : Nat) : Int)
          omega
        · rw [mH_AA a4, z_cl, e4', Int.toNat_natCast] at e12
          subst e12
          have hty := c3 (tPa D t + k) (by omega) (by omega)
          obtain ⟨y1, y2, y3⟩ := ub_ty (hX.2.2.1 _) hty.1 hty.2
          have eT : (vp_nar .byte ((Int32.toInt8 r9).toInt32)).toInt = (qc D (tPa D t + k)).toInt := by
            rw [u1 (by omega), z_i8 (by rw [y1]; omega) (by rw [y1]; omega), y1]
          refine ih9 (k + 1) (x4 + 1) v5 _ (z_inc e4' (by omega)) (by omega) (by omega) (fun j j1 j2 j3 j4 j5 j6 => by rw [k5.1 j j1 j2 j3 j4 j5]; exact d1 j j1 j2 j3 j4 j5 j6) k5.2.2.2 (by rw [k5.1 20 (by decide) (by decide) (by decide) (by decide) (by decide)]; exact d3) (fun j hj => ?_)
          rw [xh_up]
          split
          · rename_i ej
            rw [eT, ej]
            refine ⟨?_, y2, y3⟩
            unfold lty
            rw [if_pos (by omega)]
          · exact d4 j (by omega)
  have hid : mH h F mm (va_up v3 20 r4) = mH h (va_up F (A 19) (F (A 19))) mm (va_up v3 20 r4) := by rw [va_id]
  rw [hid]
  exact key (tPn D t) 0 0 _ _ rfl (by omega) (by omega) (fun j j1 j2 j3 j4 j5 j6 => by rw [xh_up, if_neg j6]; exact k3.1 j j1 j2 j3 j4 j5) (by rw [xh_up, if_neg (by decide)]; exact k3.2.2.2) (by rw [xh_up, if_pos rfl]; exact e4) (fun j hj => by omega)
end MK9

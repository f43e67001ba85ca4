-- the reference: rows that fit; an instance settles
section MN4
variable {own own' : Nat → Nat} {mm m i ip k f t n : Nat} {A A' : Nat → Nat} {h h' h2 : xb_H} {F F' F2 : Nat → Nat → Int32} {v v' v2 v0 cb : Nat → Int32} {D : zM} {DM : Nat → zM} {len rl K rc rs bc bs E : Nat} {Qr : Int32 → xb_H → Prop} {Q : xb_H → Prop}
theorem Z_lw {x : Int64} : 0 ≤ (x &&& 4294967295).toInt ∧ (x &&& 4294967295).toInt < 4294967296 := by
  have h1 := Z_and x 4294967295
  have h2 : (4294967295 : Int64).toBitVec.toNat = 4294967295 := rfl
  rw [h2] at h1
  have h3 : (x &&& 4294967295).toBitVec.toNat ≤ 4294967295 := by
    rw [h1]
    exact Nat.and_le_right
  have h4 := Z_nn (x := x &&& 4294967295) rfl (by omega)
  omega
/-- the first row that doesn't fit -/
def rfT (A : Nat → Nat) (h : xb_H) (F : Nat → Nat → Int32) (D : zM) (ip s : Nat) (H : Int) (k : Nat) : Prop :=
  k < qt D s ∧ (∀ k', k' < k → ∀ E p3 L, rowP D s k' E p3 L → (cnV A h F D ip (cE (qc D) (qp D s k')) &&& 4294967295).toInt + L.toInt ≤ H) ∧ ∃ E p3 L, rowP D s k E p3 L ∧ H < (cnV A h F D ip (cE (qc D) (qp D s k)) &&& 4294967295).toInt + L.toInt
theorem m_rowsFitE {x1 x2 : Int32} {s κ g : Nat} {H : Int} (hrl : xb_n h (A 33) = rl ∧ rl ≤ 512000) (hX : mX own mm A h F m (DM m)) (hV : MV0 (DM m)) (hz : v 17 = 0) (h1 : x1.toInt = i) (hi : i < 24) (h2 : x2.toInt = s) (hs : s = 9 ∧ κ = 1 ∨ s = 11 ∧ κ = 2) (hm : (F (A 31) i).toInt = m) (hp : (F (A 32) i).toInt = ip) (hr : ip + qt (DM m) 2 ≤ rl) (hres : ∀ j, j < qt (DM m) 2 → (ub (qc (DM m)) (kpo (DM m) j)).toInt = 3 → ∃ g : Nat, (F (A 33) (ip + j)).toInt = g ∧ g < 4096)
    (hg : 0 < iM (DM m) κ + qt (DM m) (3 + κ) → (oV A F DM i κ).toInt = g ∧ g < 24 ∧ (s = 9 → (F (A 49) g).toInt = H) ∧ (s = 11 → 65536 * (F (A 54) g).toInt = H ∧ 0 ≤ (F (A 54) g).toInt ∧ (F (A 54) g).toInt ≤ 16))
    (h0 : ∀ (v' : Nat → Int32) (c kx : Int32) (k : Nat), vg v v' → v' 17 = 0 → kx.toInt = k → c = (if s = 9 then 45 else 46) → rfT A h F (DM m) ip s H k → Qr 0 (mH h (va_up F (A 89) (va_up (va_up (F (A 89)) 0 c) 1 kx)) mm v')) (hQ : ∀ v' : Nat → Int32, vg v v' → v' 17 = 0 → (∀ k, k < qt (DM m) s → ∀ E p3 L, rowP (DM m) s k E p3 L → (cnV A h F (DM m) ip (cE (qc (DM m)) (qp (DM m) s k)) &&& 4294967295).toInt + L.toInt ≤ H) → Qr 1 (mH h F mm v')) : w_M_rowsFit mm x1 x2 (mH h F mm v) Qr := by
  have hB := hX.1
  have hs12 : s < 12 := by omega
  have bt := (hX.2.2.2.2.2.1 s hs12).1
  obtain ⟨a1, a2, a3, a4⟩ := hB.kx (k := 31) (kd := 102) (n := 24) (by decide) (by decide)
  have n9 : x2 = 9 ↔ s = 9 := by
    rw [z_eq, h2]
    simp only [Int32.reduceToInt]
    omega
  have L28 : ∀ x3 : Int32, x3.toInt = m → ∀ (x4 : Int32), ((0 < iM (DM m) κ + qt (DM m) (3 + κ)) → x4.toInt = g) → ∀ (nf k : Nat) (x5 : Int32) (u : Nat → Int32), qt (DM m) s - k ≤ nf → x5.toInt = k → k ≤ qt (DM m) s → vg v u → u 17 = 0 → (∀ k', k' < k → ∀ E p3 L, rowP (DM m) s k' E p3 L → (cnV A h F (DM m) ip (cE (qc (DM m)) (qp (DM m) s k')) &&& 4294967295).toInt + L.toInt ≤ H) → w_M_rowsFit_L28 Qr (nf + 1) mm x1 x2 x3 x4 x5 (mH h F mm u) := by
    intro x3 e3 x4 e4 nf
    induction nf with
    | zero =>
      intro k x5 u hn h5 hk gu zu hP
      unfold w_M_rowsFit_L28
      refine ⟨hB.2.1, m_manyOf hX e3 h2 hs12 (fun r hr9 _ => ⟨fun _ => hQ u gu zu (fun k' hk' => hP k' (by omega)), fun hle => ?_⟩)⟩
      rw [z_le, hr9, h5] at hle
      omega
    | succ nf ih =>
      intro k x5 u hn h5 hk gu zu hP
      unfold w_M_rowsFit_L28
      refine ⟨hB.2.1, m_manyOf hX e3 h2 hs12 (fun r hr9 _ => ⟨fun hle => ?_, fun hle => ?_⟩)⟩
      · rw [z_le, hr9, h5] at hle
        exact hQ u gu zu (fun k' hk' => hP k' (by omega))
      · rw [z_le, hr9, h5] at hle
        have hks : k < qt (DM m) s := by omega
        obtain ⟨p1, x, E, p3, L, y1, y2, y3, ⟨y4, y5, y6, y7⟩, -, -, y8⟩ := hX.2.2.row (by omega) hks ⟨fun e => by subst e; exact hV.2.2.2.2.2.1 k hks, fun e => by subst e; exact hV.2.2.2.2.2.2 k hks⟩
        have rb1 := rC_b y1
        have rbL := rC_b y6
        have y8' : 0 < iM (DM m) κ + qt (DM m) (3 + κ) := by
          rcases hs with ⟨e1, e2⟩ | ⟨e1, e2⟩
          · rw [if_pos e1] at y8; rw [e2]; exact y8
          · rw [if_neg (by omega)] at y8; rw [e2]; exact y8
        obtain ⟨g1, g2, g3, g4⟩ := hg y8'
        have e4' := e4 y8'
        have hE := hX.2.2.2.2.1
        have ep1 : p1 ≤ qe (DM m) := by
          rw [y2] at y4
          obtain ⟨q, q1, q2, q3⟩ := y4
          rcases q3 with ⟨-, z, c1, -⟩ | ⟨op, o1, o2, o3, o4⟩
          · have := rC_b c1; omega
          · have := rW_b o4; omega
        refine m_placeOf hX e3 h2 hs12 h5 hks (fun r6 e6 _ => m_go_k hX zu e3 e6 y3 (by omega) (fun v1 k1 _ => m_count_k hX.rd k1.2.2.1 k1.2.2.2 y1 ep1 (fun v2 o2 z2 _ => m_constant (p := cE (qc (DM m)) (qp (DM m) s k)) (ip := ip) (v0 := u) hX hi h1 hm hp hrl hr hres y4 y5 (by rw [y2]; exact k1.go o2 z2) (fun v3 k3 _ v13 e13 => m_count_k hX.rd k3.2.2.1 k3.2.2.2 y6 y7 (fun v4 o4 z4 _ => ?_)))))
        have G4 : vg v v4 := (gu.tr k3.1).tr o4.vg
        have lo := Z_lw (x := cnV A h F (DM m) ip (cE (qc (DM m)) (qp (DM m) s k)))
        rw [← e13] at lo
        have L103 : ∀ y0 : Int64, y0.toInt = H → 0 ≤ H → w_M_rowsFit_L103 (w_M_rowsFit_L28 Qr (nf + 1)) Qr mm x1 x2 x3 x4 x5 v13 L y0 (mH h F mm v4) := by
          intro y0 hy0 hH
          have esum : (v13 + L).toInt = v13.toInt + L.toInt := by
            rw [Z_add]
            omega
          unfold w_M_rowsFit_L103
          refine ⟨fun hle9 => ih (k + 1) (x5 + 1) v4 (by omega) (z_inc h5 (by omega)) (by omega) G4 z4 (fun k' hk' E' p3' L' hrp => ?_), fun hgt9 => ?_⟩
          · rcases Nat.lt_or_ge k' k with h9 | h9
            · exact hP k' h9 E' p3' L' hrp
            · have : k' = k := by omega
              subst this
              obtain ⟨w1, w2, w3, w4⟩ := hrp
              have eEE : E' = E := by
                obtain ⟨c1, q, rs, c3⟩ := (hX.2.2.2.2.2.1 s hs12).2 k' hks
                rcases hs with ⟨e, -⟩ | ⟨e, -⟩
                · subst e
                  obtain ⟨p1', x', p2', p3'', L'', t1, t2, -⟩ := rs
                  rw [(rC_E t1).1] at w1 y4
                  rw [w1.fu t2, y4.fu t2]
                · subst e
                  obtain ⟨p1', x', p2', p3'', L'', t1, t2, -⟩ := rs
                  rw [(rC_E t1).1] at w1 y4
                  rw [w1.fu t2, y4.fu t2]
              subst eEE
              rw [y6] at w3
              simp only [Option.some.injEq, Prod.mk.injEq] at w3
              obtain ⟨-, eL⟩ := w3
              rw [← eL, ← e13]
              rw [Z_le, esum, hy0] at hle9
              exact hle9
          · have why : rfT A h F (DM m) ip s H k := ⟨hks, hP, E, p3, L, ⟨y4, y5, y6, y7⟩, by rw [Z_le, esum, hy0] at hgt9; rw [← e13]; omega⟩
            unfold w_M_rowsFit_L130
            exact ⟨fun hx => ⟨hB.2.1, m_refuseE hB (fun _ => h0 v4 _ x5 k G4 z4 h5 (by rw [if_neg (fun e => hx (n9.mpr e))]) why)⟩, fun hx => ⟨hB.2.1, m_refuseE hB (fun _ => h0 v4 _ x5 k G4 z4 h5 (by rw [if_pos (n9.mp hx)]) why)⟩⟩
        refine ⟨fun hn9 => ?_, fun he9 => ?_⟩
        · obtain ⟨b1, b2, b3, b4⟩ := hB.kx (k := 54) (kd := 102) (n := 24) (by decide) (by decide)
          have e11 : s = 11 := by
            rcases hs with ⟨e, -⟩ | ⟨e, -⟩
            · exact absurd (n9.mpr e) hn9
            · exact e
          obtain ⟨q1, q2, q3⟩ := g4 e11
          refine ⟨A 54, b1, b2, ?_, L103 _ ?_ (by omega)⟩
          · rw [z_in, e4']
            show _ ∧ _ < ((xb_n h (A 54) : Nat) : Int)
            omega
          · rw [mH_o b4, z_cl, e4', Int.toNat_natCast, Z_mul, Z_of32, show (65536 : Int64).toInt = 65536 from rfl]
            omega
        · obtain ⟨b1, b2, b3, b4⟩ := hB.kx (k := 49) (kd := 102) (n := 24) (by decide) (by decide)
          have q1 := g3 (n9.mp he9)
          by_cases hH : 0 ≤ H
          · refine ⟨A 49, b1, b2, ?_, L103 _ ?_ hH⟩
            · rw [z_in, e4']
              show _ ∧ _ < ((xb_n h (A 49) : Nat) : Int)
              omega
            · rw [mH_o b4, z_cl, e4', Int.toNat_natCast, Z_of32]
              exact q1
          · refine ⟨A 49, b1, b2, ?_, ?_⟩
            · rw [z_in, e4']
              show _ ∧ _ < ((xb_n h (A 49) : Nat) : Int)
              omega
            · rw [mH_o b4, z_cl, e4', Int.toNat_natCast]
              unfold w_M_rowsFit_L103
              refine ⟨fun hle9 => ?_, fun _ => ?_⟩
              · exfalso
                rw [Z_le, Z_add, Z_of32, q1] at hle9
                omega
              · have why : rfT A h F (DM m) ip s H k := ⟨hks, hP, E, p3, L, ⟨y4, y5, y6, y7⟩, by rw [← e13]; omega⟩
                unfold w_M_rowsFit_L130
                exact ⟨fun hx => ⟨hB.2.1, m_refuseE hB (fun _ => h0 v4 _ x5 k G4 z4 h5 (by rw [if_neg (fun e => hx (n9.mpr e))]) why)⟩, fun hx => ⟨hB.2.1, m_refuseE hB (fun _ => h0 v4 _ x5 k G4 z4 h5 (by rw [if_pos (n9.mp hx)]) why)⟩⟩
  have L20 : ∀ (x3 : Int32), x3.toInt = m → ∀ (y0 : Int32), y0.toInt = κ → w_M_rowsFit_L20 Qr mm x1 x2 x3 y0 x1 mm (mH h F mm v) := by
    intro x3 e3 y0 ey
    unfold w_M_rowsFit_L20
    refine ⟨hB.2.1, m_onlyP hrl hX hz h1 hi ey (by omega) hm hp hr (fun v1 r g1 z1 hr9 _ => ⟨qt (DM m) s + 1, L28 x3 e3 r (fun h9 => ?_) (qt (DM m) s) 0 0 v1 (by omega) rfl (by omega) g1 z1 (fun k' hk' => by omega)⟩)⟩
    rcases hr9 with ⟨-, e0⟩ | ⟨e1, -⟩
    · omega
    · rw [e1]
      exact (hg h9).1
  unfold w_M_rowsFit
  refine ⟨hB.2.1, A 31, a1, a2, ?_, fun v5 e5 => ⟨fun hn => ?_, fun he => ?_⟩⟩
  · rw [z_in, h1]
    show _ ∧ _ < ((xb_n h (A 31) : Nat) : Int)
    omega
  · rw [mH_o a4, z_cl, h1, Int.toNat_natCast] at e5
    refine L20 v5 (by rw [e5]; exact hm) 2 ?_
    rcases hs with ⟨e, -⟩ | ⟨-, e⟩
    · exact absurd (n9.mpr e) hn
    · rw [e]; rfl
  · rw [mH_o a4, z_cl, h1, Int.toNat_natCast] at e5
    refine L20 v5 (by rw [e5]; exact hm) 1 ?_
    rcases hs with ⟨-, e⟩ | ⟨e, -⟩
    · rw [e]; rfl
    · have := n9.mp he
      omega
theorem m_rowsFit {x1 x2 : Int32} {s κ g : Nat} {H : Int} (hrl : xb_n h (A 33) = rl ∧ rl ≤ 512000) (hX : mX own mm A h F m (DM m)) (hV : MV0 (DM m)) (hz : v 17 = 0) (h1 : x1.toInt = i) (hi : i < 24) (h2 : x2.toInt = s) (hs : s = 9 ∧ κ = 1 ∨ s = 11 ∧ κ = 2) (hm : (F (A 31) i).toInt = m) (hp : (F (A 32) i).toInt = ip) (hr : ip + qt (DM m) 2 ≤ rl) (hres : ∀ j, j < qt (DM m) 2 → (ub (qc (DM m)) (kpo (DM m) j)).toInt = 3 → ∃ g : Nat, (F (A 33) (ip + j)).toInt = g ∧ g < 4096)
    (hg : 0 < iM (DM m) κ + qt (DM m) (3 + κ) → (oV A F DM i κ).toInt = g ∧ g < 24 ∧ (s = 9 → (F (A 49) g).toInt = H) ∧ (s = 11 → 65536 * (F (A 54) g).toInt = H ∧ 0 ≤ (F (A 54) g).toInt ∧ (F (A 54) g).toInt ≤ 16))
    (h0 : ∀ (v' w : Nat → Int32), vg v v' → v' 17 = 0 → Qr 0 (mH h (va_up F (A 89) w) mm v')) (hQ : ∀ v' : Nat → Int32, vg v v' → v' 17 = 0 → (∀ k, k < qt (DM m) s → ∀ E p3 L, rowP (DM m) s k E p3 L → (cnV A h F (DM m) ip (cE (qc (DM m)) (qp (DM m) s k)) &&& 4294967295).toInt + L.toInt ≤ H) → Qr 1 (mH h F mm v')) : w_M_rowsFit mm x1 x2 (mH h F mm v) Qr :=
  m_rowsFitE hrl hX hV hz h1 hi h2 hs hm hp hr hres hg (fun v' c kx k g1 g2 _ _ _ => h0 v' _ g1 g2) hQ
end MN4

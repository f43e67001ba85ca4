-- the reference's reader: entries
def cE (cb : Nat → Int32) (p : Nat) : Nat := match rC cb p with
  | some z => z.1
  | none => 0
def cV (cb : Nat → Int32) (p : Nat) : Nat := match rC cb p with
  | some z => z.2.toInt.toNat
  | none => 0
/-- where a name ends -/
def qN (cb : Nat → Int32) (p : Nat) : Nat := cE cb p + cV cb p
/-- groups of locals -/
def lgs (cb : Nat → Int32) : Nat → Nat → Nat → Nat → Prop
  | 0, p, q, T => q = p ∧ T = 0
  | k + 1, p, q, T => ∃ p1 n T', rC cb p = some (p1, n) ∧ (¬ ub cb p1 < 124 ∧ ¬ 127 < ub cb p1) ∧ lgs cb k (p1 + 1) q T' ∧ T = n.toInt.toNat + T'
/-- an entry of a section -/
def RS (cb : Nat → Int32) : Nat → Nat → Nat → Prop
  | 1, p, q => ub cb p = 96 ∧ ∃ p1 n p2 k, rC cb (p + 1) = some (p1, n) ∧ rTs cb p1 (p1 + n.toInt.toNat) ∧ rC cb (p1 + n.toInt.toNat) = some (p2, k) ∧ q = p2 + k.toInt.toNat ∧ rTs cb p2 q
  | 2, p, q => ∃ p1 p2, rN cb p p1 ∧ rN cb p1 p2 ∧ ((ub cb p2 = 0 ∧ ∃ x, rC cb (p2 + 1) = some (q, x)) ∨ (ub cb p2 = 1 ∧ rTab cb (p2 + 1) q) ∨ (ub cb p2 = 2 ∧ rLim cb (p2 + 1) q) ∨ (ub cb p2 = 3 ∧ rVar cb (p2 + 1) q))
  | 3, p, q => ∃ x, rC cb p = some (q, x)
  | 4, p, q => rTab cb p q
  | 5, p, q => rLim cb p q
  | 6, p, q => ∃ p1, rVar cb p p1 ∧ exR cb p1 q
  | 7, p, q => ∃ p1 x, rN cb p p1 ∧ ub cb p1 ≤ 3 ∧ rC cb (p1 + 1) = some (q, x)
  | 8, p, q => ∃ x, rC cb p = some (q, x)
  | 9, p, q => ∃ p1 x p2 p3 L, rC cb p = some (p1, x) ∧ exR cb p1 p2 ∧ rC cb p2 = some (p3, L) ∧ cks cb L.toInt.toNat p3 = some q
  | 10, p, q => ∃ p1 n p2 g p3 T, rC cb p = some (p1, n) ∧ q = p1 + n.toInt.toNat ∧ rC cb p1 = some (p2, g) ∧ lgs cb g.toInt.toNat p2 p3 T ∧ T ≤ 1000 ∧ exR cb p3 q
  | 11, p, q => ∃ p1 x p2 p3 n, rC cb p = some (p1, x) ∧ exR cb p1 p2 ∧ rC cb p2 = some (p3, n) ∧ q = p3 + n.toInt.toNat
  | _, _, _ => False
section MR8
variable {h : xb_H} {F : Nat → Nat → Int32} {mm st N b e p p' q ok im nm : Nat} {cb v v' v2 : Nat → Int32}
theorem rC_E {x : Int64} (h : rC cb p = some (q, x)) : cE cb p = q ∧ cV cb p = x.toInt.toNat := by
  unfold cE cV
  rw [h]
  exact ⟨rfl, rfl⟩
theorem rN_E (h : rN cb p q) : qN cb p = q := by
  obtain ⟨p1, n, h1, h2, -⟩ := h
  unfold qN
  rw [(rC_E h1).1, (rC_E h1).2, h2]
theorem rdH.sub {e' : Nat} (hs : rdH mm st N b e cb h F) (he : e' ≤ e) : rdH mm st N b e' cb h F := by
  obtain ⟨s1, s2, s3, s4, s5, s6, s7, s8⟩ := hs
  exact ⟨s1, s2, s3, s4, s5, s6, by omega, fun j j1 j2 => s8 j j1 (by omega)⟩
theorem ro.sub {e' : Nat} (h1 : ro v v' p p' e') (he : e' ≤ e) : ro v v' p p' e := ⟨h1.1, h1.2.1, h1.2.2.1, by have := h1.2.2.2.1; omega, h1.2.2.2.2⟩
theorem m_importEntry {Qr : xb_H → Prop} (hs : rdH mm st N b e cb h F) (hby : ∀ j, -128 ≤ (cb j).toInt ∧ (cb j).toInt ≤ 127) (k10 : xb_r h mm 10 = some im ∧ xb_k h im = 102 ∧ xb_n h im = 256 ∧ im ≠ mm) (h5 : (v 5).toInt = nm) (hnm : nm < 64) (hp : rdP v b p e)
    (hQ : ∀ (v' : Nat → Int32) (p' : Nat) (F' : Nat → Nat → Int32), ro v v' p p' e → (v' 17 ≠ 0 ∧ F' = F) ∨ (v' 17 = 0 ∧ ∃ κ : Nat, κ < 4 ∧ RS cb 2 p p' ∧ (ub cb (qN cb (qN cb p))).toInt = κ ∧ F' = va_up F im (va_up (F im) (4 * nm + κ) (F im (4 * nm + κ) + 1))) → Qr (mH h F' mm v')) : w_M_importEntry mm (mH h F mm v) Qr := by
  obtain ⟨k1, k2, k3, k4⟩ := k10
  unfold w_M_importEntry
  refine ⟨hs.1, m_name hs hp (fun v1 p1 o1 f1 b1 _ => m_name hs (o1.P hp) (fun v2 p2 o2 f2 b2 _ => m_next hs (o2.P (o1.P hp)) (fun r v3 p3 o3 f3 b3 _ => ?_)))⟩
  have O3 := o1.tr (o2.tr o3)
  have P3 := O3.P hp
  rw [mH_i]
  refine ⟨fun hz => ?_, fun hn => hQ v3 p3 F O3 (.inl ⟨hn, rfl⟩)⟩
  obtain ⟨g1, g2⟩ := f3 hz
  have z2 := o3.z hz
  have z1 := o2.z z2
  have N1 := f1 z1
  have N2 := f2 z2
  have hkp : qN cb (qN cb p) = p2 := by rw [rN_E N1, rN_E N2]
  subst g1 g2
  have hr := ub_r (cb := cb) (p := p2)
  have L80 : ∀ (v4 : Nat → Int32) (p4 : Nat), ro v3 v4 (p2 + 1) p4 e → (v4 17 = 0 → (ub cb p2).toInt < 4 ∧ RS cb 2 p p4) → w_M_importEntry_L80 Qr mm (ub cb p2) (mH h F mm v4) := by
    intro v4 p4 o4 hok
    have O4 := O3.tr o4
    unfold w_M_importEntry_L80 w_M_importEntry_L104
    rw [mH_i]
    refine ⟨hs.1, fun hn => hQ v4 p4 F O4 (.inl ⟨hn, rfl⟩), fun hz4 => ?_⟩
    obtain ⟨c1, c2⟩ := hok hz4
    have e5 : (4 * v4 5 + ub cb p2).toInt = (4 * nm + (ub cb p2).toInt.toNat : Nat) := by
      have : v4 5 = v 5 := O4.1 5 (by omega) (by omega) (by omega)
      rw [this, z_add, Int32.toInt_mul, z_bm, h5]
      simp only [Int32.reduceToInt]
      omega
    have hin : vp_in (4 * v4 5 + ub cb p2) (xb_n h im) := by
      rw [z_in, e5, k3]
      omega
    refine ⟨im, k1, k2, hin, hin, fun h7 e7 => ?_⟩
    rw [mH_A k4, mH_o k4, show (4 * v4 5 + ub cb p2).toNatClampNeg = 4 * nm + (ub cb p2).toInt.toNat from by rw [z_cl, e5]; omega] at e7
    subst e7
    exact hQ v4 p4 _ O4 (.inr ⟨hz4, (ub cb p2).toInt.toNat, by omega, c2, by rw [hkp]; omega, rfl⟩)
  refine ⟨fun n0 => ⟨fun n1 => ⟨fun n2 => ⟨fun n3 => ?_, fun k => ?_⟩, fun k => ?_⟩, fun k => ?_⟩, fun k => ?_⟩
  · exact m_failR hs.1 P3 (by decide) (fun v' g1 g2 _ => L80 v' (p2 + 1) g1 (fun h9 => absurd h9 g2))
  · exact m_variableKind hs P3 (fun v4 p4 o4 f4 _ => L80 v4 p4 o4 (fun hz4 => ⟨by rw [k]; decide, p1, p2, N1, N2, .inr (.inr (.inr ⟨k, f4 hz4⟩))⟩))
  · exact m_limits hs hby P3 (fun v4 p4 o4 f4 _ => L80 v4 p4 o4 (fun hz4 => ⟨by rw [k]; decide, p1, p2, N1, N2, .inr (.inr (.inl ⟨k, f4 hz4⟩))⟩))
  · exact m_tableType hs hby P3 (fun v4 p4 o4 f4 _ => L80 v4 p4 o4 (fun hz4 => ⟨by rw [k]; decide, p1, p2, N1, N2, .inr (.inl ⟨k, f4 hz4⟩)⟩))
  · exact m_count hs P3 (fun r4 v4 p4 o4 f4 b4 _ => L80 v4 p4 o4 (fun hz4 => ⟨by rw [k]; decide, p1, p2, N1, N2, .inl ⟨k, r4, f4 hz4⟩⟩))
theorem m_bodyL {Qr : xb_H → Prop} {x3 : Int32} {x4 : Int64} {g : Nat} (hs : rdH mm st N b e cb h F) (h4 : x4.toInt = g) (hg : g < 4294967296) : ∀ (m k a : Nat) (x6 x8 : Int64) (v : Nat → Int32) (p : Nat), x8.toInt = k → rdP v b p e → e - p + 1 ≤ m → (v 17 = 0 → k ≤ g ∧ x6.toInt = a ∧ a ≤ 1000) → (∀ (v' : Nat → Int32) (p' : Nat), ro v v' p p' e → (v' 17 = 0 → ∃ T, lgs cb (g - k) p p' T ∧ a + T ≤ 1000) → w_M_body_L139 Qr mm x3 (mH h F mm v')) → w_M_body_L72 Qr (m + 1) mm x3 x4 x6 x8 (mH h F mm v) := by
  have dead : ∀ (m : Nat) (x6 x8 : Int64) (v' : Nat → Int32), v' 17 ≠ 0 → w_M_body_L139 Qr mm x3 (mH h F mm v') → w_M_body_L72 Qr (m + 1) mm x3 x4 x6 x8 (mH h F mm v') := by
    intro m x6 x8 v' g2 hq
    unfold w_M_body_L72
    rw [mH_i]
    exact ⟨fun _ => hq, fun _ => ⟨hs.1, fun _ => hq, fun h9 => absurd h9 g2⟩⟩
  intro m
  induction m with
  | zero => intro k a x6 x8 v p _ _ hm; omega
  | succ m ih =>
    intro k a x6 x8 v p h8 hp hm hk hQ
    by_cases hz : v 17 = 0
    · obtain ⟨k1, k2, k3⟩ := hk hz
      unfold w_M_body_L72
      rw [mH_i]
      refine ⟨fun hl => ?_, fun hl => ⟨hs.1, fun hn => absurd hz hn, fun _ v4 e4 => m_count hs hp (fun r v1 p1 o1 f1 b1 _ v7 e7 => ?_)⟩⟩
      · rw [Z_le, h4, h8] at hl
        refine hQ v p (ro.rf hp.1 hp.2.2.2) (fun _ => ⟨0, ?_, by omega⟩)
        rw [show g - k = 0 by omega]
        exact ⟨rfl, rfl⟩
      · rw [Z_le, h4, h8] at hl
        have P1 := o1.P hp
        have e8 : (x8 + 1).toInt = (k + 1 : Nat) := by
          rw [Int64.toInt_add, h8, show (1 : Int64).toInt = 1 from rfl, Int.bmod_eq_of_le (by omega) (by omega)]
          omega
        have hgk : g - k = (g - (k + 1)) + 1 := by omega
        have L126 : ∀ (v2 : Nat → Int32), ro v1 v2 p1 p1 e → (v2 17 = 0 → rC cb p = some (p1, r) ∧ v7.toInt = (a + r.toInt.toNat : Nat) ∧ a + r.toInt.toNat ≤ 1000) → w_M_body_L126 (w_M_body_L72 Qr (m + 1)) Qr mm x3 x4 v7 x8 (mH h F mm v2) := by
          intro v2 o2 hok
          unfold w_M_body_L126
          refine ⟨hs.1, m_valueType hs (o2.P P1) (fun v3 p3 o3 f3 b3 _ v5 e5 => ?_)⟩
          subst e5
          have O3 := o1.tr (o2.tr o3)
          by_cases hz3 : v3 17 = 0
          · obtain ⟨c1, c2, c3⟩ := hok (o3.z hz3)
            obtain ⟨d1, d2⟩ := f3 hz3
            subst d1
            have hb := rC_b c1
            have hp3 := o3.2.2.2.1
            refine ih (k + 1) (a + r.toInt.toNat) v7 (x8 + 1) v3 (p1 + 1) e8 (O3.P hp) (by omega) (fun _ => ⟨by omega, c2, c3⟩) (fun v' p' o' hT => hQ v' p' (O3.tr o') (fun hz' => ?_))
            obtain ⟨T, t1, t2⟩ := hT hz'
            refine ⟨r.toInt.toNat + T, ?_, by omega⟩
            rw [hgk]
            exact ⟨p1, r, T, c1, d2, t1, rfl⟩
          · exact dead m v7 (x8 + 1) v3 hz3 (hQ v3 p3 O3 (fun h9 => absurd h9 hz3))
        rw [mH_i]
        refine ⟨fun hn => L126 v1 (ro.rf o1.2.1 o1.2.2.2.1) (fun h9 => absurd h9 hn), fun hz1 => ?_⟩
        have c1 := f1 hz1
        have hb := rC_b c1
        have e9 : v7.toInt = (a + r.toInt.toNat : Nat) := by
          rw [e7, Int64.toInt_add, k2, Int.bmod_eq_of_le (by omega) (by omega)]
          omega
        refine ⟨fun hle => L126 v1 (ro.rf o1.2.1 o1.2.2.2.1) (fun _ => ⟨c1, e9, ?_⟩), fun _ => m_failR hs.1 P1 (by decide) (fun v' g1 g2 _ => L126 v' g1 (fun h9 => absurd h9 g2))⟩
        rw [Z_le, e9, show (1000 : Int64).toInt = 1000 from rfl] at hle
        omega
    · exact dead (m + 1) x6 x8 v hz (hQ v p (ro.rf hp.1 hp.2.2.2) (fun h9 => absurd h9 hz))
theorem m_body {Qr : xb_H → Prop} (hs : rdH mm st N b e cb h F) (hby : ∀ j, -128 ≤ (cb j).toInt ∧ (cb j).toInt ≤ 127) (k24 : xb_r h mm 24 = some ok ∧ xb_k h ok = 102 ∧ xb_n h ok = 202 ∧ ok ≠ mm ∧ st ≠ ok) (hp : rdP v b p e)
    (hQ : ∀ (v' : Nat → Int32) (p' : Nat) (f' : Nat → Int32), ro v v' p p' e → (v' 17 = 0 → RS cb 10 p p') → Qr (mH h (va_up F ok f') mm v')) : w_M_body mm (mH h F mm v) Qr := by
  have s5 := hs.2.2.2.2.1
  have s7 := hs.2.2.2.2.2.2.1
  have hid : ∀ v' : Nat → Int32, mH h F mm v' = mH h (va_up F ok (F ok)) mm v' := fun v' => by rw [va_id]
  unfold w_M_body
  refine ⟨hs.1, m_count hs hp (fun n v1 p1 o1 f1 b1 _ => ?_)⟩
  have P1 := o1.P hp
  have ez := z_end P1 (by omega)
  have dead : ∀ v2 : Nat → Int32, ro v1 v2 p1 p1 e → v2 17 ≠ 0 → w_M_body_L36 Qr mm n (mH h F mm v2) := fun v2 o2 hn => by
    unfold w_M_body_L36
    rw [mH_i]
    exact ⟨hs.1, fun h9 => absurd h9 hn, fun _ => by rw [hid]; exact hQ v2 p1 (F ok) (o1.tr o2) (fun h9 => absurd h9 hn)⟩
  rw [mH_i]
  refine ⟨fun hn => dead v1 (ro.rf o1.2.1 o1.2.2.2.1) hn, fun hz => ⟨fun hl => ?_, fun hl => m_failR hs.1 P1 (by decide) (fun v2 g1 g2 _ => dead v2 g1 g2)⟩⟩
  have c1 := f1 hz
  have hb := rC_b c1
  rw [Z_lim, ez] at hl
  have hp1 := o1.2.2.2.1
  obtain ⟨e', he'⟩ : ∃ e' : Nat, e' = p1 + n.toInt.toNat := ⟨_, rfl⟩
  have hee : e' ≤ e := by omega
  unfold w_M_body_L36
  rw [mH_i]
  refine ⟨hs.1, fun _ v3 e3 h4 e4 => ?_, fun hn => absurd hz hn⟩
  rw [mH_I] at e4
  subst e4
  have e16 : (v1 15 + Int64.toInt32 n).toInt = e' := by
    have e4 : (Int64.toInt32 n).toInt = n.toInt := by
      rw [z_of64]
      omega
    rw [z_add, P1.1, e4]
    omega
  obtain ⟨w, hw⟩ : ∃ w : Nat → Int32, w = va_up v1 16 (v1 15 + Int64.toInt32 n) := ⟨_, rfl⟩
  rw [← hw]
  have w15 : w 15 = v1 15 := by rw [hw, xh_up, if_neg (by omega)]
  have w17 : w 17 = v1 17 := by rw [hw, xh_up, if_neg (by omega)]
  have Pw : rdP w b p1 e' := ⟨by rw [w15]; exact P1.1, by rw [hw, xh_up, if_pos rfl]; exact e16, P1.2.2.1, by omega⟩
  have hs' := hs.sub hee
  -- back to the section
  have fin : ∀ (v5 : Nat → Int32) (p5 : Nat) (f' : Nat → Int32), ro w v5 p1 p5 e' → (v5 17 = 0 → RS cb 10 p p5) → w_M_body_L178 Qr mm v3 (mH h (va_up F ok f') mm v5) := by
    intro v5 p5 f' o5 hok
    unfold w_M_body_L178
    refine ⟨hs.1, fun h2 e2 => ?_⟩
    rw [mH_I] at e2
    subst e2
    refine hQ _ p5 f' ⟨fun j j1 j2 j3 => ?_, by rw [xh_up, if_neg (by omega)]; exact o5.2.1, by have := o5.2.2.1; have := o1.2.2.1; omega, by have := o5.2.2.2.1; omega, fun h9 => absurd (o1.z hz) h9⟩ (fun h9 => hok (by rw [xh_up, if_neg (by omega)] at h9; exact h9))
    rw [xh_up]
    split
    · rename_i ej
      rw [ej, e3]
      exact o1.1 16 (by omega) (by omega) (by omega)
    · rename_i ej
      rw [o5.1 j j1 j2 j3, hw, xh_up, if_neg ej]
      exact o1.1 j j1 j2 j3
  have L150 : ∀ (v5 : Nat → Int32) (p5 : Nat) (f' : Nat → Int32), ro w v5 p1 p5 e' → (v5 17 = 0 → p5 = e' → RS cb 10 p p5) → w_M_body_L150 Qr mm v3 (mH h (va_up F ok f') mm v5) := by
    intro v5 p5 f' o5 hok
    have P5 := o5.P Pw
    unfold w_M_body_L150
    rw [mH_i]
    refine ⟨hs.1, fun hn => fin v5 p5 f' o5 (fun h9 => absurd h9 hn), fun h0 => ⟨fun hle => fin v5 p5 f' o5 (fun h9 => hok h9 ?_), fun _ => m_failR hs.1 P5 (by decide) (fun v' g1 g2 _ => fin v' p5 f' (o5.tr g1) (fun h9 => absurd h9 g2))⟩⟩
    rw [z_le, P5.1, P5.2.1] at hle
    have := P5.2.2.2
    omega
  refine m_count hs' Pw (fun g v4 p4 o4 f4 b4 _ => ?_)
  have P4 := o4.P Pw
  have L139 : ∀ (v5 : Nat → Int32) (p5 : Nat), ro v4 v5 p4 p5 e' → (v5 17 = 0 → ∃ T, lgs cb g.toInt.toNat p4 p5 T ∧ T ≤ 1000) → w_M_body_L139 Qr mm v3 (mH h F mm v5) := by
    intro v5 p5 o5 hT
    have O5 := o4.tr o5
    unfold w_M_body_L139
    rw [mH_i]
    refine ⟨hs.1, fun hn => by rw [hid]; exact L150 v5 p5 (F ok) O5 (fun h9 => absurd h9 hn), fun h0 => m_expression hs' hby k24 (O5.P Pw) (fun v6 p6 f' o6 hx _ => L150 v6 p6 f' (O5.tr o6) (fun h6 e6 => ?_))⟩
    obtain ⟨T, t1, t2⟩ := hT h0
    exact ⟨p1, n, p4, g, p5, T, c1, by omega, f4 (o5.z h0), t1, t2, by rw [show p1 + n.toInt.toNat = p6 by omega] at *; exact hx h6⟩
  by_cases hz4 : v4 17 = 0
  · have hb4 := rC_b (f4 hz4)
    exact ⟨e' - p4 + 1 + 1, m_bodyL (g := g.toInt.toNat) hs' (by omega) (by omega) (e' - p4 + 1) 0 0 0 0 v4 p4 rfl P4 (Nat.le_refl _) (fun _ => ⟨by omega, rfl, by omega⟩) (fun v' p' o' hT => L139 v' p' o' (fun h9 => by obtain ⟨T, t1, t2⟩ := hT h9; exact ⟨T, t1, by omega⟩))⟩
  · refine ⟨0 + 1, ?_⟩
    have hq := L139 v4 p4 (ro.rf o4.2.1 o4.2.2.2.1) (fun h9 => absurd h9 hz4)
    unfold w_M_body_L72
    rw [mH_i]
    exact ⟨fun _ => hq, fun _ => ⟨hs.1, fun _ => hq, fun h9 => absurd h9 hz4⟩⟩
end MR8

-- equality, reading: bodies (the reference)
/-- groups of locals: k of them, a locals so far -/
noncomputable def pLg (cb : Nat → Int32) (e : Nat) : Nat → Nat → Nat → Nat → Rs
  | _, 0, p, _ => .ok p
  | 0, _ + 1, _, _ => .error (0, 0)
  | m + 1, k + 1, p, a => (pCx cb e p).bind (fun p1 => if 1000 < a + cV cb p then .error (9, p) else (pVT cb e p1).bind (fun q => pLg cb e m k q (a + cV cb p)))
/-- a body behind its size, up to its expression's end; and that must be its own -/
noncomputable def pBq (cb : Nat → Int32) (e p1 : Nat) : Rs := ((pCx cb e p1).bind (fun p2 => pLg cb e (e - p2 + 1) (cV cb p1) p2 0)).bind (fun p3 => pExp cb e p3)
noncomputable def pBr (cb : Nat → Int32) (e p1 : Nat) : Rs := (pBq cb e p1).bind (fun p4 => if p4 < e then .error (7, p4) else .ok p4)
noncomputable def pBd (cb : Nat → Int32) (e p : Nat) : Rs := (pCx cb e p).bind (fun p1 => if e < p1 + cV cb p then .error (2, e) else pBr cb (p1 + cV cb p) p1)
section RF9
variable {h : xb_H} {F : Nat → Nat → Int32} {mm st N b e p p' q p1 p2 ok im nm : Nat} {cb v v' v1 v2 v3 f : Nat → Int32} {P : Rs} {G : Nat → Rs}
theorem x_bodyL {Qr : xb_H → Prop} {x3 : Int32} {x4 : Int64} {g : Nat} (hs : rdH mm st N b e cb h F) (h4 : x4.toInt = g) (hg : g < 4294967296) : ∀ (m k a : Nat) (x6 x8 : Int64) (v : Nat → Int32) (p : Nat), x8.toInt = k → rdP v b p e → bs_ v e → e - p + 1 ≤ m → (v 17 = 0 → k ≤ g ∧ x6.toInt = a ∧ a ≤ 1000) → (∀ (v' : Nat → Int32) (p' : Nat), ro v v' p p' e → (v' 17 = 0 → ∃ T, lgs cb (g - k) p p' T ∧ a + T ≤ 1000) → xk v v' p' (pLg cb e m (g - k) p a) → w_M_body_L139 Qr mm x3 (mH h F mm v')) → w_M_body_L72 Qr (m + 1) mm x3 x4 x6 x8 (mH h F mm v) := by
  have dead : ∀ (m : Nat) (x6 x8 : Int64) (v' : Nat → Int32), v' 17 ≠ 0 → w_M_body_L139 Qr mm x3 (mH h F mm v') → w_M_body_L72 Qr (m + 1) mm x3 x4 x6 x8 (mH h F mm v') := by
    intro m x6 x8 v' g2 hq
    unfold w_M_body_L72
    rw [mH_i]
    exact ⟨fun _ => hq, fun _ => ⟨hs.1, fun _ => hq, fun h9 => absurd h9 g2⟩⟩
  intro m
  induction m with
  | zero => intro k a x6 x8 v p _ _ _ hm; omega
  | succ m ih =>
    intro k a x6 x8 v p h8 hp hb hm hk hQ
    by_cases hz : v 17 = 0
    · obtain ⟨k1, k2, k3⟩ := hk hz
      unfold w_M_body_L72
      rw [mH_i]
      refine ⟨fun hl => ?_, fun hl => ⟨hs.1, fun hn => absurd hz hn, fun _ v4 e4 => x_count hs hp hb (fun r v1 p1 o1 f1 kc _ v7 e7 => ?_)⟩⟩
      · rw [Z_le, h4, h8] at hl
        have gk0 : g - k = 0 := by omega
        refine hQ v p (ro.rf hp.1 hp.2.2.2) (fun _ => ⟨0, ?_, by omega⟩) (by rw [gk0]; exact xk.rf)
        rw [gk0]
        exact ⟨rfl, rfl⟩
      · rw [Z_le, h4, h8] at hl
        have P1 := o1.P hp
        have e8 : (x8 + 1).toInt = (k + 1 : Nat) := by
          rw [Int64.toInt_add, h8, show (1 : Int64).toInt = 1 from rfl, Int.bmod_eq_of_le (by omega) (by omega)]
          omega
        have hgk : g - k = (g - (k + 1)) + 1 := by omega
        have L126 : ∀ (v2 : Nat → Int32), ro v1 v2 p1 p1 e → (v2 17 = 0 → rC cb p = some (p1, r) ∧ v7.toInt = (a + r.toInt.toNat : Nat) ∧ a + r.toInt.toNat ≤ 1000) → (v2 17 = 0 → v2 = v1) → (v2 17 ≠ 0 → xk v v2 p1 (pLg cb e (m + 1) (g - k) p a)) → w_M_body_L126 (w_M_body_L72 Qr (m + 1)) Qr mm x3 x4 v7 x8 (mH h F mm v2) := by
          intro v2 o2 hok he2 hbad
          unfold w_M_body_L126
          refine ⟨hs.1, x_valueType hs (o2.P P1) (o2.bs (o1.bs hb)) (fun v3 p3 o3 f3 kv _ v5 e5 => ?_)⟩
          subst e5
          have O3 := o1.tr (o2.tr o3)
          by_cases hz3 : v3 17 = 0
          · obtain ⟨c1, c2, c3⟩ := hok (o3.z hz3)
            obtain ⟨d1, d2⟩ := f3 hz3
            subst d1
            have hcb := rC_b c1
            have hp3 := o3.2.2.2.1
            refine ih (k + 1) (a + r.toInt.toNat) v7 (x8 + 1) v3 (p1 + 1) e8 (O3.P hp) (O3.bs hb) (by omega) (fun _ => ⟨by omega, c2, c3⟩) (fun v' p' o' hT hkx => hQ v' p' (O3.tr o') (fun hz' => ?_) ?_)
            · obtain ⟨T, t1, t2⟩ := hT hz'
              refine ⟨r.toInt.toNat + T, ?_, by omega⟩
              rw [hgk]
              exact ⟨p1, r, T, c1, d2, t1, rfl⟩
            · have e21 := he2 (o3.z hz3)
              subst e21
              rw [hgk]
              refine kc.tr o1.e14 (fun hn => absurd (o3.z hz3) hn) (fun _ => ?_)
              rw [(rC_E c1).2, if_neg (Nat.not_lt.mpr c3)]
              exact kv.tr o3.e14 (fun hn => absurd hz3 hn) (fun _ => hkx)
          · refine dead m v7 (x8 + 1) v3 hz3 (hQ v3 p3 O3 (fun h9 => absurd h9 hz3) ?_)
            by_cases hz2 : v2 17 = 0
            · have e21 := he2 hz2
              subst e21
              obtain ⟨c1, c2, c3⟩ := hok hz2
              rw [hgk]
              refine kc.tr o1.e14 (fun hn => absurd hz2 hn) (fun _ => ?_)
              rw [(rC_E c1).2, if_neg (Nat.not_lt.mpr c3)]
              exact kv.er hz3
            · have kb := hbad hz2
              obtain ⟨a1, a2⟩ := kv.1 hz2
              refine ⟨fun h9 => absurd hz h9, fun _ => ?_⟩
              rcases kb.2 hz with ⟨_, b2⟩ | ⟨Fl, b1, b2, b3, b4⟩
              · exact absurd b2 hz2
              · exact .inr ⟨Fl, b1, hz3, by rw [a1]; exact b3, by rw [a2]; exact b4⟩
        rw [mH_i]
        refine ⟨fun hn => L126 v1 (ro.rf o1.2.1 o1.2.2.2.1) (fun h9 => absurd h9 hn) (fun _ => rfl) (fun _ => by rw [hgk]; exact kc.er hn), fun hz1 => ?_⟩
        have c1 := f1 hz1
        have hcb := rC_b c1
        have e9 : v7.toInt = (a + r.toInt.toNat : Nat) := by
          rw [e7, Int64.toInt_add, k2, Int.bmod_eq_of_le (by omega) (by omega)]
          omega
        refine ⟨fun hle => L126 v1 (ro.rf o1.2.1 o1.2.2.2.1) (fun _ => ⟨c1, e9, ?_⟩) (fun _ => rfl) (fun hn => absurd hz1 hn), fun hle => ?_⟩
        · rw [Z_le, e9, show (1000 : Int64).toInt = 1000 from rfl] at hle
          omega
        · rw [Z_le, e9, show (1000 : Int64).toInt = 1000 from rfl] at hle
          refine f_fail (Fl := (9, p)) hs.1 P1 (o1.bs hb) (by decide) (by rw [e4]; exact hp.1) (by have := hb.2.2; have := hp.2.2.2; omega) ⟨rfl, rfl⟩ (fun v' g1 g2 g3 _ => L126 v' g1 (fun h9 => absurd h9 g2) (fun h9 => absurd h9 g2) (fun _ => ?_))
          rw [hgk]
          refine kc.tr o1.e14 (fun hn => absurd hz1 hn) (fun _ => ?_)
          rw [(rC_E c1).2, if_pos (by omega)]
          exact ⟨fun h9 => absurd hz1 h9, fun _ => .inr ⟨(9, p), rfl, g2, g3.2 hz1 g2⟩⟩
    · exact dead (m + 1) x6 x8 v hz (hQ v p (ro.rf hp.1 hp.2.2.2) (fun h9 => absurd h9 hz) ⟨fun _ => ⟨rfl, rfl⟩, fun h9 => absurd h9 hz⟩)
theorem x_body {Qr : xb_H → Prop} (hs : rdH mm st N b e cb h F) (hby : ∀ j, -128 ≤ (cb j).toInt ∧ (cb j).toInt ≤ 127) (k24 : xb_r h mm 24 = some ok ∧ xb_k h ok = 102 ∧ xb_n h ok = 202 ∧ ok ≠ mm ∧ st ≠ ok) (hp : rdP v b p e) (hb : bs_ v e)
    (hQ : ∀ (v' : Nat → Int32) (p' : Nat) (f' : Nat → Int32), ro v v' p p' e → (v' 17 = 0 → RS cb 10 p p') → xk v v' p' (pBd cb e p) → Qr (mH h (va_up F ok f') mm v')) : w_M_body mm (mH h F mm v) Qr := by
  have s5 := hs.2.2.2.2.1
  have s7 := hs.2.2.2.2.2.2.1
  have hid : ∀ v' : Nat → Int32, mH h F mm v' = mH h (va_up F ok (F ok)) mm v' := fun v' => by rw [va_id]
  unfold w_M_body
  refine ⟨hs.1, x_count hs hp hb (fun n v1 p1 o1 f1 kc _ => ?_)⟩
  have P1 := o1.P hp
  have ez := z_end P1 (by omega)
  have dead : ∀ v2 : Nat → Int32, ro v1 v2 p1 p1 e → v2 17 ≠ 0 → xk v v2 p1 (pBd cb e p) → w_M_body_L36 Qr mm n (mH h F mm v2) := fun v2 o2 hn hkx => by
    unfold w_M_body_L36
    rw [mH_i]
    exact ⟨hs.1, fun h9 => absurd h9 hn, fun _ => by rw [hid]; exact hQ v2 p1 (F ok) (o1.tr o2) (fun h9 => absurd h9 hn) hkx⟩
  rw [mH_i]
  refine ⟨fun hn => dead v1 (ro.rf o1.2.1 o1.2.2.2.1) hn (kc.er hn), fun hz => ⟨fun hl => ?_, fun hl => ?_⟩⟩
  rotate_left
  · have c1 := f1 hz
    have hcb := rC_b c1
    have hp1 := o1.2.2.2.1
    rw [Z_lim, ez] at hl
    refine f_fail (Fl := (2, e)) hs.1 P1 (o1.bs hb) (by decide) P1.2.1 hb.2.2 ⟨rfl, rfl⟩ (fun v2 g1 g2 g3 _ => dead v2 g1 g2 (kc.tr o1.e14 (fun hn => absurd hz hn) (fun _ => ?_)))
    rw [(rC_E c1).2, if_pos (by omega)]
    exact ⟨fun h9 => absurd hz h9, fun _ => .inr ⟨(2, e), rfl, g2, g3.2 hz g2⟩⟩
  have c1 := f1 hz
  have hcb := rC_b c1
  rw [Z_lim, ez] at hl
  have hp1 := o1.2.2.2.1
  obtain ⟨e', he'⟩ : ∃ e' : Nat, e' = p1 + n.toInt.toNat := ⟨_, rfl⟩
  have hee : e' ≤ e := by omega
  unfold w_M_body_L36
  rw [mH_i]
  refine ⟨hs.1, fun _ v3 e3 h4 e4 => ?_, fun hn => absurd hz hn⟩
  rw [mH_I] at e4
  subst e4
  have e16 : (v1 15 + Int64.toInt32 n).toInt = e' := by
    have e4 : (Int64.toInt32 n).toInt = n.toInt := by
      rw [z_of64]
      omega
    rw [z_add, P1.1, e4]
    omega
  obtain ⟨w, hw⟩ : ∃ w : Nat → Int32, w = va_up v1 16 (v1 15 + Int64.toInt32 n) := ⟨_, rfl⟩
  rw [← hw]
  have w15 : w 15 = v1 15 := by rw [hw, xh_up, if_neg (by omega)]
  have w17 : w 17 = v1 17 := by rw [hw, xh_up, if_neg (by omega)]
  have Pw : rdP w b p1 e' := ⟨by rw [w15]; exact P1.1, by rw [hw, xh_up, if_pos rfl]; exact e16, P1.2.2.1, by omega⟩
  have hs' := hs.sub hee
  have w14 : w 14 = v 14 := by rw [hw, xh_up, if_neg (by decide)]; exact o1.e14
  have w18 : w 18 = v1 18 := by rw [hw, xh_up, if_neg (by decide)]
  have wb : bs_ w e' := by
    obtain ⟨b1, b2, b3⟩ := hb
    exact ⟨by rw [w14]; exact b1, by rw [w14]; exact b2, by omega⟩
  have wz : w 17 = 0 := by rw [w17]; exact hz
  -- what the rest of the body tells
  have full : ∀ (v5 : Nat → Int32) (p5 : Nat) (z : Int32), xk w v5 p5 (pBr cb e' p1) → xk v (va_up v5 16 z) p5 (pBd cb e p) := fun v5 p5 z hk => by
    refine kc.tr o1.e14 (fun hn => absurd hz hn) (fun _ => ?_)
    rw [(rC_E c1).2, if_neg (by omega), ← he']
    refine ⟨fun h9 => absurd hz h9, fun _ => ?_⟩
    rw [xh_up, if_neg (by decide), xh_up, if_neg (by decide), o1.e14, ← w14]
    exact hk.2 wz
  -- back to the section
  have fin : ∀ (v5 : Nat → Int32) (p5 : Nat) (f' : Nat → Int32), ro w v5 p1 p5 e' → (v5 17 = 0 → RS cb 10 p p5) → xk w v5 p5 (pBr cb e' p1) → w_M_body_L178 Qr mm v3 (mH h (va_up F ok f') mm v5) := by
    intro v5 p5 f' o5 hok hkx
    unfold w_M_body_L178
    refine ⟨hs.1, fun h2 e2 => ?_⟩
    rw [mH_I] at e2
    subst e2
    refine hQ _ p5 f' ⟨fun j j1 j2 j3 => ?_, by rw [xh_up, if_neg (by omega)]; exact o5.2.1, by have := o5.2.2.1; have := o1.2.2.1; omega, by have := o5.2.2.2.1; omega, fun h9 => absurd (o1.z hz) h9⟩ (fun h9 => hok (by rw [xh_up, if_neg (by omega)] at h9; exact h9)) (full v5 p5 _ hkx)
    rw [xh_up]
    split
    · rename_i ej
      rw [ej, e3]
      exact o1.1 16 (by omega) (by omega) (by omega)
    · rename_i ej
      rw [o5.1 j j1 j2 j3, hw, xh_up, if_neg ej]
      exact o1.1 j j1 j2 j3
  have L150 : ∀ (v5 : Nat → Int32) (p5 : Nat) (f' : Nat → Int32), ro w v5 p1 p5 e' → (v5 17 = 0 → p5 = e' → RS cb 10 p p5) → xk w v5 p5 (pBq cb e' p1) → w_M_body_L150 Qr mm v3 (mH h (va_up F ok f') mm v5) := by
    intro v5 p5 f' o5 hok hkx
    have P5 := o5.P Pw
    unfold w_M_body_L150
    rw [mH_i]
    refine ⟨hs.1, fun hn => fin v5 p5 f' o5 (fun h9 => absurd h9 hn) (hkx.er hn), fun h0 => ⟨fun hle => ?_, fun hle => ?_⟩⟩
    · rw [z_le, P5.1, P5.2.1] at hle
      have p55 := P5.2.2.2
      refine fin v5 p5 f' o5 (fun h9 => hok h9 (by omega)) (hkx.tr o5.e14 (fun _ => ⟨rfl, rfl⟩) (fun _ => ?_))
      rw [if_neg (by omega)]
      exact xk.rf
    · rw [z_le, P5.1, P5.2.1] at hle
      refine f_fail (Fl := (7, p5)) hs.1 P5 (o5.bs wb) (by decide) P5.1 (by have := wb.2.2; have := P5.2.2.2; omega) ⟨rfl, rfl⟩ (fun v' g1 g2 g3 _ => fin v' p5 f' (o5.tr g1) (fun h9 => absurd h9 g2) (hkx.tr o5.e14 (fun hn => absurd h0 hn) (fun _ => ?_)))
      rw [if_pos (by omega)]
      exact ⟨fun h9 => absurd h0 h9, fun _ => .inr ⟨(7, p5), rfl, g2, g3.2 h0 g2⟩⟩
  refine x_count hs' Pw wb (fun g v4 p4 o4 f4 k4 _ => ?_)
  have P4 := o4.P Pw
  have L139 : ∀ (v5 : Nat → Int32) (p5 : Nat), ro v4 v5 p4 p5 e' → (v5 17 = 0 → ∃ T, lgs cb g.toInt.toNat p4 p5 T ∧ T ≤ 1000) → xk w v5 p5 ((pCx cb e' p1).bind (fun p2 => pLg cb e' (e' - p2 + 1) (cV cb p1) p2 0)) → w_M_body_L139 Qr mm v3 (mH h F mm v5) := by
    intro v5 p5 o5 hT hkx
    have O5 := o4.tr o5
    unfold w_M_body_L139
    rw [mH_i]
    refine ⟨hs.1, fun hn => by rw [hid]; exact L150 v5 p5 (F ok) O5 (fun h9 => absurd h9 hn) (hkx.er hn), fun h0 => x_expression hs' hby k24 (O5.P Pw) (O5.bs wb) (fun v6 p6 f' o6 hx kx _ => L150 v6 p6 f' (O5.tr o6) (fun h6 e6 => ?_) (hkx.tr O5.e14 kx.1 (fun _ => kx)))⟩
    obtain ⟨T, t1, t2⟩ := hT h0
    exact ⟨p1, n, p4, g, p5, T, c1, by omega, f4 (o5.z h0), t1, t2, by rw [show p1 + n.toInt.toNat = p6 by omega] at *; exact hx h6⟩
  by_cases hz4 : v4 17 = 0
  · have hb4 := rC_b (f4 hz4)
    exact ⟨e' - p4 + 1 + 1, x_bodyL (g := g.toInt.toNat) hs' (by omega) (by omega) (e' - p4 + 1) 0 0 0 0 v4 p4 rfl P4 (o4.bs wb) (Nat.le_refl _) (fun _ => ⟨by omega, rfl, by omega⟩) (fun v' p' o' hT kl => L139 v' p' o' (fun h9 => by obtain ⟨T, t1, t2⟩ := hT h9; exact ⟨T, t1, by omega⟩) (k4.tr o4.e14 kl.1 (fun _ => by rw [(rC_E (f4 hz4)).2]; exact kl)))⟩
  · refine ⟨0 + 1, ?_⟩
    have hq := L139 v4 p4 (ro.rf o4.2.1 o4.2.2.2.1) (fun h9 => absurd h9 hz4) (k4.er hz4)
    unfold w_M_body_L72
    rw [mH_i]
    exact ⟨fun _ => hq, fun _ => ⟨hs.1, fun _ => hq, fun h9 => absurd h9 hz4⟩⟩
end RF9

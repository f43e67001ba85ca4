-- the reference's checker in a body: instructions, part 2
section MK6
variable {own : Nat → Nat} {mm m : Nat} {A : Nat → Nat} {h : xb_H} {F F' F2 : Nat → Nat → Int32} {v v' v2 cb lo ν : Nat → Int32} {D : zM} {cur ex : List Int} {fs r : List ckF} {f : ckF} {g : Int} {t lcn q op : Nat} {lv : Bool} {Qr : xb_H → Prop}
theorem nt_i {j i : Nat} {x : Int64} (h1 : (ν j).toBitVec.toNat = x.toBitVec.toNat) (h2 : x.toInt = i) (h3 : i < 2147483648) : (ν j).toInt = i := by
  have e1 := z_nat (ν j)
  have e2 := Z_nat x
  have e3 := z_rg (ν j)
  omega
theorem m_ckPlace {x1 x : Int32} {q1 : Nat} {y : Int64} (h1 : x1.toInt = m) (hx : x.toInt = op) (o1 : 32 ≤ op) (o2 : op ≤ 36) (hz : v 17 = 0) (hp : rdP v (qb D) (q + 1) (qe D)) (hc : rC (qc D) (q + 1) = some (q1, y)) (hq : q1 ≤ qe D) (hν : (ν (q + 1)).toBitVec.toNat = y.toBitVec.toNat) (hE : bE own mm A h F v m D t lcn lo cur ex f r g) (hQ : bQ A h F mm v D lo t lcn lv q op cur f r ν g Qr) : w_M_checkPlace mm x1 x (mH h F mm v) Qr := by
  obtain ⟨⟨hX, hcf, hct, ht⟩, ⟨hS, hex, hl, hg, hfl, hty, -⟩, hlc, hl1, hlo, -⟩ := id hE
  have hB := hX.1
  have hs := hX.rd
  have hb := rC_b hc
  have ey : (Int64.toInt32 y).toInt = (y.toInt + 2147483648) % 4294967296 - 2147483648 := z_of64 y
  obtain ⟨T1, -, -, -, -, -⟩ := hX.2.2.tb ht
  obtain ⟨-, V1, V2, -, -⟩ := gv_0 hX.2.2 ht
  unfold w_M_checkPlace
  refine ⟨hB.2.1, m_count_k hs hp hz hc hq (fun v1 o1' z1 _ => ?_)⟩
  have G1 := o1'.vg.bv
  have S1 := hS.vg o1'.vg
  refine ⟨fun h35 => ?_, fun h35 => ?_⟩
  · rw [z_le, hx] at h35
    simp only [Int32.reduceToInt] at h35
    have gn5 : gn D 5 / 4 = iM D 3 + qt D 6 := by
      show 4 * (iM D 3 + qt D 6) / 4 = _
      omega
    have L96 : ∀ y0 : Int32, (y0 ≠ 0 → y.toInt < (iM D 3 + qt D 6 : Nat)) → w_M_checkPlace_L96 Qr mm x1 x y y0 mm (mH h F mm v1) := by
      intro y0 hy
      unfold w_M_checkPlace_L96 w_M_checkPlace_L157
      refine ⟨hB.2.1, m_need hB.2.1 (by decide) (fun v2 n1 n2 n3 _ => ⟨hB.2.1, ?_⟩)⟩
      have G2 := G1.tr (bv.n2 n1)
      rw [mH_i]
      refine ⟨fun hz2 => ?_, fun hn => hQ.d G2 bF.rf hn⟩
      have hlt := hy (n2 hz2).2
      have bi := hX.2.2.ib (κ := 3)
      have bt := (hX.2.2.2.2.2.1 6 (by decide)).1
      have ei : (Int64.toInt32 y).toInt = (y.toInt.toNat : Nat) := by
        rw [ey]
        omega
      have eν : (ν (q + 1)).toInt = (y.toInt.toNat : Nat) := nt_i hν (by omega) (by omega)
      obtain ⟨W1, W2⟩ := gv_5 (D := D) (i := y.toInt.toNat)
      obtain ⟨c1, c2, c3⟩ := hX.2.2.va (g := y.toInt.toNat) (by omega)
      obtain ⟨t1, t2, t3⟩ := ub_ty (hX.2.2.1 _) c1.1.1 c1.1.2
      have vt : (ub (qc D) (vpo D y.toInt.toNat)).toInt = vty D y.toInt.toNat := rfl
      have vr_ : 124 ≤ vty D y.toInt.toNat ∧ vty D y.toInt.toNat ≤ 127 := by
        rw [← vt, t1]
        exact ⟨t2, t3⟩
      refine m_changes hX hz2 h1 ei (by omega) (fun v3 r7 k3 hr7 _ => m_variableTypeOf hX k3.2.2.2 h1 ei (by omega) (fun v4 k4 _ => ?_))
      have G4 := G2.tr (k3.1.bv.tr k4.1.bv)
      have S4 := ((S1.n2 n1).vg k3.1).vg k4.1
      refine ⟨fun n35 => m_need hB.2.1 (by decide) (fun v5 m1 m2 m3 _ => m_take hB (S4.n2 m1) hex (by omega) hfl (by rw [vt]; omega) (fun u v6 cur6 ex6 d1 d2 d3 d4 d5 _ d7 _ => hQ v6 F cur6 (f :: r) ν g (G4.tr ((bv.n2 m1).tr (bv.t3 d1))) bF.rf (fun hz6 => ⟨d2, KS_14 (by omega) (by omega) ⟨y.toInt.toNat, eν, by rw [gn5]; omega, fun e => ?_, fun _ => ⟨?_, rfl, u.toInt, ?_⟩, rfl, rfl⟩, fun _ => rfl⟩))), fun k35 => m_put hB S4 (by omega) (by rw [vt]; omega) (fun v5 w p1 p2 _ => hQ v5 _ _ (f :: r) ν _ (G4.tr (bv.p2 p1)) (bF.up (by decide)) (fun _ => ⟨p2, KS_14 (by omega) (by omega) ⟨y.toInt.toNat, eν, by rw [gn5]; omega, fun _ => .inr ⟨by rw [W1]; omega, by rw [W1, vt], rfl⟩, fun e => ?_, rfl, rfl⟩, fun _ => rfl⟩))⟩
      · rw [z_eq, hx] at n35
        simp only [Int32.reduceToInt] at n35
        omega
      · rw [W2]
        have z5 := (d7 hz6).1
        have h7 := (m2 z5).2
        rcases hr7 with ⟨e7, -⟩ | ⟨-, e7⟩
        · exact absurd e7 h7
        · exact e7
      · rw [W1]
        exact (d7 hz6).2
      · rw [z_eq, hx] at k35
        simp only [Int32.reduceToInt] at k35
        omega
    refine m_total (κ := 3) hX h1 rfl (by decide) (fun r6 hr6 _ => ⟨fun _ => L96 0 (fun h9 => absurd rfl h9), fun hle => L96 1 (fun _ => ?_)⟩)
    rw [Z_le, hr6, show (3 + 3 : Nat) = 6 from rfl] at hle
    omega
  · rw [z_le, hx] at h35
    simp only [Int32.reduceToInt] at h35
    obtain ⟨c1, c2, c3, c4⟩ := hB.kx (k := 19) (kd := 100) (n := 70000) (by decide) (by decide)
    have v20 : v1 20 = v 20 := o1'.1 20 (by decide) (by decide) (by decide)
    -- with a type
    have L51 : ∀ (v2 : Nat → Int32) (y0 : Int32), bv v v2 → zS A F v2 cur (f :: r) g → (124 ≤ y0.toInt ∧ y0.toInt ≤ 127) → (v2 17 = 0 → ∃ i : Nat, (ν (q + 1)).toInt = i ∧ i < tPn D t + lcn ∧ y0.toInt = ck_lt (qc D) lo (tPa D t) (tPn D t) i) → w_M_checkPlace_L51 Qr mm x y0 (mH h F mm v2) := by
      intro v2 y0 g1 g2 g3 g4
      unfold w_M_checkPlace_L51 w_M_checkPlace_L66 w_M_checkPlace_L78
      refine ⟨fun h32 => ⟨fun h33 => ?_, fun h33 => ⟨hB.2.1, m_put hB g2 (by omega) (by omega) (fun v3 w p1 p2 _ => hQ v3 _ (y0.toInt :: cur) (f :: r) ν (max g (cur.length + 1)) (g1.tr (bv.p2 p1)) (bF.up (by decide)) (fun hz3 => ?_))⟩⟩, fun h32 => ⟨hB.2.1, m_take hB g2 hex (by omega) hfl (by omega) (fun u v3 cur3 ex3 d1 d2 d3 d4 d5 _ d7 _ => ⟨fun h33 => hQ v3 F cur3 (f :: r) ν g (g1.tr (bv.t3 d1)) bF.rf (fun hz3 => ?_), fun h33 => ⟨hB.2.1, m_put hB d2 (by omega) (by omega) (fun v4 w p1 p2 _ => hQ v4 _ (y0.toInt :: cur3) (f :: r) ν (max g (cur3.length + 1)) (g1.tr ((bv.t3 d1).tr (bv.p2 p1))) (bF.up (by decide)) (fun hz4 => ?_))⟩⟩)⟩⟩
      · rw [z_le, hx] at h32
        rw [z_eq, hx] at h33
        simp only [Int32.reduceToInt] at h32 h33
        omega
      · rw [z_le, hx] at h32
        simp only [Int32.reduceToInt] at h32
        rw [p1 17 (by decide) (by decide)] at hz3
        obtain ⟨i, i1, i2, i3⟩ := g4 hz3
        exact ⟨p2, KS_13 (by omega) (by omega) ⟨i, tPa D t, tPn D t, i1, V1, V2, i2, fun _ => .inr ⟨by omega, by rw [i3], rfl⟩, fun e => by omega, fun e => by omega, rfl, rfl⟩, fun _ => rfl⟩
      · rw [z_le, hx] at h32
        rw [z_eq, hx] at h33
        simp only [Int32.reduceToInt] at h32 h33
        obtain ⟨z2, z3⟩ := d7 hz3
        obtain ⟨i, i1, i2, i3⟩ := g4 z2
        exact ⟨d2, KS_13 (by omega) (by omega) ⟨i, tPa D t, tPn D t, i1, V1, V2, i2, fun e => by omega, fun _ => ⟨rfl, u.toInt, by rw [← i3]; exact z3⟩, fun e => by omega, rfl, rfl⟩, fun _ => rfl⟩
      · rw [z_le, hx] at h32
        rw [z_eq, hx] at h33
        simp only [Int32.reduceToInt] at h32 h33
        rw [p1 17 (by decide) (by decide)] at hz4
        obtain ⟨z2, z3⟩ := d7 hz4
        obtain ⟨i, i1, i2, i3⟩ := g4 z2
        exact ⟨p2, KS_13 (by omega) (by omega) ⟨i, tPa D t, tPn D t, i1, V1, V2, i2, fun e => by omega, fun e => by omega, fun _ => ⟨u.toInt, cur3, by rw [← i3]; exact z3, .inr ⟨by omega, by rw [i3], rfl⟩⟩, rfl, rfl⟩, fun _ => rfl⟩
    have L27 : ∀ y0 : Int32, (y0 ≠ 0 → y.toInt < (tPn D t + lcn : Nat)) → w_M_checkPlace_L27 Qr mm x y y0 mm (mH h F mm v1) := by
      intro y0 hy
      unfold w_M_checkPlace_L27
      refine ⟨hB.2.1, m_need hB.2.1 (by decide) (fun v2 n1 n2 n3 _ => ⟨hB.2.1, ?_⟩)⟩
      have G2 := G1.tr (bv.n2 n1)
      rw [mH_i]
      refine ⟨fun hn => L51 v2 127 G2 (S1.n2 n1) (by decide) (fun h9 => absurd h9 hn), fun hz2 => ?_⟩
      have hlt := hy (n2 hz2).2
      have ei : (Int64.toInt32 y).toInt = (y.toInt.toNat : Nat) := by
        rw [ey]
        omega
      refine ⟨A 19, c1, c2, ?_, ?_⟩
      · rw [z_in, ei]
        show _ ∧ _ < ((xb_n h (A 19) : Nat) : Int)
        omega
      · rw [mH_o c4, z_cl, ei, Int.toNat_natCast]
        obtain ⟨l1, l2, l3⟩ := hlo y.toInt.toNat (by omega)
        exact L51 v2 _ G2 (S1.n2 n1) ⟨l2, l3⟩ (fun _ => ⟨y.toInt.toNat, nt_i hν (by omega) (by omega), by omega, l1⟩)
    rw [mH_i]
    refine ⟨fun _ => L27 0 (fun h9 => absurd rfl h9), fun hle => L27 1 (fun _ => ?_)⟩
    rw [Z_le, Z_of32, v20, hlc] at hle
    omega
theorem m_ckCalls {x1 x : Int32} {q1 : Nat} {y : Int64} (h1 : x1.toInt = m) (hx : x.toInt = op) (ho : op = 16 ∨ op = 17 ∨ op = 26 ∨ op = 27) (hz : v 17 = 0) (hp : rdP v (qb D) (q + 1) (qe D)) (hc : op = 16 ∨ op = 17 → rC (qc D) (q + 1) = some (q1, y) ∧ q1 ≤ qe D ∧ (ν (q + 1)).toBitVec.toNat = y.toBitVec.toNat) (hE : bE own mm A h F v m D t lcn lo cur ex f r g) (hQ : bQ A h F mm v D lo t lcn lv q op cur f r ν g Qr) : w_M_checkCalls mm x1 x (mH h F mm v) Qr := by
  obtain ⟨⟨hX, hcf, hct, ht⟩, ⟨hS, hex, hl, hg, hfl, hty, -⟩, -⟩ := id hE
  have hB := hX.1
  have hs := hX.rd
  have bt1 := (hX.2.2.2.2.2.1 1 (by decide)).1
  have bt3 := (hX.2.2.2.2.2.1 3 (by decide)).1
  have bi := hX.2.2.ib (κ := 0)
  have gn0 : gn D 0 / 5 = qt D 1 := by
    show 5 * qt D 1 / 5 = _
    omega
  have gn2 : gn D 2 / 2 = iM D 0 + qt D 3 := by
    show 2 * (iM D 0 + qt D 3) / 2 = _
    omega
  have gn3 : gn D 3 / 3 = iM D 1 + qt D 4 := by
    show 3 * (iM D 1 + qt D 4) / 3 = _
    omega
  -- the result of a type
  have res : ∀ (u : Nat) (z : Int32) (v8 : Nat → Int32) (cur8 : List Int) (QQ : xb_H → Prop), u < qt D 1 → z.toInt = u → zS A F v8 cur8 (f :: r) g → cur8.length ≤ cur.length → (∀ (v9 : Nat → Int32) (F9 : Nat → Nat → Int32) (cur9 : List Int) (g9 : Int), bv v8 v9 → bF A F F9 → zS A F9 v9 cur9 (f :: r) g9 → (v9 17 = 0 → v8 17 = 0 ∧ ck_pt cur8 g (tRt D u) cur9 g9) → QQ (mH h F9 mm v9)) → w_M_resultOf mm x1 z (mH h F mm v8) (fun r11 h10 => xb_ext (mH h F mm v8) h10 → w_M_putResult mm r11 h10 (fun h12 => xb_ext h10 h12 → QQ h12)) := by
    intro u z v8 cur8 QQ hu hzu s8 l8 hQQ
    obtain ⟨-, -, -, T4, -, -⟩ := hX.2.2.tb hu
    by_cases hz8 : v8 17 = 0
    · exact m_resultOf hX hz8 h1 hzu hu (fun v9 r11 g9 z9 e9 _ => m_putResult hB (s8.vg g9) (by omega) (by omega) (fun v10 F10 cur10 g10 p1 p2 p3 p4 _ => hQQ v10 F10 cur10 g10 (g9.bv.tr (bv.p2 p1)) p2 p3 (fun _ => ⟨hz8, by rw [← e9]; exact p4⟩)))
    · exact m_resultOf_d hX hz8 h1 hzu hu (fun v9 g9 z9 _ => m_putResult hB (s8.vg g9) (by omega) (by decide) (fun v10 F10 cur10 g10 p1 p2 p3 p4 _ => hQQ v10 F10 cur10 g10 (g9.bv.tr (bv.p2 p1)) p2 p3 (fun h9 => absurd h9 (by rw [p1 17 (by decide) (by decide)]; exact z9))))
  have lit : ∀ c : Int32, x = c ↔ (op : Int) = c.toInt := fun c => by rw [z_eq, hx]
  unfold w_M_checkCalls w_M_checkCalls_L207 w_M_checkCalls_L210
  refine ⟨fun n16 => ⟨fun n17 => ⟨fun n26 => ⟨hB.2.1, ?_⟩, fun k26 => ⟨hB.2.1, ?_⟩⟩, fun k17 => ⟨hB.2.1, ?_⟩⟩, fun k16 => ⟨hB.2.1, ?_⟩⟩
  · have o27 : op = 27 := by
      simp only [lit, Int32.reduceToInt] at n16 n17 n26
      omega
    refine m_take hB hS hex (by omega) hfl (by decide) (fun u1 v1 c1 e1 a1 a2 a3 a4 a5 _ a7 _ => m_take hB a2 a3 (by omega) hfl (by decide) (fun u2 v2 c2 e2 b1 b2 b3 b4 b5 b6 b7 _ => ?_))
    have y2 : ck_t u2.toInt := b6.elim (fun h => .inl h) (fun h => hty _ (a4 _ h))
    have y2r := y2.rg
    refine m_take hB b2 b3 (by omega) hfl (fun h64 => by rw [h64] at y2; rcases y2 with h9 | h9 <;> omega) (fun u3 v3 c3 e3 d1 d2 d3 d4 d5 d6 d7 _ => ?_)
    have y3 : ck_t u3.toInt := d6.elim (fun h => .inl h) (fun h => hty _ (a4 _ (b4 _ h)))
    have y3r := y3.rg
    have fin : ∀ w : Int32, (w.toInt = if u2.toInt = 0 then u3.toInt else u2.toInt) → xb_k (mH h F mm v3) mm = 9 ∧ w_M_put mm w (mH h F mm v3) (fun h2 => xb_ext (mH h F mm v3) h2 → Qr h2) := fun w hw => by
      have wr : ck_t w.toInt := by
        rw [hw]
        split
        · exact y3
        · exact y2
      have wr' := wr.rg
      refine ⟨hB.2.1, m_put hB d2 (by omega) wr' (fun v4 W p1 p2 _ => hQ v4 _ _ (f :: r) ν _ ((bv.t3 a1).tr ((bv.t3 b1).tr ((bv.t3 d1).tr (bv.p2 p1)))) (bF.up (by decide)) (fun hz4 => ⟨p2, KS_12 (by omega) ⟨c1, c2, c3, u1.toInt, u2.toInt, u3.toInt, ?_, ?_, ?_, .inr ⟨?_, by rw [hw], rfl⟩, rfl, rfl⟩, fun _ => rfl⟩))⟩
      all_goals
        rw [p1 17 (by decide) (by decide)] at hz4
        obtain ⟨z2, w3⟩ := d7 hz4
        obtain ⟨z1, w2⟩ := b7 z2
        obtain ⟨z0, w1⟩ := a7 z1
      · exact w1
      · exact w2
      · exact w3
      · rw [← hw]
        rcases wr with h9 | h9 <;> omega
    exact ⟨fun hn => fin u2 (by rw [if_neg (fun e9 => hn (by rw [z_eq, e9]; rfl))]), fun h0 => fin u3 (by rw [if_pos (by rw [h0]; rfl)])⟩
  · have o26 : op = 26 := by
      rw [lit] at k26
      simp only [Int32.reduceToInt] at k26
      omega
    exact m_take hB hS hex (by omega) hfl (by decide) (fun u1 v1 c1 e1 a1 a2 a3 a4 a5 _ a7 _ => hQ v1 F c1 (f :: r) ν g (bv.t3 a1) bF.rf (fun hz1 => ⟨a2, KS_11 (by omega) ⟨⟨u1.toInt, (a7 hz1).2⟩, rfl, rfl, rfl⟩, fun _ => rfl⟩))
  · have o17 : op = 17 := by
      rw [lit] at k17
      simp only [Int32.reduceToInt] at k17
      omega
    obtain ⟨k1, k2, k3⟩ := hc (.inr o17)
    have hb := rC_b k1
    refine m_count_k hs hp hz k1 k2 (fun v1 o1 z1 _ => ?_)
    have L121 : ∀ (v2 : Nat → Int32) (y0 : Int32), bv v v2 → zS A F v2 cur (f :: r) g → (v2 17 = 0 → y0 ≠ 0 → 0 < iM D 1 + qt D 4 ∧ y.toInt < qt D 1) → w_M_checkCalls_L121 Qr mm x1 y y0 mm (mH h F mm v2) := by
      intro v2 y0 g1 g2 hy
      unfold w_M_checkCalls_L121 w_M_checkCalls_L158 w_M_checkCalls_L210
      refine ⟨hB.2.1, m_need hB.2.1 (by decide) (fun v3 n1 n2 n3 _ => ⟨hB.2.1, m_take hB (g2.n2 n1) hex (by omega) hfl (by decide) (fun u4 v4 c4 e4 a1 a2 a3 a4 a5 _ a7 _ => ?_)⟩)⟩
      have G4 := g1.tr ((bv.n2 n1).tr (bv.t3 a1))
      rw [mH_i]
      refine ⟨fun hn => hQ.d G4 bF.rf hn, fun hz4 => ?_⟩
      obtain ⟨z3, t4⟩ := a7 hz4
      obtain ⟨z2, ny⟩ := n2 z3
      obtain ⟨w1, w2⟩ := hy z2 ny
      have ei : (Int64.toInt32 y).toInt = (y.toInt.toNat : Nat) := by
        rw [z_of64]
        omega
      have hu : y.toInt.toNat < qt D 1 := by omega
      obtain ⟨-, V1, V2, -, V4⟩ := gv_0 hX.2.2 hu
      refine m_takeParameters hX h1 ei hu hz4 a2 a3 (by omega) hfl (fun v5 c5 e5 b1 b2 b3 b4 b5 b6 _ => res y.toInt.toNat _ v5 c5 Qr hu ei b2 (by omega) (fun v9 F9 c9 g9 p1 p2 p3 p4 => hQ v9 F9 c9 (f :: r) ν g9 (G4.tr (b1.tr p1)) p2 (fun hz9 => ?_)))
      obtain ⟨z5, t9⟩ := p4 hz9
      exact ⟨p3, KS_10 (by omega) ⟨y.toInt.toNat, tPa D y.toInt.toNat, tPn D y.toInt.toNat, c4, c5, u4.toInt, by rw [gn3]; exact w1, nt_i k3 (by omega) (by omega), by rw [gn0]; exact hu, V1, V2, t4, b6 z5, by rw [V4]; exact t9, rfl, rfl⟩, fun _ => rfl⟩
    have L98 : ∀ y0 : Int32, (y0 ≠ 0 → 0 < iM D 1 + qt D 4) → w_M_checkCalls_L98 Qr mm x1 y y0 mm (mH h F mm v1) := by
      intro y0 hy
      unfold w_M_checkCalls_L98
      refine ⟨hB.2.1, m_need hB.2.1 (by decide) (fun v2 n1 n2 n3 _ => ⟨hB.2.1, m_manyOf (s := 1) hX h1 rfl (by decide) (fun r6 hr6 _ => ⟨fun _ => L121 v2 0 (o1.vg.bv.tr (bv.n2 n1)) ((hS.vg o1.vg).n2 n1) (fun _ h9 => absurd rfl h9), fun hle => L121 v2 1 (o1.vg.bv.tr (bv.n2 n1)) ((hS.vg o1.vg).n2 n1) (fun hz2 _ => ⟨hy (n2 hz2).2, ?_⟩)⟩)⟩)⟩
      rw [Z_le, Z_of32, hr6] at hle
      omega
    refine m_total (κ := 1) hX h1 rfl (by decide) (fun r19 hr19 _ => ⟨fun _ => L98 0 (fun h9 => absurd rfl h9), fun hle => L98 1 (fun _ => ?_)⟩)
    rw [Z_le, hr19, show (3 + 1 : Nat) = 4 from rfl, show (0 : Int64).toInt = 0 from rfl] at hle
    omega
  · have o16 : op = 16 := by
      rw [lit] at k16
      simp only [Int32.reduceToInt] at k16
      omega
    obtain ⟨k1, k2, k3⟩ := hc (.inl o16)
    have hb := rC_b k1
    refine m_count_k hs hp hz k1 k2 (fun v1 o1 z1 _ => ?_)
    have L28 : ∀ y0 : Int32, (y0 ≠ 0 → y.toInt < (iM D 0 + qt D 3 : Nat)) → w_M_checkCalls_L28 Qr mm x1 y y0 mm (mH h F mm v1) := by
      intro y0 hy
      unfold w_M_checkCalls_L28 w_M_checkCalls_L67 w_M_checkCalls_L210
      refine ⟨hB.2.1, m_need hB.2.1 (by decide) (fun v2 n1 n2 n3 _ => ⟨hB.2.1, ?_⟩)⟩
      have G2 := o1.vg.bv.tr (bv.n2 n1)
      have S2 := (hS.vg o1.vg).n2 n1
      rw [mH_i]
      refine ⟨fun hn => hQ.d G2 bF.rf hn, fun hz2 => ?_⟩
      have hlt := hy (n2 hz2).2
      have ei : (Int64.toInt32 y).toInt = (y.toInt.toNat : Nat) := by
        rw [z_of64]
        omega
      have hi : y.toInt.toNat < iM D 0 + qt D 3 := by omega
      have hu := hcf _ hi
      obtain ⟨-, V1, V2, -, V4⟩ := gv_0 hX.2.2 hu
      refine m_typeOf hX hz2 h1 ei hi (by omega) (fun v3 r7 g3 z3 e7 _ => m_takeParameters hX h1 e7 hu z3 (S2.vg g3) hex (by omega) hfl (fun v5 c5 e5 b1 b2 b3 b4 b5 b6 _ => res _ r7 v5 c5 Qr hu e7 b2 (by omega) (fun v9 F9 c9 g9 p1 p2 p3 p4 => hQ v9 F9 c9 (f :: r) ν g9 (G2.tr (g3.bv.tr (b1.tr p1))) p2 (fun hz9 => ?_))))
      obtain ⟨z5, t9⟩ := p4 hz9
      exact ⟨p3, KS_9 (by omega) ⟨y.toInt.toNat, fty D y.toInt.toNat, tPa D (fty D y.toInt.toNat), tPn D (fty D y.toInt.toNat), c5, nt_i k3 (by omega) (by omega), by rw [gn2]; exact hi, gv_2 (by omega), V1, V2, b6 z5, by rw [V4]; exact t9, rfl, rfl⟩, fun _ => rfl⟩
    refine m_total (κ := 0) hX h1 rfl (by decide) (fun r25 hr25 _ => ⟨fun _ => L28 0 (fun h9 => absurd rfl h9), fun hle => L28 1 (fun _ => ?_)⟩)
    rw [Z_le, hr25, show (3 + 0 : Nat) = 3 from rfl] at hle
    omega
end MK6

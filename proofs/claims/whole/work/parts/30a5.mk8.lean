-- the reference's checker in a body: flow, and an instruction
section MK8
variable {own : Nat → Nat} {mm m : Nat} {A : Nat → Nat} {h : xb_H} {F F' F2 : Nat → Nat → Int32} {v v' v2 cb lo ν ν0 : Nat → Int32} {D : zM} {cur ex : List Int} {fs r : List ckF} {f : ckF} {g : Int} {t lcn q op q' : Nat} {lv : Bool} {Qr : xb_H → Prop}
theorem rb_ty (hby : -128 ≤ (cb q).toInt ∧ (cb q).toInt ≤ 127) (h1 : ub cb q = 64 ∨ (¬ ub cb q < 124 ∧ ¬ 127 < ub cb q)) : (ub cb q).toInt = (cb q).toInt ∧ tyl (cb q).toInt := by
  rcases h1 with h1 | h1
  · have e := ub_cb hby (by rw [h1]; decide)
    rw [← e, h1]
    exact ⟨rfl, .inl rfl⟩
  · obtain ⟨a1, a2, a3⟩ := ub_ty hby h1.1 h1.2
    rw [a1]
    exact ⟨rfl, .inr ⟨a2, a3⟩⟩
theorem tyl.rg {x : Int} (h : tyl x) : -128 ≤ x ∧ x ≤ 127 := by
  rcases h with h | h <;> omega
theorem m_ckFlow {x : Int32} (hx : x.toInt = op) (ho : op < 16) (hz : v 17 = 0) (hp : rdP v (qb D) (q + 1) (qe D)) (hop : (qc D q).toInt % 256 = op) (hR : nR (qc D) ν0 q q') (hq : q' ≤ qe D) (hν : ∀ j, q ≤ j → ν j = ν0 j) (hfa : ∀ y ∈ f :: r, -1 ≤ fa y ∧ fa y ≤ 100000) (h200 : 2 ≤ op → op ≤ 4 → (f :: r).length ≤ 200)
    (hE : bE own mm A h F v m D t lcn lo cur ex f r g) (hQ : bQ A h F mm v D lo t lcn lv q op cur f r ν g Qr) : w_M_checkFlow mm x (mH h F mm v) Qr := by
  obtain ⟨⟨hX, hcf, hct, ht⟩, ⟨hS, hex, hl, hg, hfl, hty, hlb⟩, -, -, -, hl0⟩ := id hE
  have hB := hX.1
  have hs := hX.rd
  obtain ⟨s1, s2, s3, s4, s5, s6, s7⟩ := id hS
  obtain ⟨⟨f1, f2, f3, f4, f5⟩, sr⟩ := id s5
  obtain ⟨hRw, hR1, hR2⟩ := hR
  rw [hop] at hRw hR1 hR2
  have hqb := rW_b hRw
  have hE2 := hX.2.2.2.2.1
  have hlf := hlb f List.mem_cons_self
  have e29 : (v 29 - 1).toInt = r.length := by
    rw [z_sub, s2]
    simp only [Int32.reduceToInt, List.length_cons] at hfl ⊢
    omega
  have c29 : (v 29 - 1).toNatClampNeg = r.length := by
    rw [z_cl, e29]
    omega
  have hfl' : r.length + 1 ≤ 201 := by simp only [List.length_cons] at hfl; exact hfl
  have in29 : ∀ n : Nat, 202 = n → vp_in (v 29 - 1) n := fun n hn => by
    rw [z_in, e29]
    omega
  have dieT : ∀ {v1 v2 : Nat → Int32}, (∀ j, j ≠ 22 → v2 j = v1 j) → bv v1 v2 := fun hd j _ _ _ _ _ j6 _ _ => hd j j6
  have lit : ∀ c : Int32, x = c → (op : Int) = c.toInt := fun c hc => by rw [← hx, hc]
  have none_ : ∀ c : Int32, c.toInt = op → wk_sh op = 13 → False := fun c _ h13 => by
    rw [h13] at hRw
    exact rW_13i hRw
  have L288 : wk_sh op = 13 → w_M_checkFlow_L288 Qr (mH h F mm v) := fun h13 => by
    rw [h13] at hRw
    exact (rW_13i hRw).elim
  -- opening
  have L99 : ∀ (v1 : Nat → Int32) (cur1 : List Int), (op = 2 ∨ op = 3 ∨ op = 4) → bv v v1 → rdP v1 (qb D) (q + 1) (qe D) → zS A F v1 cur1 (f :: r) g → cur1.length ≤ cur.length → (v1 17 = 0 → (op ≠ 4 → cur1 = cur) ∧ (op = 4 → ∃ r3, ck_tk f cur 127 r3 cur1)) → w_M_checkFlow_L99 Qr mm x (mH h F mm v1) := by
    intro v1 cur1 o4 g1 P1 g2 g3 g4
    have sh1 : wk_sh op = 1 := wk_sh_o (by omega) (by omega)
    rw [sh1] at hRw
    obtain ⟨w1, w2⟩ := rW_1i.mp hRw
    obtain ⟨t1, t2⟩ := rb_ty (hX.2.2.1 (q + 1)) w2
    have t2' := t2.rg
    unfold w_M_checkFlow_L99
    refine ⟨hB.2.1, m_next_d hs P1 (by omega) (fun v2 o2 e17 _ => ?_)⟩
    have fin : ∀ y0 : Int32, y0.toInt = (if (op : Int) = 3 then 64 else (qc D (q + 1)).toInt) → w_M_checkFlow_L117 Qr (ub (qc D) (q + 1)) y0 x mm (mH h F mm v2) := fun y0 hy => by
      unfold w_M_checkFlow_L117 w_M_checkFlow_L288
      refine ⟨hB.2.1, m_begin (o := (q : Int)) (lv := lv) hB (g2.vg o2.vg) (Nat.le_trans (h200 (by omega) (by omega)) (by omega)) (by omega) (fun v3 F3 b1 b2 b3 _ => hQ v3 F3 cur1 _ (va_up ν q (nI cur1.length)) g (g1.tr (o2.vg.bv.tr (fun j _ _ _ _ _ _ _ j8 => b1 j j8))) b2 (fun hz3 => ⟨b3, KS_2 (by omega) (by omega) ⟨nI cur1.length, ?_, ?_, z_nI (by omega), ?_, rfl, rfl⟩, fun h9 => by rw [sh1] at h9; omega⟩))⟩
      · rw [b1 17 (by decide), e17] at hz3
        exact fun h9 => (g4 hz3).1 (by omega)
      · rw [b1 17 (by decide), e17] at hz3
        exact fun h9 => (g4 hz3).2 (by omega)
      · rw [hx, hy, t1]
    refine ⟨fun n3 => fin _ ?_, fun k3 => fin 64 ?_⟩
    · rw [if_neg (fun e9 => n3 (by rw [z_eq, hx, e9]; rfl))]
      exact t1
    · have e3 := lit 3 k3
      simp only [Int32.reduceToInt] at e3
      rw [if_pos e3]
      rfl
  have L87 : (op = 2 ∨ op = 3 ∨ op = 4) → w_M_checkFlow_L87 Qr mm x (mH h F mm v) := fun o4 => by
    unfold w_M_checkFlow_L87
    refine ⟨fun n4 => L99 v cur o4 bv.rf hp hS (Nat.le_refl _) (fun _ => ⟨fun _ => rfl, fun e4 => absurd (by rw [z_eq, hx, e4]; rfl) n4⟩), fun k4 => ⟨hB.2.1, m_take hB hS hex (by omega) hfl (by decide) (fun u v1 c1 e1 a1 a2 a3 a4 a5 _ a7 _ => L99 v1 c1 o4 (bv.t3 a1) ⟨by rw [a1 15 (by decide) (by decide) (by decide)]; exact hp.1, by rw [a1 16 (by decide) (by decide) (by decide)]; exact hp.2.1, hp.2.2⟩ a2 a5 (fun hz1 => ⟨fun n4 => ?_, fun _ => ⟨u.toInt, (a7 hz1).2⟩⟩))⟩⟩
    have := lit 4 k4
    simp only [Int32.reduceToInt] at this
    omega
  -- a count that is written
  have one : (op = 12 ∨ op = 13 ∨ op = 14) → ∃ q1 y, rC (qc D) (q + 1) = some (q1, y) ∧ q1 ≤ qe D ∧ (ν (q + 1)).toBitVec.toNat = y.toBitVec.toNat ∧ (op = 14 → ∀ k, k ≤ y.toInt.toNat → ∃ pk q2 z, cks (qc D) k q1 = some pk ∧ rC (qc D) pk = some (q2, z) ∧ q2 ≤ qe D ∧ (ν (q + 2 + k)).toBitVec.toNat = z.toBitVec.toNat) ∧ (op = 14 → q + 2 + y.toInt.toNat < 100000) := by
    intro o3
    have sh : wk_sh op = 4 ∨ wk_sh op = 5 := by
      rcases o3 with e | e | e <;> subst e
      · exact .inl rfl
      · exact .inl rfl
      · exact .inr rfl
    obtain ⟨q1, y, c1, c2, c3⟩ := hR2 (by omega)
    have hb := rC_b c1
    have hbig : q1 ≤ q' ∧ (op = 14 → ∃ p2 z, cks (qc D) y.toInt.toNat q1 = some p2 ∧ rC (qc D) p2 = some (q', z)) := by
      rcases o3 with e | e | e <;> subst e
      · obtain ⟨x2, w⟩ := rW_4i.mp hRw
        obtain ⟨e1, -⟩ := rC_in c1 w
        exact ⟨by omega, fun e => by omega⟩
      · obtain ⟨x2, w⟩ := rW_4i.mp hRw
        obtain ⟨e1, -⟩ := rC_in c1 w
        exact ⟨by omega, fun e => by omega⟩
      · obtain ⟨p1, L, p2, z, w1, w2, w3⟩ := rW_5i.mp hRw
        obtain ⟨e1, e2⟩ := rC_in c1 w1
        subst e1 e2
        have := cks_b w2
        have := rC_b w3
        exact ⟨by omega, fun _ => ⟨p2, z, w2, w3⟩⟩
    refine ⟨q1, y, c1, by omega, by rw [hν (q + 1) (by omega)]; exact c2, fun e14 k hk => ?_, fun e14 => ?_⟩
    · obtain ⟨p2, z2, w2, w3⟩ := hbig.2 e14
      obtain ⟨pk, q2, z, d1, d2, d3⟩ := c3 (by subst e14; rfl) k hk
      refine ⟨pk, q2, z, d1, d2, ?_, by rw [hν (q + 2 + k) (by omega)]; exact d3⟩
      rcases Nat.lt_or_ge k y.toInt.toNat with h9 | h9
      · obtain ⟨pk', g1, g2⟩ := cks_pre w2 (show k + 1 ≤ y.toInt.toNat by omega)
        have := cks_nx d1 d2
        rw [this] at g1
        simp only [Option.some.injEq] at g1
        have := cks_b g2
        have := rC_b w3
        omega
      · rw [show k = y.toInt.toNat by omega, w2] at d1
        simp only [Option.some.injEq] at d1
        subst d1
        obtain ⟨e1, -⟩ := rC_in w3 d2
        omega
    · obtain ⟨p2, z2, w2, w3⟩ := hbig.2 e14
      have := cks_b w2
      have := rC_b w3
      omega
  have kS : ∀ {v1 : Nat → Int32}, (∀ j, j ≠ 17 → j ≠ 18 → v1 j = v j) → True := fun _ => trivial
  unfold w_M_checkFlow
  refine ⟨fun k => ⟨hB.2.1, ?_⟩, fun k => ?_, fun k => L87 ?_, fun k => L87 ?_, fun k => L87 ?_, fun k => ⟨hB.2.1, ?_⟩, fun k => ?_, fun k => ?_, fun k => ?_, fun k => ?_, fun k => ?_, fun k => ⟨hB.2.1, ?_⟩, fun k => ⟨hB.2.1, ?_⟩, fun k => ⟨hB.2.1, ?_⟩, fun k => ⟨hB.2.1, ?_⟩, fun k => ⟨hB.2.1, ?_⟩, fun n0 n1 n2 n3 n4 n5 n6 n7 n8 n9 n10 n11 n12 n13 n14 n15 => ?_⟩
  · have eo := lit 0 k
    simp only [Int32.reduceToInt] at eo
    unfold w_M_checkFlow_L288
    exact m_dead hB hS hex hfl (fun v1 w d1 d2 _ => hQ v1 _ (fb f) _ ν g (dieT d1) (bF.up (by decide)) (fun _ => ⟨d2, KS_0 (by omega) ⟨rfl, rfl, rfl, rfl⟩, fun _ => rfl⟩))
  · have eo := lit 1 k
    simp only [Int32.reduceToInt] at eo
    unfold w_M_checkFlow_L288
    exact hQ v F cur (f :: r) ν g bv.rf bF.rf (fun _ => ⟨hS, KS_1 (by omega) ⟨rfl, rfl, rfl, rfl⟩, fun _ => rfl⟩)
  · have eo := lit 2 k
    simp only [Int32.reduceToInt] at eo
    omega
  · have eo := lit 3 k
    simp only [Int32.reduceToInt] at eo
    omega
  · have eo := lit 4 k
    simp only [Int32.reduceToInt] at eo
    omega
  · have eo := lit 5 k
    simp only [Int32.reduceToInt] at eo
    have e5 : op = 5 := by omega
    obtain ⟨c1, c2, c3, c4⟩ := hB.kx (k := 26) (kd := 102) (n := 202) (by decide) (by decide)
    rw [mH_i]
    refine ⟨A 26, c1, c2, in29 _ c3.symm, fun v14 e14 => ?_⟩
    rw [mH_o c4, c29] at e14
    unfold w_M_checkFlow_L288
    refine m_closeOne hB hS hex (by omega) hfl (fun v1 cur1 a1 a2 a3 a4 _ => m_begin (o := fa f) (lv := lv) hB a2 (by omega) (by omega) (fun v3 F3 b1 b2 b3 _ => ?_))
    refine hQ v3 F3 cur1 ((5, fa f, fe f, fe f, cur1, 0, lv) :: r) ν g (fun j j1 j2 j3 j4 j5 j6 j7 j8 => (b1 j j8).trans (a1 j j4 j5 j6 j8)) b2 (fun hz3 => ?_)
    rw [b1 17 (by decide)] at hz3
    obtain ⟨z1, y1, rr, y2⟩ := a4 hz3
    have e9 : v14.toInt = fe f := by rw [e14]; exact f3
    refine ⟨?_, KS_3 (by omega) ⟨⟨rr, y2⟩, y1, by rw [y1], rfl, rfl⟩, fun _ => rfl⟩
    rw [e9] at b3
    exact b3
  · have eo := lit 6 k
    simp only [Int32.reduceToInt] at eo
    exact L288 (by rw [show op = 6 by omega]; rfl)
  · have eo := lit 7 k
    simp only [Int32.reduceToInt] at eo
    exact L288 (by rw [show op = 7 by omega]; rfl)
  · have eo := lit 8 k
    simp only [Int32.reduceToInt] at eo
    exact L288 (by rw [show op = 8 by omega]; rfl)
  · have eo := lit 9 k
    simp only [Int32.reduceToInt] at eo
    exact L288 (by rw [show op = 9 by omega]; rfl)
  · have eo := lit 10 k
    simp only [Int32.reduceToInt] at eo
    exact L288 (by rw [show op = 10 by omega]; rfl)
  · have eo := lit 11 k
    simp only [Int32.reduceToInt] at eo
    obtain ⟨b1, b2, b3, b4⟩ := hB.kx (k := 24) (kd := 102) (n := 202) (by decide) (by decide)
    obtain ⟨c1, c2, c3, c4⟩ := hB.kx (k := 26) (kd := 102) (n := 202) (by decide) (by decide)
    rw [mH_i]
    refine ⟨A 24, b1, b2, in29 _ b3.symm, fun v29 e29' => ⟨A 26, c1, c2, in29 _ c3.symm, fun v33 e33 => ?_⟩⟩
    rw [mH_o b4, c29] at e29'
    rw [mH_o c4, c29] at e33
    have e33' : v33.toInt = fe f := by rw [e33]; exact f3
    have e29'' : v29.toInt = fk f := by rw [e29']; exact f1
    have rfe := hlf.2.rg
    refine m_closeOne hB hS hex (by omega) hfl (fun v1 cur1 a1 a2 a3 a4 _ => ?_)
    have G1 : bv v v1 := fun j j1 j2 j3 j4 j5 j6 j7 j8 => a1 j j4 j5 j6 j8
    have L199 : ∀ y0 : Int32, (y0 ≠ 0 → fk f = 4 → fe f = 64) → w_M_checkFlow_L199 Qr mm v33 y0 mm (mH h F mm v1) := fun y0 hy => by
      unfold w_M_checkFlow_L199 w_M_checkFlow_L288
      refine ⟨hB.2.1, m_need hB.2.1 (by decide) (fun v2 n1 n2 n3 _ => ⟨hB.2.1, m_putResult hB (a2.n2 n1) (by omega) (by omega) (fun v3 F3 cur3 g3 p1 p2 p3 p4 _ => hQ v3 F3 cur3 r ν g3 (G1.tr ((bv.n2 n1).tr (bv.p2 p1))) p2 (fun hz3 => ?_))⟩)⟩
      rw [p1 17 (by decide) (by decide)] at hz3
      obtain ⟨z2, ny⟩ := n2 hz3
      obtain ⟨z1, y1, rr, y2⟩ := a4 z2
      rw [e33', y1] at p4
      exact ⟨p3, KS_4 (by omega) ⟨⟨rr, y2⟩, hy ny, p4, rfl, rfl⟩, fun _ => rfl⟩
    unfold w_M_checkFlow_L194
    refine ⟨fun n4 => L199 1 (fun _ h4 => absurd (by rw [z_eq, e29'', h4]; rfl) n4), fun k4 => ⟨fun _ => L199 0 (fun h9 => absurd rfl h9), fun k64 => L199 1 (fun _ _ => ?_)⟩⟩
    rw [← e33', k64]
    rfl
  · have eo := lit 12 k
    simp only [Int32.reduceToInt] at eo
    obtain ⟨q1, y, c1, c2, c3, -, -⟩ := one (by omega)
    have hb := rC_b c1
    unfold w_M_checkFlow_L288
    refine m_count_k hs hp hz c1 c2 (fun v1 o1 z1 _ => m_label hB (hS.vg o1.vg) hfl (by omega) (fun u v2 l1 l2 l3 _ => m_takeResult hB ((hS.vg o1.vg).n2 l1) hex (by omega) hfl (fun rr v3 cur3 ex3 a1 a2 a3 a4 a5 a6 _ => m_dead hB a2 a3 hfl (fun v4 w d1 d2 _ => ?_))))
    have GG : bv v v4 := o1.vg.bv.tr ((bv.n2 l1).tr ((bv.t3 a1).tr (dieT d1)))
    by_cases hz4 : v4 17 = 0
    · have hz4' := hz4
      rw [d1 17 (by decide)] at hz4'
      obtain ⟨z2, t3⟩ := a6 hz4'
      obtain ⟨-, i, f', i1, i2, i3⟩ := l2 z2
      have hf := hfa f' (List.mem_of_getElem? i2)
      have hi := (s5.at i2).1
      refine hQ v4 _ (fb f) (fdie f :: r) (va_up ν (q + 1) (Int32.ofInt (fa f'))) g GG (bF.up (by decide)) (fun _ => ⟨d2, KS_5 (by omega) ⟨i, f', Int32.ofInt (fa f'), rr, cur3, nt_i c3 i1 (by omega), i2, z_ofI (by omega) (by omega), by rw [← i3]; exact t3, rfl, rfl, rfl, rfl⟩, fun _ => by rw [xh_up, if_neg (by omega)]⟩)
    · exact hQ.d GG (bF.up (by decide)) hz4
  · have eo := lit 13 k
    simp only [Int32.reduceToInt] at eo
    obtain ⟨q1, y, c1, c2, c3, -, -⟩ := one (by omega)
    have hb := rC_b c1
    unfold w_M_checkFlow_L288
    refine m_count_k hs hp hz c1 c2 (fun v1 o1 z1 _ => m_label hB (hS.vg o1.vg) hfl (by omega) (fun u v2 l1 l2 l3 _ => m_take hB ((hS.vg o1.vg).n2 l1) hex (by omega) hfl (by decide) (fun u5 v5 cur5 ex5 e1 e2 e3 e4 e5 _ e7 _ => m_takeResult hB e2 e3 (by omega) hfl (fun rr v3 cur3 ex3 a1 a2 a3 a4 a5 a6 _ => m_putResult hB a2 (by omega) ?_ (fun v4 F4 cur4 g4 p1 p2 p3 p4 _ => ?_)))))
    · by_cases hz2 : v2 17 = 0
      · obtain ⟨-, i, f', i1, i2, i3⟩ := l2 hz2
        rw [i3]
        exact (hlb f' (List.mem_of_getElem? i2)).1.rg
      · rw [l3 hz2]
        decide
    · have GG : bv v v4 := o1.vg.bv.tr ((bv.n2 l1).tr ((bv.t3 e1).tr ((bv.t3 a1).tr (bv.p2 p1))))
      by_cases hz4 : v4 17 = 0
      · have hz4' := hz4
        rw [p1 17 (by decide) (by decide)] at hz4'
        obtain ⟨z5, t3⟩ := a6 hz4'
        obtain ⟨z2, t5⟩ := e7 z5
        obtain ⟨-, i, f', i1, i2, i3⟩ := l2 z2
        have hf := hfa f' (List.mem_of_getElem? i2)
        have hi := (s5.at i2).1
        rw [i3] at t3 p4
        exact hQ v4 F4 cur4 (f :: r) (va_up ν (q + 1) (Int32.ofInt (fa f'))) g4 GG p2 (fun _ => ⟨p3, KS_6 (by omega) ⟨i, f', Int32.ofInt (fa f'), cur5, cur3, u5.toInt, rr, nt_i c3 i1 (by omega), i2, z_ofI (by omega) (by omega), t5, t3, p4, rfl, rfl⟩, fun _ => by rw [xh_up, if_neg (by omega)]⟩)
      · exact hQ.d GG p2 hz4
  · have eo := lit 14 k
    simp only [Int32.reduceToInt] at eo
    obtain ⟨q1, y, c1, c2, c3, c4, c5⟩ := one (by omega)
    unfold w_M_checkFlow_L288
    refine m_checkTable (q' := q') (q := q) (op := op) (lv := lv) (ν := ν) (lo := lo) (by omega) hz hp c1 hq c3 (c4 (by omega)) (c5 (by omega)) hfa hE (fun v1 F1 cur1 fs1 ν1 g1 a1 a2 a3 _ => hQ v1 F1 cur1 fs1 ν1 g1 a1 a2 a3)
  · have eo := lit 15 k
    simp only [Int32.reduceToInt] at eo
    obtain ⟨c1, c2, c3, c4⟩ := hB.kx (k := 25) (kd := 102) (n := 202) (by decide) (by decide)
    refine ⟨A 25, c1, c2, ?_, ?_⟩
    · rw [z_in]
      show _ ∧ _ < ((xb_n h (A 25) : Nat) : Int)
      rw [c3]
      decide
    · rw [mH_o c4]
      unfold w_M_checkFlow_L288
      obtain ⟨-, -, -, -, V4⟩ := gv_0 hX.2.2 ht
      refine m_takeResult hB hS hex (by omega) hfl (fun rr v3 cur3 ex3 a1 a2 a3 a4 a5 a6 _ => m_dead hB a2 a3 hfl (fun v4 w d1 d2 _ => hQ v4 _ (fb f) (fdie f :: r) ν g ((bv.t3 a1).tr (dieT d1)) (bF.up (by decide)) (fun hz4 => ?_)))
      rw [d1 17 (by decide)] at hz4
      obtain ⟨-, t3⟩ := a6 hz4
      exact ⟨d2, KS_8 (by omega) ⟨⟨rr, cur3, by rw [V4, ← hl0]; exact t3⟩, rfl, rfl, rfl, rfl⟩, fun _ => rfl⟩
  · exfalso
    simp only [z_eq, hx, Int32.reduceToInt] at n0 n1 n2 n3 n4 n5 n6 n7 n8 n9 n10 n11 n12 n13 n14 n15
    omega
theorem m_checkInstruction {x1 x : Int32} (h1 : x1.toInt = m) (hx : x.toInt = op) (hz : v 17 = 0) (hp : rdP v (qb D) (q + 1) (qe D)) (hop : (qc D q).toInt % 256 = op) (hR : nR (qc D) ν0 q q') (hq : q' ≤ qe D) (hν : ∀ j, q ≤ j → ν j = ν0 j) (hfa : ∀ y ∈ f :: r, -1 ≤ fa y ∧ fa y ≤ 100000) (h200 : 2 ≤ op → op ≤ 4 → (f :: r).length ≤ 200)
    (hE : bE own mm A h F v m D t lcn lo cur ex f r g) (hQ : bQ A h F mm v D lo t lcn lv q op cur f r ν g Qr) : w_M_checkInstruction mm x1 x (mH h F mm v) Qr := by
  obtain ⟨⟨hX, hcf, hct, ht⟩, ⟨hS, hex, hl, hg, hfl, hty, hlb⟩, -⟩ := id hE
  have hB := hX.1
  obtain ⟨hRw, hR1, hR2⟩ := id hR
  rw [hop] at hRw hR1 hR2
  have h13 := hRw.2.2.2.2.2.2.2.2.2.2.2
  have hcs := wk_cases (op := (op : Int)) (by omega) (by omega) h13
  have lt : ∀ c : Int32, x < c ↔ (op : Int) < c.toInt := fun c => by rw [z_lt, hx]
  have one : ∀ _ : Unit, (wk_sh op = 4 ∨ wk_sh op = 6) → ∃ q1 y, rC (qc D) (q + 1) = some (q1, y) ∧ q1 ≤ qe D ∧ (ν (q + 1)).toBitVec.toNat = y.toBitVec.toNat := fun _ sh => by
    obtain ⟨q1, y, c1, c2, -⟩ := hR2 (by omega)
    refine ⟨q1, y, c1, ?_, by rw [hν (q + 1) (by omega)]; exact c2⟩
    rcases sh with sh | sh
    · rw [sh] at hRw
      obtain ⟨x2, w⟩ := rW_4i.mp hRw
      obtain ⟨e1, -⟩ := rC_in c1 w
      omega
    · rw [sh] at hRw
      obtain ⟨p1, x2, w, -, w3⟩ := rW_6i.mp hRw
      obtain ⟨e1, -⟩ := rC_in c1 w
      omega
  unfold w_M_checkInstruction
  refine ⟨fun l69 => ⟨fun l65 => ⟨fun l40 => ⟨fun l32 => ⟨fun l16 => ⟨hB.2.1, ?_⟩, fun l16 => ⟨hB.2.1, ?_⟩⟩, fun l32 => ⟨hB.2.1, ?_⟩⟩, fun l40 => ⟨hB.2.1, ?_⟩⟩, fun l65 => ⟨hB.2.1, ?_⟩⟩, fun l69 => ?_⟩
  all_goals simp only [lt, Int32.reduceToInt] at *
  · unfold w_M_checkInstruction_L139
    exact m_ckFlow hx (by omega) hz hp hop hR hq hν hfa h200 hE (fun v1 F1 cur1 fs1 ν1 g1 a1 a2 a3 _ => hQ v1 F1 cur1 fs1 ν1 g1 a1 a2 a3)
  · unfold w_M_checkInstruction_L139
    have ho : op = 16 ∨ op = 17 ∨ op = 26 ∨ op = 27 := by omega
    by_cases h16 : op = 16 ∨ op = 17
    · obtain ⟨q1, y, c1, c2, c3⟩ := one () (h16.elim (fun e => .inl (by rw [e]; rfl)) (fun e => .inr (by rw [e]; rfl)))
      exact m_ckCalls (q1 := q1) (y := y) h1 hx ho hz hp (fun _ => ⟨c1, c2, c3⟩) hE (fun v1 F1 cur1 fs1 ν1 g1 a1 a2 a3 _ => hQ v1 F1 cur1 fs1 ν1 g1 a1 a2 a3)
    · exact m_ckCalls (q1 := 0) (y := 0) h1 hx ho hz hp (fun h9 => absurd h9 h16) hE (fun v1 F1 cur1 fs1 ν1 g1 a1 a2 a3 _ => hQ v1 F1 cur1 fs1 ν1 g1 a1 a2 a3)
  · unfold w_M_checkInstruction_L139
    obtain ⟨q1, y, c1, c2, c3⟩ := one () (.inl (wk_sh_l (by omega) (by omega)))
    exact m_ckPlace h1 hx (by omega) (by omega) hz hp c1 c2 c3 hE (fun v1 F1 cur1 fs1 ν1 g1 a1 a2 a3 _ => hQ v1 F1 cur1 fs1 ν1 g1 a1 a2 a3)
  · exact m_ckMem h1 hx (by omega) (by omega) hz hp hRw hq hE hQ
  · unfold w_M_checkInstruction_L139
    have e9 : (192 - x).toInt = 192 - (op : Int) := by
      rw [z_sub, hx]
      simp only [Int32.reduceToInt]
      omega
    exact m_put hB hS (by omega) (by omega) (fun v1 w p1 p2 _ => hQ v1 _ _ (f :: r) ν _ (bv.p2 p1) (bF.up (by decide)) (fun _ => ⟨p2, KS_16 (by omega) (by omega) ⟨.inr ⟨by omega, by rw [e9], rfl⟩, rfl, rfl⟩, fun _ => rfl⟩))
  · exact m_ckNum hx (by omega) (by omega) hE hQ
end MK8

-- the checker: all bodies
/-- a body that was checked -/
def bd_ok (N : Nat) (en : Nat → Nat → Nat) (n : Nat → Nat) (vs : Nat → Nat → Int64) (cb ν iv : Nat → Int32) (b : Nat) : Prop :=
  ∃ (i t p0 lcn : Nat) (lo ν0 : Nat → Int32) (g : Int), (iv 0).toInt + b = i ∧ i < n 2 / 2 ∧ (vs 2 (2 * i + 1)).toInt = t ∧ t < n 0 / 5 ∧ (vs 9 (5 * b)).toInt = p0 ∧ (vs 9 (5 * b + 1)).toInt = lcn ∧ lcn ≤ 1000 ∧ p0 < en 9 b ∧ en 9 b ≤ N ∧ (vs 9 (5 * b + 4)).toInt = g ∧ 0 ≤ g ∧ g ≤ N ∧ (∀ j, j < lcn → 124 ≤ (lo j).toInt ∧ (lo j).toInt ≤ 127) ∧ ct_Z n vs cb lo t lcn p0 (en 9 b) ν0 ν g
section CA1
variable {S : Nat → Prop} {h0 h : xb_H} {md rd op ck cd nt im N oa rc rs : Nat} {ca : Nat → Nat} {rw it n : Nat → Nat} {vs vs' : Nat → Nat → Int64} {cb ν ν' ν0 iv lo : Nat → Int32} {R0 F : Nat → Nat → Int32} {bc bs : Nat} {Qt : String → xb_H → Nat → Nat → Prop} {cur : List Int} {fs r : List ckF} {f : ckF} {g p lc ty : Int} {en : Nat → Nat → Nat}
theorem ck_H.L9 {k : Nat} {y : Int64} (hH : ck_H S h0 h md rd op ck cd nt im N oa ca rw it n vs cb iv R0) (hit : ∀ i j, i < 12 → j < 12 → it i = it j → i = j) (h09 : xb_k h0 (it 9) = 0) : ck_H S h0 (xb_L h (it 9) k y) md rd op ck cd nt im N oa ca rw it n (va_up vs 9 (va_up (vs 9) k y)) cb iv R0 := by
  obtain ⟨c1, c2, c3⟩ := hH
  refine ⟨fun F hF => ?_, fun F ν e1 e2 e3 e4 => ?_, c3⟩
  · obtain ⟨d1, d2, d3⟩ := c1 F hF
    exact ⟨d1, fun a ha hs => (d2 a ha hs).tr (xh_smL _ _ _ (fun e => ha (e ▸ h09))), d3⟩
  · obtain ⟨d1, d2, d3, d4⟩ := c2 F ν e1 e2 e3 e4
    refine ⟨d1, d2, fun j hj => ?_, d4⟩
    obtain ⟨g1, g2, g3⟩ := d3 j hj
    refine ⟨g1, g2, fun i hi => ?_⟩
    show xb_l (xb_L (xb_W h F) (it 9) k y) (it j) i = _
    rw [xh_lL]
    by_cases e : j = 9
    · subst e
      rw [if_pos rfl, xh_up (f := vs), if_pos rfl, xh_up, xh_up]
      split
      · rfl
      · exact g3 i hi
    · rw [if_neg (fun e9 => e (hit j 9 hj (by omega) e9)), xh_up (f := vs), if_neg e]
      exact g3 i hi
theorem bd_ok.cg {b : Nat} (e9 : ∀ j, j < 5 → vs' 9 (5 * b + j) = vs 9 (5 * b + j)) (ek : ∀ k, k ≠ 9 → vs' k = vs k) (hν : ∀ j : Nat, (vs 9 (5 * b)).toInt ≤ j → j < en 9 b → ν' j = ν j) (h : bd_ok N en n vs cb ν iv b) : bd_ok N en n vs' cb ν' iv b := by
  obtain ⟨i, t, p0, lcn, lo, ν0, g, h1, h2, h3, h4, h5, h6, h7, h8, h9, h10, h11, h12, h13, h14⟩ := h
  refine ⟨i, t, p0, lcn, lo, ν0, g, h1, h2, by rw [ek 2 (by omega)]; exact h3, h4, ?_, by rw [e9 1 (by omega)]; exact h6, h7, h8, h9, by rw [e9 4 (by omega)]; exact h10, h11, h12, h13, h14.cv (ek 0 (by omega)) (ek 2 (by omega)) (ek 5 (by omega)) (fun j g1 g2 => hν j (by rw [h5]; omega) g2)⟩
  have := e9 0 (by omega)
  rw [Nat.add_zero] at this
  rw [this]
  exact h5
/-- all bodies -/
theorem cs_bodies {Qr : xb_H → Nat → Nat → Prop} (hT : ck_T S h0 md rd op ck ca rc rs Qt) (hc : rc + 1 ≤ bc) (hb : rs + 6 ≤ bs) (hby : ∀ j, -128 ≤ (cb j).toInt ∧ (cb j).toInt ≤ 127)
    (hit : ∀ i j, i < 12 → j < 12 → it i = it j → i = j) (h09 : xb_k h0 (it 9) = 0) (hJ : md_J N cb en n vs ν iv N N) (hn9 : (n 9 : Int) * 2 + 5 * (2 * (iv 0).toInt) = 5 * n 2)
    (hfn : ∀ i, i < n 2 / 2 → 0 ≤ (vs 2 (2 * i + 1)).toInt ∧ (vs 2 (2 * i + 1)).toInt < (n 0 / 5 : Nat)) (hN : N ≤ 65536)
    (hQ : ∀ (h1 : xb_H) (F : Nat → Nat → Int32) (vs1 : Nat → Nat → Int64) (ν1 : Nat → Int32), ck_H S h0 h1 md rd op ck cd nt im N oa ca rw it n vs1 cb iv R0 → ck_Fr S h0 h1 F → ck_S0 nt cd im rw R0 cb iv ν1 F → (∀ k, k ≠ 9 → vs1 k = vs k) → (∀ j, (∀ b, b < n 9 / 5 → j ≠ 5 * b + 4) → vs1 9 j = vs 9 j) → (∀ j : Nat, (∀ b, b < n 9 / 5 → (j : Int) < (vs 9 (5 * b)).toInt ∨ en 9 b ≤ j) → ν1 j = ν j) → (∀ b, b < n 9 / 5 → bd_ok N en n vs1 cb ν1 iv b) → (xb_i h1 = xb_i h ∧ xb_r h1 = xb_r h ∧ xb_k h1 = xb_k h ∧ xb_n h1 = xb_n h) → Qr (xb_W h1 F) bc bs) :
    ∀ (m : Nat) (x2 : Int32) (b : Nat) (h1 : xb_H) (F : Nat → Nat → Int32) (vs1 : Nat → Nat → Int64) (ν1 : Nat → Int32), x2.toInt = b → b ≤ n 9 / 5 → n 9 / 5 - b ≤ m → ck_H S h0 h1 md rd op ck cd nt im N oa ca rw it n vs1 cb iv R0 → ck_Fr S h0 h1 F → ck_S0 nt cd im rw R0 cb iv ν1 F → (∀ k, k ≠ 9 → vs1 k = vs k) → (∀ j, (∀ b', b' < b → j ≠ 5 * b' + 4) → vs1 9 j = vs 9 j) → (∀ j : Nat, (∀ b', b' < b → (j : Int) < (vs 9 (5 * b')).toInt ∨ en 9 b' ≤ j) → ν1 j = ν j) → (∀ b', b' < b → bd_ok N en n vs1 cb ν1 iv b') → (xb_i h1 = xb_i h ∧ xb_r h1 = xb_r h ∧ xb_k h1 = xb_k h ∧ xb_n h1 = xb_n h) → w_Checker_checkAll_L77 Qr Qt (m + 1) ck x2 (xb_W h1 F) bc bs := by
  obtain ⟨J0, J1, J2, J3, J4, J5, J6, J7, J8, J9, J10, J11, J12, J13, J14, J15, J16, J17⟩ := id hJ
  have J9' : ∀ b, b < n 9 / 5 → 5 * b + 5 ≤ n 9 := fun b hb => (J9.at (by omega) hb).2
  intro m
  induction m with
  | zero =>
    intro x2 b h1 F vs1 ν1 e2 hbn hm hH hF hS gk g9 gν gb gi
    obtain ⟨-, -, ⟨r0, r1, r2, r3, ko, lo1, lo2⟩, hD, ⟨S1, S2, S3⟩, kck, kmd, ha, -, ⟨knt, nnt, kcd, ncd⟩⟩ := id hH
    have hM := hH.S0 hS
    have eb : b = n 9 / 5 := by omega
    unfold w_Checker_checkAll_L77
    refine ⟨kck, md, r0, kmd, rw 9, hM.row (by omega), hM.krow (by omega), md_lines hM (k := 9) (c := 5) (by omega) rfl (by omega) (fun r7 e7 _ => ⟨fun _ => ?_, fun e => ?_⟩)⟩
    · subst eb
      exact hQ h1 F vs1 ν1 hH hF hS gk g9 gν gb gi
    · rw [z_le, e7, e2] at e
      omega
  | succ m ih =>
    intro x2 b h1 F vs1 ν1 e2 hbn hm hH hF hS gk g9 gν gb gi
    obtain ⟨-, -, ⟨r0, r1, r2, r3, ko, lo1, lo2⟩, hD, ⟨S1, S2, S3⟩, kck, kmd, ha, -, ⟨knt, nnt, kcd, ncd⟩⟩ := id hH
    have hM := hH.S0 hS
    unfold w_Checker_checkAll_L77
    refine ⟨kck, md, r0, kmd, rw 9, hM.row (by omega), hM.krow (by omega), md_lines hM (k := 9) (c := 5) (by omega) rfl (by omega) (fun r7 e7 _ => ⟨fun e => ?_, fun e => ?_⟩)⟩
    · rw [z_le, e7, e2] at e
      have eb : b = n 9 / 5 := by omega
      subst eb
      exact hQ h1 F vs1 ν1 hH hF hS gk g9 gν gb gi
    · rw [z_le, e7, e2] at e
      have hb9 : b < n 9 / 5 := by omega
      obtain ⟨⟨q0, q1, q2, q3, q4, q5, q6⟩, q7⟩ := J9.at (by omega) hb9
      dsimp only at q0 q1 q2 q3 q4 q5 q6
      rw [Nat.add_zero] at q0
      obtain ⟨p0, mm, y1, y2, y3, y4⟩ := q0
      have hn0 := J13 0 (by omega)
      have hn2 := J13 2 (by omega)
      have hn9' := J13 9 (by omega)
      have hn10 := J13 10 (by omega)
      obtain ⟨m2, z2, -⟩ := J2
      obtain ⟨m9, z9, -⟩ := J9
      have hiv0 : 0 ≤ (iv 0).toInt := by have := J12 0 (by omega); omega
      obtain ⟨i, hi⟩ : ∃ i : Nat, (iv 0).toInt + b = i := ⟨((iv 0).toInt + b).toNat, by omega⟩
      have hi2 : i < n 2 / 2 := by omega
      obtain ⟨f1, f2⟩ := hfn i hi2
      obtain ⟨t, ht⟩ : ∃ t : Nat, (vs 2 (2 * i + 1)).toInt = t := ⟨(vs 2 (2 * i + 1)).toInt.toNat, by omega⟩
      have v9 : ∀ j, j < 5 → vs1 9 (5 * b + j) = vs 9 (5 * b + j) := fun j hj => g9 _ (fun b' hb' e9 => by omega)
      have v90 : vs1 9 (5 * b) = vs 9 (5 * b) := v9 0 (by omega)
      have dj : ∀ b', b' < n 9 / 5 → b' ≠ b → (en 9 b : Int) ≤ (vs 9 (5 * b')).toInt ∨ en 9 b' ≤ p0 := fun b' hb' hne => by
        have u1 : md_V n vs iv 9 b p0 := ⟨.inr (.inr (.inl rfl)), q7, fun e => by omega, y1⟩
        have u2 : md_V n vs iv 9 b' (vs 9 (5 * b')).toInt := ⟨.inr (.inr (.inl rfl)), (J9' b' hb'), fun e => by omega, rfl⟩
        rcases J17 9 b p0 9 b' _ u1 u2 (fun e => hne e.2.symm) with h9 | h9
        · exact .inl h9
        · exact .inr (by omega)
      have hwk : wk cb ν1 (en 9 b) mm p0 [] := wk.congr2 mm p0 [] trivial (fun j h8 h9 => gν j (fun b' hb' => by
        rcases dj b' (by omega) (by omega) with h7 | h7
        · exact .inl (by omega)
        · exact .inr (by omega))) (fun x hx => by cases hx) y4
      refine cs_checkBody (b := b) (i := i) (t := t) (p0 := p0) (E := en 9 b) (m := mm) hT hH hF hS hc hb e2 q7 hby (by rw [gk 0 (by omega)]; exact J0) (by rw [gk 10 (by omega)]; exact J10) hn10 hn2 (by omega) (fun i hi => ?_) (fun i hi => ?_) hn0 y3 hi hi2 (by rw [gk 2 (by omega)]; exact ht) (by rw [v90]; exact y1) hwk (by rw [v9 1 (by omega)]; exact q2) (by rw [v9 2 (by omega)]; exact q3) (by rw [v9 3 (by omega)]; exact q4) (by rw [v9 2 (by omega), v9 3 (by omega)]; exact q5) (by rw [gk 10 (by omega), v9 2 (by omega), v9 3 (by omega), v9 1 (by omega)]; exact q6) (fun F' g ν' lo lcn l1 l2 hF' hS' hZ hout hg0 hgN hg5 _ => ?_)
      · rw [gk 5 (by omega)]
        obtain ⟨⟨u0, u1, u2, u3, u4, -⟩, u5⟩ := J5.at (by omega) hi
        exact ⟨u5, u2, u3, u4⟩
      · rw [gk 2 (by omega)]
        refine ⟨?_, hfn i hi⟩
        have := Nat.div_mul_le_self (n 2) 2
        omega
      · have hH2 := hH.L9 (k := 5 * b + 4) (y := (F' ck 5).toInt64) hit h09
        have e3 : (x2 + 1).toInt = (b + 1 : Nat) := by rw [z_add, e2]; simp only [Int32.reduceToInt]; omega
        have v2 : ∀ k, k ≠ 9 → va_up vs1 9 (va_up (vs1 9) (5 * b + 4) (F' ck 5).toInt64) k = vs1 k := fun k hk => by rw [xh_up, if_neg hk]
        have v29 : ∀ j, j ≠ 5 * b + 4 → va_up vs1 9 (va_up (vs1 9) (5 * b + 4) (F' ck 5).toInt64) 9 j = vs1 9 j := fun j hj => by rw [xh_up, if_pos rfl, xh_up, if_neg hj]
        refine ih (x2 + 1) (b + 1) _ F' _ ν' e3 (by omega) (by omega) hH2 hF' hS' (fun k hk => by rw [v2 k hk]; exact gk k hk) (fun j hj => by rw [v29 j (hj b (by omega))]; exact g9 j (fun b' hb' => hj b' (by omega))) (fun j hj => ?_) (fun b' hb' => ?_) gi
        · have hjb := hj b (by omega)
          rw [hout j (by rw [y1] at hjb; omega)]
          exact gν j (fun b' hb' => hj b' (by omega))
        · by_cases eb : b' = b
          · subst eb
            refine ⟨i, t, p0, lcn, lo, ν1, g, hi, hi2, ?_, by omega, ?_, ?_, by rw [v9 1 (by omega)] at l1; omega, y2, y3, ?_, hg0, hgN, l2, ?_⟩
            · rw [v2 2 (by omega), gk 2 (by omega)]
              exact ht
            · rw [v29 _ (by omega), v90]
              exact y1
            · rw [v29 _ (by omega)]
              exact l1.symm
            · rw [xh_up, if_pos rfl, xh_up, if_pos rfl, Z_of32]
              exact hg5
            · exact hZ.cv (v2 0 (by omega)) (v2 2 (by omega)) (v2 5 (by omega)) (fun _ _ _ => rfl)
          · refine (gb b' (by omega)).cg (fun j hj => v29 _ (by omega)) v2 (fun j h8 h9 => hout j ?_)
            have e90 : vs1 9 (5 * b') = vs 9 (5 * b') := g9 _ (fun b2 hb2 e9 => by omega)
            rw [e90] at h8
            rcases dj b' (by omega) eb with h7 | h7
            · exact .inr (by omega)
            · exact .inl (by omega)
end CA1

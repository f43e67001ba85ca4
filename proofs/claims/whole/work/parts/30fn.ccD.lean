-- equality: the class's checker, exact: all bodies
section
variable {n : Nat → Nat} {vs vs' : Nat → Nat → Int64} {cb lo ν ν' : Nat → Int32} {pa P t lcn q op : Nat} {cur : List Int} {f : s5} {r : List s5} {g : Int}
theorem ckZ_cv (e0 : vs' 0 = vs 0) (e2 : vs' 2 = vs 2) (e5 : vs' 5 = vs 5) : ckZ n vs' cb lo pa P t lcn ν q op cur f r g = ckZ n vs cb lo pa P t lcn ν q op cur f r g := by
  unfold ckZ clZ tpZ
  rw [e0, e2, e5]
theorem bdZ_cv (e0 : vs' 0 = vs 0) (e2 : vs' 2 = vs 2) (e5 : vs' 5 = vs 5) : ∀ (k q : Nat) (s : cO), bdZ n vs' cb lo pa P t lcn ν k q s = bdZ n vs cb lo pa P t lcn ν k q s
  | 0, _, _ => rfl
  | k + 1, q, (cur, [], g) => rfl
  | k + 1, q, (cur, f :: r, g) => by
    show (match ckZ n vs' cb lo pa P t lcn ν q ((cb q).toInt % 256).toNat cur f r g with | .error c => _ | .ok s => bdZ n vs' cb lo pa P t lcn ν k (nxZ cb ν q) s) = (match ckZ n vs cb lo pa P t lcn ν q ((cb q).toInt % 256).toNat cur f r g with | .error c => _ | .ok s => bdZ n vs cb lo pa P t lcn ν k (nxZ cb ν q) s)
    rw [ckZ_cv e0 e2 e5]
    cases ckZ n vs cb lo pa P t lcn ν q ((cb q).toInt % 256).toNat cur f r g with
    | error c => rfl
    | ok s => exact bdZ_cv e0 e2 e5 k _ s
end
/-- a body that was checked, exact: νr the notes as they were read -/
def bd_k (N : Nat) (en : Nat → Nat → Nat) (n : Nat → Nat) (vs : Nat → Nat → Int64) (cb νr ν iv : Nat → Int32) (b : Nat) : Prop :=
  ∃ (i t p0 lcn : Nat) (lo ν0 : Nat → Int32) (g : Int), (iv 0).toInt + b = i ∧ i < n 2 / 2 ∧ (vs 2 (2 * i + 1)).toInt = t ∧ t < n 0 / 5 ∧ (vs 9 (5 * b)).toInt = p0 ∧ (vs 9 (5 * b + 1)).toInt = lcn ∧ lcn ≤ 1000 ∧ p0 < en 9 b ∧ en 9 b ≤ N ∧ (vs 9 (5 * b + 4)).toInt = g ∧ 0 ≤ g ∧ g ≤ N ∧ (∀ j, j < lcn → 124 ≤ (lo j).toInt ∧ (lo j).toInt ≤ 127) ∧ (∀ j, p0 ≤ j → j < en 9 b → ν0 j = νr j) ∧ spZ (vs 10) (vs 9 (5 * b + 2)).toInt.toNat (vs 9 (5 * b + 3)).toInt.toNat lo ∧ ct_K n vs cb lo t lcn p0 (en 9 b) ν0 ν g
section CCE0
variable {n : Nat → Nat} {vs vs' : Nat → Nat → Int64} {cb ν ν' lo : Nat → Int32} {t lcn : Nat}
theorem bd_k.ok {N : Nat} {en : Nat → Nat → Nat} {νr iv : Nat → Int32} {b : Nat} (h : bd_k N en n vs cb νr ν iv b) : bd_ok N en n vs cb ν iv b := by
  obtain ⟨i, t, p0, lcn, lo, ν0, g, h1, h2, h3, h4, h5, h6, h7, h8, h9, h10, h11, h12, h13, -, -, G, V, h14, -⟩ := h
  exact ⟨i, t, p0, lcn, lo, ν0, g, h1, h2, h3, h4, h5, h6, h7, h8, h9, h10, h11, h12, h13, G, h14⟩
theorem vkC.cv {ν0 : Nat → Int32} {p0 E : Nat} {G : ctG} {V : Nat → Prop} (hν : ∀ j, p0 ≤ j → j < E → ν' j = ν j) (h : vkC cb ν0 ν p0 E G V) : vkC cb ν0 ν' p0 E G V := by
  obtain ⟨h1, h2, h3⟩ := h
  refine ⟨h1, fun j hj => ?_, h3⟩
  obtain ⟨a1, a2, a3, a4, a5, a6⟩ := h2 j hj
  exact ⟨a1, a2, a3, fun e => ⟨(a4 e).1, by rw [hν _ (by omega) (by have := (a4 e).1; omega)]; exact (a4 e).2⟩, fun e => by rw [hν _ a1.1 a1.2]; exact a5 e, fun e => ⟨(a6 e).1, fun i i1 i2 => by rw [hν _ (by omega) (by have := (a6 e).1; omega)]; exact (a6 e).2 i i1 i2⟩⟩
theorem ct_K.cv {ν0 : Nat → Int32} {p0 E : Nat} {rm : Int} (e0 : vs' 0 = vs 0) (e2 : vs' 2 = vs 2) (e5 : vs' 5 = vs 5) (hν : ∀ j, p0 ≤ j → j < E → ν' j = ν j) (h : ct_K n vs cb lo t lcn p0 E ν0 ν rm) : ct_K n vs' cb lo t lcn p0 E ν0 ν' rm := by
  obtain ⟨G, V, ⟨h0, h1, h2, h3, h4⟩, hV⟩ := h
  have hB : ∀ j v, ct_B ν p0 E j v → ct_B ν' p0 E j v := ct_B.mono hν (Nat.le_refl _)
  have hG : ∀ k a c s, G k a c s → G k a c s := fun _ _ _ _ h => h
  exact ⟨G, V, ⟨h0, fun a c gs ha => ⟨(h1 a c gs ha).1, ((h1 a c gs ha).2.mono hG hB).cv e0 e2 e5⟩, fun o c gs ha => (h2 o c gs ha).mono hG hB, fun o c gs ha => (h3 o c gs ha).mono hG hB, fun o c gs ha => (h4 o c gs ha).mono hG hB⟩, hV.cv hν⟩
theorem bd_k.cg {N : Nat} {en : Nat → Nat → Nat} {νr iv : Nat → Int32} {b : Nat} (e9 : ∀ j, j < 5 → vs' 9 (5 * b + j) = vs 9 (5 * b + j)) (ek : ∀ k, k ≠ 9 → vs' k = vs k) (hν : ∀ j : Nat, (vs 9 (5 * b)).toInt ≤ j → j < en 9 b → ν' j = ν j) (h : bd_k N en n vs cb νr ν iv b) : bd_k N en n vs' cb νr ν' iv b := by
  obtain ⟨i, t, p0, lcn, lo, ν0, g, h1, h2, h3, h4, h5, h6, h7, h8, h9, h10, h11, h12, h13, h15, h16, h14⟩ := h
  refine ⟨i, t, p0, lcn, lo, ν0, g, h1, h2, by rw [ek 2 (by omega)]; exact h3, h4, ?_, by rw [e9 1 (by omega)]; exact h6, h7, h8, h9, by rw [e9 4 (by omega)]; exact h10, h11, h12, h13, h15, by rw [ek 10 (by omega), e9 2 (by omega), e9 3 (by omega)]; exact h16, h14.cv (ek 0 (by omega)) (ek 2 (by omega)) (ek 5 (by omega)) (fun j g1 g2 => hν j (by rw [h5]; omega) g2)⟩
  have := e9 0 (by omega)
  rw [Nat.add_zero] at this
  rw [this]
  exact h5
end CCE0
section CCE
variable {S : Nat → Prop} {h0 h : xb_H} {md rd op ck cd nt im N oa rc rs w0 : Nat} {ca : Nat → Nat} {rw it n : Nat → Nat} {vs vs' : Nat → Nat → Int64} {cb ν ν' ν0 iv lo : Nat → Int32} {R0 F : Nat → Nat → Int32} {bc bs : Nat} {Qt : String → xb_H → Nat → Nat → Prop} {cur : List Int} {fs r : List ckF} {f : ckF} {g p lc ty : Int} {en : Nat → Nat → Nat} {C : Option (Nat × Nat)} {Zb : Nat → Except (Nat × Nat) Int}
/-- all bodies -/
theorem cz_bodies {Qr : xb_H → Nat → Nat → Prop} (hT : ckT S h0 md rd op ck ca rc rs w0 C Qt) (hc : rc + 1 ≤ bc) (hb : rs + 6 ≤ bs) (hby : ∀ j, -128 ≤ (cb j).toInt ∧ (cb j).toInt ≤ 127)
    (hit : ∀ i j, i < 12 → j < 12 → it i = it j → i = j) (h09 : xb_k h0 (it 9) = 0) (hJ : md_J N cb en n vs ν iv N N) (hn9 : (n 9 : Int) * 2 + 5 * (2 * (iv 0).toInt) = 5 * n 2)
    (hfn : ∀ i, i < n 2 / 2 → 0 ≤ (vs 2 (2 * i + 1)).toInt ∧ (vs 2 (2 * i + 1)).toInt < (n 0 / 5 : Nat)) (hN : N ≤ 65536)
    (hBZ : ∀ b i t p0 pa0 P0 : Nat, b < n 9 / 5 → (iv 0).toInt + b = i → i < n 2 / 2 → (vs 2 (2 * i + 1)).toInt = t → t < n 0 / 5 → (vs 9 (5 * b)).toInt = p0 → (vs 0 (5 * t + 1)).toInt = pa0 → (vs 0 (5 * t + 2)).toInt = P0 → ∃ mf, en 9 b - p0 + 2 ≤ mf ∧ ∀ ν1 : Nat → Int32, (∀ j, p0 ≤ j → j < en 9 b → ν1 j = ν j) → ∀ (lo : Nat → Int32) (lcn : Nat), (lcn : Int) = (vs 9 (5 * b + 1)).toInt → spZ (vs 10) (vs 9 (5 * b + 2)).toInt.toNat (vs 9 (5 * b + 3)).toInt.toNat lo → Zb b = bdZ n vs cb lo pa0 P0 t lcn ν1 mf p0 ([], [(0, (vs 0 (5 * t + 4)).toInt, (vs 0 (5 * t + 4)).toInt, [], 0)], 0))
    (hBC : ∀ b, b < n 9 / 5 → (∀ b', b' < b → ∃ g, Zb b' = .ok g) → ∀ c w, Zb b = .error (c, w) → C = some (c, w + w0))
    (hQ : ∀ (h1 : xb_H) (F : Nat → Nat → Int32) (vs1 : Nat → Nat → Int64) (ν1 : Nat → Int32), ck_H S h0 h1 md rd op ck cd nt im N oa ca rw it n vs1 cb iv R0 → ck_Fr S h0 h1 F → ck_S0 nt cd im rw R0 cb iv ν1 F → (∀ k, k ≠ 9 → vs1 k = vs k) → (∀ j, (∀ b, b < n 9 / 5 → j ≠ 5 * b + 4) → vs1 9 j = vs 9 j) → (∀ j : Nat, (∀ b, b < n 9 / 5 → (j : Int) < (vs 9 (5 * b)).toInt ∨ en 9 b ≤ j) → ν1 j = ν j) → (∀ b, b < n 9 / 5 → bd_k N en n vs1 cb ν ν1 iv b) → (∀ b, b < n 9 / 5 → Zb b = .ok (vs1 9 (5 * b + 4)).toInt) → (xb_i h1 = xb_i h ∧ xb_r h1 = xb_r h ∧ xb_k h1 = xb_k h ∧ xb_n h1 = xb_n h) → Qr (xb_W h1 F) bc bs) :
    ∀ (m : Nat) (x2 : Int32) (b : Nat) (h1 : xb_H) (F : Nat → Nat → Int32) (vs1 : Nat → Nat → Int64) (ν1 : Nat → Int32), x2.toInt = b → b ≤ n 9 / 5 → n 9 / 5 - b ≤ m → ck_H S h0 h1 md rd op ck cd nt im N oa ca rw it n vs1 cb iv R0 → ck_Fr S h0 h1 F → ck_S0 nt cd im rw R0 cb iv ν1 F → (∀ k, k ≠ 9 → vs1 k = vs k) → (∀ j, (∀ b', b' < b → j ≠ 5 * b' + 4) → vs1 9 j = vs 9 j) → (∀ j : Nat, (∀ b', b' < b → (j : Int) < (vs 9 (5 * b')).toInt ∨ en 9 b' ≤ j) → ν1 j = ν j) → (∀ b', b' < b → bd_k N en n vs1 cb ν ν1 iv b') → (∀ b', b' < b → Zb b' = .ok (vs1 9 (5 * b' + 4)).toInt) → (xb_i h1 = xb_i h ∧ xb_r h1 = xb_r h ∧ xb_k h1 = xb_k h ∧ xb_n h1 = xb_n h) → w_Checker_checkAll_L77 Qr Qt (m + 1) ck x2 (xb_W h1 F) bc bs := by
  obtain ⟨J0, J1, J2, J3, J4, J5, J6, J7, J8, J9, J10, J11, J12, J13, J14, J15, J16, J17⟩ := id hJ
  have J9' : ∀ b, b < n 9 / 5 → 5 * b + 5 ≤ n 9 := fun b hb => (J9.at (by omega) hb).2
  intro m
  induction m with
  | zero =>
    intro x2 b h1 F vs1 ν1 e2 hbn hm hH hF hS gk g9 gν gb gz gi
    obtain ⟨-, -, ⟨r0, r1, r2, r3, ko, lo1, lo2⟩, hD, ⟨S1, S2, S3⟩, kck, kmd, ha, -, ⟨knt, nnt, kcd, ncd⟩⟩ := id hH
    have hM := hH.S0 hS
    have eb : b = n 9 / 5 := by omega
    unfold w_Checker_checkAll_L77
    refine ⟨kck, md, r0, kmd, rw 9, hM.row (by omega), hM.krow (by omega), md_lines hM (k := 9) (c := 5) (by omega) rfl (by omega) (fun r7 e7 _ => ⟨fun _ => ?_, fun e => ?_⟩)⟩
    · subst eb
      exact hQ h1 F vs1 ν1 hH hF hS gk g9 gν gb gz gi
    · rw [z_le, e7, e2] at e
      omega
  | succ m ih =>
    intro x2 b h1 F vs1 ν1 e2 hbn hm hH hF hS gk g9 gν gb gz gi
    obtain ⟨-, -, ⟨r0, r1, r2, r3, ko, lo1, lo2⟩, hD, ⟨S1, S2, S3⟩, kck, kmd, ha, -, ⟨knt, nnt, kcd, ncd⟩⟩ := id hH
    have hM := hH.S0 hS
    unfold w_Checker_checkAll_L77
    refine ⟨kck, md, r0, kmd, rw 9, hM.row (by omega), hM.krow (by omega), md_lines hM (k := 9) (c := 5) (by omega) rfl (by omega) (fun r7 e7 _ => ⟨fun e => ?_, fun e => ?_⟩)⟩
    · rw [z_le, e7, e2] at e
      have eb : b = n 9 / 5 := by omega
      subst eb
      exact hQ h1 F vs1 ν1 hH hF hS gk g9 gν gb gz gi
    · rw [z_le, e7, e2] at e
      have hb9 : b < n 9 / 5 := by omega
      obtain ⟨⟨q0, q1, q2, q3, q4, q5, q6⟩, q7⟩ := J9.at (by omega) hb9
      dsimp only at q0 q1 q2 q3 q4 q5 q6
      rw [Nat.add_zero] at q0
      obtain ⟨p0, mm, y1, y2, y3, y4⟩ := q0
      have hn0 := J13 0 (by omega)
      have hn2 := J13 2 (by omega)
      have hn9' := J13 9 (by omega)
      have hn10 := J13 10 (by omega)
      obtain ⟨m2, z2, -⟩ := J2
      obtain ⟨m9, z9, -⟩ := J9
      have hiv0 : 0 ≤ (iv 0).toInt := by have := J12 0 (by omega); omega
      obtain ⟨i, hi⟩ : ∃ i : Nat, (iv 0).toInt + b = i := ⟨((iv 0).toInt + b).toNat, by omega⟩
      have hi2 : i < n 2 / 2 := by omega
      obtain ⟨f1, f2⟩ := hfn i hi2
      obtain ⟨t, ht⟩ : ∃ t : Nat, (vs 2 (2 * i + 1)).toInt = t := ⟨(vs 2 (2 * i + 1)).toInt.toNat, by omega⟩
      have v9 : ∀ j, j < 5 → vs1 9 (5 * b + j) = vs 9 (5 * b + j) := fun j hj => g9 _ (fun b' hb' e9 => by omega)
      have v90 : vs1 9 (5 * b) = vs 9 (5 * b) := v9 0 (by omega)
      have dj : ∀ b', b' < n 9 / 5 → b' ≠ b → (en 9 b : Int) ≤ (vs 9 (5 * b')).toInt ∨ en 9 b' ≤ p0 := fun b' hb' hne => by
        have u1 : md_V n vs iv 9 b p0 := ⟨.inr (.inr (.inl rfl)), q7, fun e => by omega, y1⟩
        have u2 : md_V n vs iv 9 b' (vs 9 (5 * b')).toInt := ⟨.inr (.inr (.inl rfl)), (J9' b' hb'), fun e => by omega, rfl⟩
        rcases J17 9 b p0 9 b' _ u1 u2 (fun e => hne e.2.symm) with h9 | h9
        · exact .inl h9
        · exact .inr (by omega)
      have hwk : wk cb ν1 (en 9 b) mm p0 [] := wk.congr2 mm p0 [] trivial (fun j h8 h9 => gν j (fun b' hb' => by
        rcases dj b' (by omega) (by omega) with h7 | h7
        · exact .inl (by omega)
        · exact .inr (by omega))) (fun x hx => by cases hx) y4
      obtain ⟨pp, -⟩ := J0.at (by omega) (show t < n 0 / 5 by omega)
      dsimp only [mp0] at pp
      obtain ⟨pp0, pp1, pp2, pp3, pp4, -⟩ := pp
      obtain ⟨pa0, hpa0⟩ : ∃ pa0 : Nat, (vs 0 (5 * t + 1)).toInt = pa0 := ⟨(vs 0 (5 * t + 1)).toInt.toNat, by omega⟩
      obtain ⟨P0, hP0⟩ : ∃ P0 : Nat, (vs 0 (5 * t + 2)).toInt = P0 := ⟨(vs 0 (5 * t + 2)).toInt.toNat, by omega⟩
      obtain ⟨mf, hmf, hZb⟩ := hBZ b i t p0 pa0 P0 hb9 hi hi2 ht (by omega) y1 hpa0 hP0
      have hνb : ∀ j, p0 ≤ j → j < en 9 b → ν1 j = ν j := fun j h8 h9 => gν j (fun b' hb' => by
        rcases dj b' (by omega) (by omega) with h7 | h7
        · exact .inl (by omega)
        · exact .inr (by omega))
      refine cz_checkBody (b := b) (i := i) (t := t) (p0 := p0) (E := en 9 b) (m := mm) hT hH hF hS hc hb e2 q7 hby (by rw [gk 0 (by omega)]; exact J0) (by rw [gk 10 (by omega)]; exact J10) hn10 hn2 (by omega) (fun i hi => ?_) (fun i hi => ?_) hn0 y3 hi hi2 (by rw [gk 2 (by omega)]; exact ht) (by rw [v90]; exact y1) hwk (by rw [v9 1 (by omega)]; exact q2) (by rw [v9 2 (by omega)]; exact q3) (by rw [v9 3 (by omega)]; exact q4) (by rw [v9 2 (by omega), v9 3 (by omega)]; exact q5) (by rw [gk 10 (by omega), v9 2 (by omega), v9 3 (by omega), v9 1 (by omega)]; exact q6) (Z := Zb b) (mf := mf) (pa0 := pa0) (P0 := P0) (by rw [gk 0 (by omega)]; exact hpa0) (by rw [gk 0 (by omega)]; exact hP0) (hBC b hb9 (fun b' hb' => ⟨_, gz b' hb'⟩)) hmf (fun lo lcn l1 l2 => by rw [bdZ_cv (gk 0 (by omega)) (gk 2 (by omega)) (gk 5 (by omega)), gk 0 (by omega)]; exact hZb ν1 hνb lo lcn (by rw [← v9 1 (by omega)]; exact l1) (by rw [← v9 2 (by omega), ← v9 3 (by omega), ← gk 10 (by omega)]; exact l2)) (fun F' g ν' lo lcn l1 l2 hF' hS' l6 hZ hout hg0 hgN hg5 hZo _ => ?_)
      · rw [gk 5 (by omega)]
        obtain ⟨⟨u0, u1, u2, u3, u4, -⟩, u5⟩ := J5.at (by omega) hi
        exact ⟨u5, u2, u3, u4⟩
      · rw [gk 2 (by omega)]
        refine ⟨?_, hfn i hi⟩
        have := Nat.div_mul_le_self (n 2) 2
        omega
      · have hH2 := hH.L9 (k := 5 * b + 4) (y := (F' ck 5).toInt64) hit h09
        have e3 : (x2 + 1).toInt = (b + 1 : Nat) := by rw [z_add, e2]; simp only [Int32.reduceToInt]; omega
        have v2 : ∀ k, k ≠ 9 → va_up vs1 9 (va_up (vs1 9) (5 * b + 4) (F' ck 5).toInt64) k = vs1 k := fun k hk => by rw [xh_up, if_neg hk]
        have v29 : ∀ j, j ≠ 5 * b + 4 → va_up vs1 9 (va_up (vs1 9) (5 * b + 4) (F' ck 5).toInt64) 9 j = vs1 9 j := fun j hj => by rw [xh_up, if_pos rfl, xh_up, if_neg hj]
        refine ih (x2 + 1) (b + 1) _ F' _ ν' e3 (by omega) (by omega) hH2 hF' hS' (fun k hk => by rw [v2 k hk]; exact gk k hk) (fun j hj => by rw [v29 j (hj b (by omega))]; exact g9 j (fun b' hb' => hj b' (by omega))) (fun j hj => ?_) (fun b' hb' => ?_) (fun b' hb' => ?_) gi
        · have hjb := hj b (by omega)
          rw [hout j (by rw [y1] at hjb; omega)]
          exact gν j (fun b' hb' => hj b' (by omega))
        · by_cases eb : b' = b
          · subst eb
            refine ⟨i, t, p0, lcn, lo, ν1, g, hi, hi2, ?_, by omega, ?_, ?_, by rw [v9 1 (by omega)] at l1; omega, y2, y3, ?_, hg0, hgN, l2, hνb, ?_, ?_⟩
            · rw [v2 2 (by omega), gk 2 (by omega)]
              exact ht
            · rw [v29 _ (by omega), v90]
              exact y1
            · rw [v29 _ (by omega)]
              exact l1.symm
            · rw [xh_up, if_pos rfl, xh_up, if_pos rfl, Z_of32]
              exact hg5
            · rw [v29 _ (by omega), v29 _ (by omega), v2 10 (by omega)]
              exact l6
            · exact hZ.cv (v2 0 (by omega)) (v2 2 (by omega)) (v2 5 (by omega)) (fun _ _ _ => rfl)
          · refine (gb b' (by omega)).cg (fun j hj => v29 _ (by omega)) v2 (fun j h8 h9 => hout j ?_)
            have e90 : vs1 9 (5 * b') = vs 9 (5 * b') := g9 _ (fun b2 hb2 e9 => by omega)
            rw [e90] at h8
            rcases dj b' (by omega) eb with h7 | h7
            · exact .inr (by omega)
            · exact .inl (by omega)
        · by_cases eb : b' = b
          · subst eb
            rw [hZo, xh_up, if_pos rfl, xh_up, if_pos rfl, Z_of32, hg5]
          · rw [v29 _ (by omega)]
            exact gz b' (by omega)
end CCE

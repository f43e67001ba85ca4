-- equality: the class's checker, exact: a module as a whole
def unZ (b : Nat) : Except (Nat × Nat) Int → Except (Nat × Nat) Int
  | .error (c, w) => .error (c, w - b)
  | .ok g => .ok g
theorem unZ_sh {b : Nat} : ∀ x, unZ b (shZ b x) = x
  | .ok _ => rfl
  | .error (c, w) => by
    show Except.error (c, b + w - b) = _
    rw [Nat.add_sub_cancel_left]
section CCI
variable {S : Nat → Prop} {h0 h : xb_H} {md rd op ck cd nt im N oa rc rs w0 : Nat} {ca : Nat → Nat} {rw it n : Nat → Nat} {vs vs' : Nat → Nat → Int64} {cb cA ν ν' ν0 iv lo : Nat → Int32} {R0 F : Nat → Nat → Int32} {bc bs : Nat} {Qt : String → xb_H → Nat → Nat → Prop} {en : Nat → Nat → Nat} {T : Sm} {D : zM} {C : Option (Nat × Nat)}
theorem cy_ckAll {Qr : xb_H → Nat → Nat → Prop} (hT : ckT S h0 md rd op ck ca rc rs w0 C Qt) (hE : eR cA ν w0 N T n vs iv (xb_i h md 15) (xb_i h md 16)) (hDD : D = zk w0 N cA T) (hCx : cx_ cA cb w0 N) (hCM : C = ckM D) (hX : ck_X S h0 h md rd op ck ca) (hM : md_M h md cd nt im N rw it n vs cb ν iv) (hI : md_D N cb n vs ν iv) (hr : xb_r h ck 0 = some md ∧ xb_r h ck 1 = some cd ∧ xb_r h ck 2 = some nt ∧ xb_r h ck 3 = some oa) (ko : xb_k h oa = 100) (hoN : N < xb_n h oa) (ho2 : xb_n h oa ≤ 1000000) (hoS : S oa ∨ xb_k h0 oa = 0) (hS : S ck ∧ ¬ S md)
    (hc : rc + 1 ≤ bc) (hb : rs + 6 ≤ bs) (hby : ∀ j, -128 ≤ (cb j).toInt ∧ (cb j).toInt ≤ 127) (hD : ck_D ck oa nt cd im ca rw) (hitx : ∀ i j, i < 12 → j < 12 → it i = it j → i = j) (h09 : xb_k h0 (it 9) = 0) (h0nt : xb_k h0 nt = 0) (h0rw : ∀ k, k < 12 → xb_k h0 (rw k) = 0) (hst : (xb_i h md 16).toInt = -1 → (xb_i h md 15).toInt = -1)
    (hQ : ∀ (h' : xb_H) (vs' : Nat → Nat → Int64) (ν' : Nat → Int32), ck_X S h0 h' md rd op ck ca → md_M h' md cd nt im N rw it n vs' cb ν' iv → mv N n vs' cb ν' iv (xb_i h' md 15).toInt (xb_i h' md 16).toInt → xb_r h' = xb_r h → xb_ext h h' → ckM D = none → xb_i h' md = xb_i h md → (∀ k, k ≠ 9 → vs' k = vs k) → (∀ j, (∀ b, b < n 9 / 5 → j ≠ 5 * b + 4) → vs' 9 j = vs 9 j) → (∀ b, b < n 9 / 5 → bdF D b = .ok (vs' 9 (5 * b + 4)).toInt) → (∃ en, md_J N cb en n vs ν iv N N ∧ (∀ j : Nat, (∀ b, b < n 9 / 5 → (j : Int) < (vs 9 (5 * b)).toInt ∨ en 9 b ≤ j) → ν' j = ν j) ∧ ∀ b, b < n 9 / 5 → bd_k N en n vs' cb ν ν' iv b) → Qr h' bc bs) : w_Checker_checkAll_L47 Qr Qt ck h bc bs := by
  obtain ⟨hI1, hq, hn9⟩ := id hI
  obtain ⟨en, hJ⟩ := id hI1
  obtain ⟨J0, J1, J2, J3, J4, J5, J6, J7, J8, J9, J10, J11, J12, J13, J14, J15, J16, J17⟩ := id hJ
  have hG : ck_G S h0 h md rd op ck cd nt im N ca rw it n vs cb ν iv rc rs bc bs := ⟨hX, hM, ⟨hr.1, hr.2.1, hr.2.2.1⟩, hc, hb⟩
  have hN := hM.2.2.2.2
  have NN := Nat.le_refl N
  have q0 := hq.1
  have hmd : xb_k h md = 3 := hX.2.2.1
  have hM0 : hit C (ckM D) := fun Fl e => by rw [hCM]; exact e
  have k9 : hit C (cM9 D) := hM0.o1
  have k8 : hit C (cM8 D) := k9.o1
  have k7 : hit C (cM7 D) := k8.o1
  have k6 : hit C (cM6 D) := k7.o1
  have k2 : hit C (cM2 D) := hit.o1 (hit.o1 (hit.o1 (hit.o1 k6)))
  have k1 : hit C (cM1 D) := k2.o1
  have c6 : cM2 D = none → cM6 D = (((sqF (ckFn D) (qt D 3)).or (sqF (ckTa D) (qt D 4))).or (sqF (ckMe D) (qt D 5))).or (sqF (ckVa D) (qt D 6)) := fun e => by
    unfold cM6 cM5 cM4 cM3
    rw [e]
    rfl
  have orn : ∀ {x y : Option (Nat × Nat)}, x = none → y = none → x.or y = none := fun e1 e2 => by rw [e1, e2]; rfl
  unfold w_Checker_checkAll_L47
  refine ⟨hG.kck, cy_checkTypes hT hG hE hDD J0 (J13 0 (by omega)) k1 (fun T1 z1 _ => cy_checkImports hT hG hI1 NN hq hE hDD (hit.o2 (f := cM1 D) k2 z1) (fun I1 z2 _ => cy_checkOwn hT hG hI1 NN NN hq hby hE hDD hCx (c6 (orn z1 z2) ▸ k6) (fun O1 O2 O3 O4 z3 _ => cy_checkExports hT hG hI1 NN hE hDD hCx (hit.o2 (f := cM6 D) k7 ((c6 (orn z1 z2)).trans z3)) (fun X1 z4 _ => ?_))))⟩
  have imp : ∀ (κ j : Nat), κ < 4 → (j : Int) < (iv κ).toInt → ∃ i, i < n 1 / 7 ∧ (vs 1 (7 * i + 1)).toInt = κ ∧ (vs 1 (7 * i + 2)).toInt = j := fun κ j hκ hj => by
    rw [J12 κ hκ] at hj
    obtain ⟨i, e1, e2, e3⟩ := mcnt_ex (v := vs 1) (κ := (κ : Int)) (n 1 / 7) j (by omega)
    obtain ⟨⟨-, -, -, -, w2, -⟩, -⟩ := J1.at (by omega) e1
    dsimp only at w2
    rw [e2, e3] at w2
    exact ⟨i, e1, e2, w2⟩
  have hfn : ∀ i, i < n 2 / 2 → 0 ≤ (vs 2 (2 * i + 1)).toInt ∧ (vs 2 (2 * i + 1)).toInt < (n 0 / 5 : Nat) := fun i hi => by
    by_cases h9 : (i : Int) < (iv 0).toInt
    · obtain ⟨k, e1, e2, e3⟩ := imp 0 i (by omega) h9
      obtain ⟨f, g1, g2, g3⟩ := (I1 k e1).1 e2
      have e4 : f = i := by omega
      rw [e4] at g2 g3
      exact ⟨g2, g3⟩
    · exact O1 i hi (by omega)
  have htb : n 3 / 3 ≤ 1 := by
    rcases Nat.lt_or_ge 1 (n 3 / 3) with h9 | h9
    · by_cases h8 : (1 : Int) < (iv 1).toInt
      · obtain ⟨k, e1, e2, e3⟩ := imp 1 1 (by omega) h8
        have := (I1 k e1).2.1 e2
        omega
      · have := O2 1 h9 (by omega)
        omega
    · exact h9
  have hmm : n 4 / 3 ≤ 1 ∧ (0 < n 4 / 3 → (vs 4 1).toInt ≤ 65536 ∧ (vs 4 2).toInt ≤ 65536 ∧ ((vs 4 2).toInt = -1 ∨ (vs 4 1).toInt ≤ (vs 4 2).toInt)) := by
    refine ⟨?_, fun h9 => ?_⟩
    · rcases Nat.lt_or_ge 1 (n 4 / 3) with h9 | h9
      · by_cases h8 : (1 : Int) < (iv 2).toInt
        · obtain ⟨k, e1, e2, e3⟩ := imp 2 1 (by omega) h8
          have := ((I1 k e1).2.2 e2).1
          omega
        · have := (O3 1 h9 (by omega)).1
          omega
      · exact h9
    · by_cases h8 : (0 : Int) < (iv 2).toInt
      · obtain ⟨k, e1, e2, e3⟩ := imp 2 0 (by omega) h8
        exact ((I1 k e1).2.2 e2).2
      · exact (O3 0 h9 (by omega)).2
  have z6 : cM6 D = none := (c6 (orn z1 z2)).trans z3
  have z7 : cM7 D = none := orn z6 z4
  refine cy_checkStart hT hG hI1 NN hE hDD (hit.o2 (f := cM7 D) k8 z7) hfn (fun S1 z5 _ => cy_checkElements hT hG hI1 NN NN hq hby hE hDD hCx (hit.o1 (hit.o2 (f := cM8 D) k9 (orn z7 z5))) (fun E1 zE _ => cy_checkData hT hG hI1 NN NN hq hby hE hDD hCx (hit.o2 (hit.o2 (f := cM8 D) k9 (orn z7 z5)) zE) (fun D1 zD _ => ⟨n 9 / 5 + 1, ?_⟩)))
  have z9 : cM9 D = none := orn (orn z7 z5) (orn zE zD)
  have kB : hit C (sqF (ckBo D) (qt D 3)) := hit.o2 (f := cM9 D) hM0 z9
  have n2' := zk_n2 hE hDD
  have n0' := zk_n0 hE hDD
  have iv0 := zk_iv hE hDD (κ := 0) (by omega)
  have n9' : n 9 = 5 * qt D 10 := by rw [hDD]; exact hE.2.2.2.2.2.2.2.1.1
  have e103 : qt D 10 = qt D 3 := by omega
  have hfnD : ∀ i, i < iM D 0 + qt D 3 → fty D i < qt D 1 := fun i hi => by
    have h1 := (zk_fn hE hDD hi).2
    have h2 := (hfn i (by omega)).2
    omega
  have hpND : ∀ u, u < qt D 1 → tPa D u + tPn D u ≤ w0 + N ∧ 0 ≤ (vs 0 (5 * u + 1)).toInt := fun u hu => by
    obtain ⟨-, h1, h2, -, -⟩ := zk_ty hE hDD hu
    obtain ⟨pp, -⟩ := J0.at (by omega) (show u < n 0 / 5 by omega)
    dsimp only [mp0] at pp
    obtain ⟨p0, p1, p2, p3, p4, -⟩ := pp
    omega
  have keyA : ∀ b i t p0 pa0 P0 : Nat, b < n 9 / 5 → (iv 0).toInt + b = i → i < n 2 / 2 → (vs 2 (2 * i + 1)).toInt = t → t < n 0 / 5 → (vs 9 (5 * b)).toInt = p0 → (vs 0 (5 * t + 1)).toInt = pa0 → (vs 0 (5 * t + 2)).toInt = P0 → en 9 b ≤ N ∧ ∀ ν1 : Nat → Int32, (∀ j, p0 ≤ j → j < en 9 b → ν1 j = ν j) → ∀ (lo : Nat → Int32) (lcn : Nat), (lcn : Int) = (vs 9 (5 * b + 1)).toInt → (∀ j, j < lcn → (lo j).toInt = (lof cA (cV cA (cE cA (qp D 10 b))) (cE cA (cE cA (qp D 10 b))) j).toInt) → bdF D b = shZ w0 (bdZ n vs cb lo pa0 P0 t lcn ν1 (w0 + N + 2) p0 ([], [(0, (vs 0 (5 * t + 4)).toInt, (vs 0 (5 * t + 4)).toInt, [], 0)], 0)) := fun b i t p0 pa0 P0 hb9 hi hi2 ht ht0 hp0 hpa0 hP0 => by
    obtain ⟨⟨q0, -⟩, -⟩ := J9.at (by omega) hb9
    dsimp only at q0
    rw [Nat.add_zero] at q0
    obtain ⟨p0', mm, y1, y2, y3, y4⟩ := q0
    have e0 : p0' = p0 := by omega
    subst e0
    refine ⟨y3, fun ν1 hν lo lcn hl hlo => ?_⟩
    have ei : i = iM D 0 + b := by omega
    have hft : fty D (iM D 0 + b) = t := by
      have h1 := (zk_fn hE hDD (i := i) (by omega)).2
      rw [ei] at h1 ht
      omega
    exact bdF_Z hE hDD hCx (by omega) hft (by omega) hpa0 hP0 hp0 hfnD hpND y3 y4 hν hl hlo
  have keyB : ∀ b, b < n 9 / 5 → bdF D b = shZ w0 (unZ w0 (bdF D b)) := fun b hb9 => by
    obtain ⟨⟨q0, q1, q2, q3, q4, q5, q6⟩, q7⟩ := J9.at (by omega) hb9
    dsimp only at q0 q1 q2 q3 q4 q5 q6
    rw [Nat.add_zero] at q0
    obtain ⟨p0, mm, y1, y2, y3, y4⟩ := q0
    have hiv0 : 0 ≤ (iv 0).toInt := by omega
    obtain ⟨i, hi⟩ : ∃ i : Nat, (iv 0).toInt + b = i := ⟨((iv 0).toInt + b).toNat, by omega⟩
    have hi2 : i < n 2 / 2 := by omega
    obtain ⟨f1, f2⟩ := hfn i hi2
    obtain ⟨t, ht⟩ : ∃ t : Nat, (vs 2 (2 * i + 1)).toInt = t := ⟨(vs 2 (2 * i + 1)).toInt.toNat, by omega⟩
    obtain ⟨pp, -⟩ := J0.at (by omega) (show t < n 0 / 5 by omega)
    dsimp only [mp0] at pp
    obtain ⟨pp0, pp1, pp2, pp3, pp4, -⟩ := pp
    obtain ⟨pa0, hpa0⟩ : ∃ pa0 : Nat, (vs 0 (5 * t + 1)).toInt = pa0 := ⟨(vs 0 (5 * t + 1)).toInt.toNat, by omega⟩
    obtain ⟨P0, hP0⟩ : ∃ P0 : Nat, (vs 0 (5 * t + 2)).toInt = P0 := ⟨(vs 0 (5 * t + 2)).toInt.toNat, by omega⟩
    have hl1 : (vs 9 (5 * b + 1)).toInt = ((lgf cA (cV cA (cE cA (qp D 10 b))) (cE cA (cE cA (qp D 10 b)))).length : Int) := by
      obtain ⟨f, hw, ⟨g0, g1, g2, g3, g4⟩, hle, hG⟩ := hE.2.2.2.2.2.2.2.1.2 b (by rw [show T.1 10 = qt D 10 by rw [hDD]; rfl]; omega)
      rw [show T.2 10 b = qp D 10 b by rw [hDD]; rfl] at g1
      exact g1
    have := (keyA b i t p0 pa0 P0 hb9 hi hi2 ht (by omega) y1 hpa0 hP0).2 ν (fun _ _ _ => rfl) (lof cA (cV cA (cE cA (qp D 10 b))) (cE cA (cE cA (qp D 10 b)))) _ hl1.symm (fun _ _ => rfl)
    rw [this, unZ_sh]
  obtain ⟨mM1, mM2, mM3, mM4, mM5⟩ := id hM
  have hHH : ck_H S h0 h md rd op ck cd nt im N oa ca rw it n vs cb iv (fun k => xb_i h (rw k)) := by
    obtain ⟨x1, x2, x3, x4, x5, x6, x7, x8⟩ := id hX
    refine ⟨fun F hF => ?_, fun F ν2 e1 e2 e3 e4 => ?_, ⟨hr.1, hr.2.1, hr.2.2.1, hr.2.2.2, ko, hoN, ho2⟩, hD, ⟨hS.1, ?_, h0nt, ?_⟩, x6, x3, x8, hN, mM2.2.1, mM2.2.2.1, mM1.2.2.1, mM1.2.2.2.1⟩
    · refine ⟨x1, fun a ha hs => ?_, x3, x4, x5, x6, x7, x8⟩
      obtain ⟨y1, y2, y3⟩ := x2 a ha hs
      exact ⟨(hF a (.inl ha) hs).trans y1, y2, y3⟩
    · refine ⟨⟨mM1.1, mM1.2.1, mM1.2.2.1, mM1.2.2.2.1, e2⟩, ⟨mM2.1, mM2.2.1, mM2.2.2.1, e1⟩, fun k hk => ?_, ⟨mM4.1, mM4.2.1, mM4.2.2.1, e3⟩, mM5⟩
      obtain ⟨y1, ⟨z1, z2, z3, z4, z5, z6, z7, z8⟩, y3⟩ := mM3 k hk
      exact ⟨y1, ⟨z1, by rw [xW_i, e4 k hk]; exact z2, by rw [xW_i, e4 k hk]; exact z3, z4, z5, z6, z7, z8⟩, y3⟩
    · rcases hoS with h9 | h9
      · exact .inl h9
      · exact .inr ⟨h9, by rw [ko]; omega⟩
    · rw [mM2.2.1]
      omega
  have h9' : ∀ b, b < n 9 / 5 → 5 * b + 5 ≤ n 9 := fun b hb => (J9.at (by omega) hb).2
  have hself : h = xb_W h (xb_i h) := rfl
  rw [hself]
  refine cz_bodies (Zb := fun b => unZ w0 (bdF D b)) hT hc hb hby hitx h09 hJ hn9 hfn hN (fun b i t p0 pa0 P0 hb9 hi hi2 ht ht0 hp0 hpa0 hP0 => ?_) (fun b hb9 hpr c w hz => ?_) (R0 := fun k => xb_i h (rw k)) (h := h) ?_ (n 9 / 5) 0 0 h (xb_i h) vs ν rfl (by omega) (by omega) hHH (fun a _ _ => rfl) ⟨mM2.2.2.2, mM1.2.2.2.2, mM4.2.2.2, fun k hk => rfl⟩ (fun k hk => rfl) (fun j _ => rfl) (fun j _ => rfl) (fun b hb => (by omega)) (fun b hb => (by omega)) ⟨rfl, rfl, rfl, rfl⟩
  · obtain ⟨kA, kA2⟩ := keyA b i t p0 pa0 P0 hb9 hi hi2 ht ht0 hp0 hpa0 hP0
    refine ⟨w0 + N + 2, by omega, fun ν1 hν lo lcn hl hsp => ?_⟩
    obtain ⟨f, hw, ⟨g0, g1, g2, g3, g4⟩, hle, hG⟩ := hE.2.2.2.2.2.2.2.1.2 b (by rw [show T.1 10 = qt D 10 by rw [hDD]; rfl]; omega)
    rw [show T.2 10 b = qp D 10 b by rw [hDD]; rfl] at g1 g3 hG
    have g1' : (vs 9 (5 * b + 1)).toInt = ((lgf cA (cV cA (cE cA (qp D 10 b))) (cE cA (cE cA (qp D 10 b)))).length : Int) := g1
    have g2' : (vs 9 (5 * b + 2)).toInt = f := g2
    have g3' : (vs 9 (5 * b + 3)).toInt = (cV cA (cE cA (qp D 10 b)) : Int) := g3
    rw [g2', g3', Int.toNat_natCast, Int.toNat_natCast] at hsp
    show unZ w0 (bdF D b) = _
    rw [kA2 ν1 hν lo lcn hl (fun j hj => lof_e hG hsp (by omega)), unZ_sh]
  · have hz' : unZ w0 (bdF D b) = .error (c, w) := hz
    have hFb := keyB b hb9
    rw [hz'] at hFb
    have hpre : ∀ b', b' ≤ b → sqF (ckBo D) b' = none := by
      intro b'
      induction b' with
      | zero => intro _; rfl
      | succ b' ihb =>
        intro hb'
        obtain ⟨g, hg⟩ := hpr b' (by omega)
        have hg' : unZ w0 (bdF D b') = .ok g := hg
        have := keyB b' (by omega)
        rw [hg'] at this
        exact sqF_s (ihb (by omega)) (ckBo_o this)
    have := hit.sq kB (k := b) (by omega) (hpre b (Nat.le_refl _)) _ (ckBo_e hFb)
    rw [this, Nat.add_comm]
  intro h1 F vs1 ν1 hH1 hF1 hS1 gk g9 gν gb gz ⟨gi, gr, gkk, gn⟩
  have hmd1 : F md = xb_i h md := by
    have k1 : xb_k h1 md = 3 := (hH1.S0 hS1).1.1
    rw [hF1 md (.inr k1) hS.2, gi]
  have hext : xb_ext h h1 := fun a _ => ⟨by rw [gkk], by rw [gn]⟩
  have v9 : ∀ b j, j < 4 → vs1 9 (5 * b + j) = vs 9 (5 * b + j) := fun b j hj => g9 _ (fun b' _ e => by omega)
  have gzF : ∀ b, b < n 9 / 5 → bdF D b = .ok (vs1 9 (5 * b + 4)).toInt := fun b hb9 => by
    have h1 := keyB b hb9
    have h2 : unZ w0 (bdF D b) = .ok (vs1 9 (5 * b + 4)).toInt := gz b hb9
    rw [h2] at h1
    exact h1
  have hB0 : ∀ k, k ≤ n 9 / 5 → sqF (ckBo D) k = none := by
    intro k
    induction k with
    | zero => intro _; rfl
    | succ k ihk =>
      intro hk
      exact sqF_s (ihk (by omega)) (ckBo_o (gzF k (by omega)))
  refine hQ _ vs1 ν1 (hH1.1 F hF1) (hH1.S0 hS1) ⟨?_, ?_, ?_, ?_, ?_, ?_, ?_, ?_, ?_, ?_, ?_, J13, hN, hby⟩ gr hext (orn z9 (hB0 (qt D 3) (by omega))) hmd1 gk g9 gzF ⟨en, hJ, gν, gb⟩
  · rw [gk 0 (by omega)]
    exact ⟨J0, T1⟩
  · rw [gk 1 (by omega)]
    exact ⟨J1, J12, hq⟩
  · rw [gk 2 (by omega)]
    obtain ⟨m2, z2, -⟩ := J2
    exact ⟨⟨m2, z2⟩, hfn⟩
  · rw [gk 3 (by omega)]
    exact ⟨J3, htb⟩
  · rw [gk 4 (by omega)]
    exact ⟨J4, hmm⟩
  · rw [gk 5 (by omega)]
    obtain ⟨m5, z5, -⟩ := id J5
    refine ⟨⟨m5, z5⟩, fun i hi => ?_⟩
    obtain ⟨⟨u0, u1, u2, u3, u4, -, u6⟩, u5⟩ := J5.at (by omega) hi
    refine ⟨⟨u2, u3, u4⟩, fun h9 => ?_⟩
    obtain ⟨p, e1, e2⟩ := O4 i hi h9
    obtain ⟨p', mm, y1, y2, y3, y4⟩ := u6 h9
    dsimp only at y1
    have ep : p' = p := by omega
    subst ep
    exact ⟨p', e1, e2.fin J17 (k := 5) (i := i) ⟨.inl rfl, u5, fun _ => h9, e1⟩ (by omega) y4 h9' gν hby⟩
  · rw [gk 6 (by omega)]
    exact ⟨J6, X1⟩
  · rw [gk 7 (by omega), gk 5 (by omega), gk 8 (by omega)]
    obtain ⟨m7, z7, -⟩ := id J7
    refine ⟨⟨m7, z7⟩, fun i hi => ?_⟩
    obtain ⟨⟨u0, u1, u2, u3, u4, u6, u7, u8⟩, u5⟩ := J7.at (by omega) hi
    dsimp only at u2 u4 u6 u7 u8
    obtain ⟨e1, ⟨p, e2, e3⟩, e4⟩ := E1 i hi
    obtain ⟨p', mm, y1, y2, y3, y4⟩ := u4
    have ep : p' = p := by omega
    subst ep
    exact ⟨⟨u2, e1⟩, ⟨p', e2, e3.fin J17 (k := 7) (i := i) ⟨.inr (.inl rfl), u5, fun e => by omega, e2⟩ (by omega) y4 h9' gν hby⟩, ⟨u6, u7, u8⟩, e4⟩
  · obtain ⟨m8, z8, -⟩ := id J8
    obtain ⟨m9, z9, -⟩ := id J9
    exact ⟨⟨m8, z8⟩, ⟨m9, z9⟩, hn9, en, fun b hb9 => (gb b hb9).ok⟩
  · rw [gk 11 (by omega), gk 5 (by omega)]
    obtain ⟨m7, z7, -⟩ := id J11
    refine ⟨⟨m7, z7⟩, fun i hi => ?_⟩
    obtain ⟨⟨u0, u1, u2, u3, u4, u6, u7, u8⟩, u5⟩ := J11.at (by omega) hi
    dsimp only at u2 u4 u6 u7 u8
    obtain ⟨e1, p, e2, e3⟩ := D1 i hi
    obtain ⟨p', mm, y1, y2, y3, y4⟩ := u4
    have ep : p' = p := by omega
    subst ep
    exact ⟨⟨u2, e1⟩, ⟨p', e2, e3.fin J17 (k := 11) (i := i) ⟨.inr (.inr (.inr rfl)), u5, fun e => by omega, e2⟩ (by omega) y4 h9' gν hby⟩, u6, u7, u8⟩
  · rw [gk 2 (by omega), gk 0 (by omega)]
    show (F md 15).toInt = -1 ∨ ∃ f : Nat, (F md 15).toInt = f ∧ _
    rw [hmd1]
    rcases S1 with h9 | h9
    · exact .inl (hst h9)
    · exact .inr h9
end CCI

-- the checker in a body: locals and variables
/-- the type of a local: parameters first -/
def ck_lt (cb lo : Nat → Int32) (pa P i : Nat) : Int := if i < P then (cb (pa + i)).toInt else (lo (i - P)).toInt
section CS9
variable {S : Nat → Prop} {h0 h : xb_H} {md rd op ck cd nt im N oa rc rs : Nat} {ca : Nat → Nat} {rw it n : Nat → Nat} {vs : Nat → Nat → Int64} {cb ν iv lo : Nat → Int32} {R0 F : Nat → Nat → Int32} {bc bs : Nat} {Qt : String → xb_H → Nat → Nat → Prop} {cur : List Int} {fs r : List ckF} {f : ckF} {g p lc ty : Int}
theorem cs_checkNamed {x : Int32} {q t lcn : Nat} {Qr : xb_H → Nat → Nat → Prop} (hT : ck_T S h0 md rd op ck ca rc rs Qt) (hH : ck_H S h0 h md rd op ck cd nt im N oa ca rw it n vs cb iv R0) (hF : ck_Fr S h0 h F) (hc : rc + 1 ≤ bc) (hb : rs + 6 ≤ bs) (hS : ck_S ck oa nt cd im ca rw R0 cb iv F cur (f :: r) ν lo g q lcn t) (hcl : (cur.length : Int) ≤ N) (hg : g ≤ 100000) (hfl : (f :: r).length ≤ 201) (hL : xr_L 5 (mp0 N cb) (n 0) (vs 0)) (ht : t < n 0 / 5) (hlc : lcn ≤ 1000) (hlo : ∀ j, j < lcn → 124 ≤ (lo j).toInt ∧ (lo j).toInt ≤ 127)
    (hv : ∀ i : Nat, i < n 5 / 4 → 4 * i + 4 ≤ n 5 ∧ 124 ≤ (vs 5 (4 * i + 1)).toInt ∧ (vs 5 (4 * i + 1)).toInt ≤ 127 ∧ ((vs 5 (4 * i + 2)).toInt = 0 ∨ (vs 5 (4 * i + 2)).toInt = 1)) (hx1 : 32 ≤ x.toInt) (hx2 : x.toInt ≤ 36) (hq : q + 1 < N)
    (hQ : ∀ (F' : Nat → Nat → Int32) (cur' : List Int) (g' : Int) (i : Nat), (ν (q + 1)).toInt = i → (x.toInt < 35 → ∃ pa P : Nat, (vs 0 (5 * t + 1)).toInt = pa ∧ (vs 0 (5 * t + 2)).toInt = P ∧ i < P + lcn ∧ (x.toInt = 32 → ck_pt cur g (ck_lt cb lo pa P i) cur' g') ∧ (x.toInt = 33 → g' = g ∧ ∃ r1 : Int, ck_tk f cur (ck_lt cb lo pa P i) r1 cur') ∧ (x.toInt = 34 → ∃ (r1 : Int) (c1 : List Int), ck_tk f cur (ck_lt cb lo pa P i) r1 c1 ∧ ck_pt c1 g (ck_lt cb lo pa P i) cur' g')) → (35 ≤ x.toInt → i < n 5 / 4 ∧ (x.toInt = 35 → ck_pt cur g (vs 5 (4 * i + 1)).toInt cur' g') ∧ (x.toInt = 36 → (vs 5 (4 * i + 2)).toInt = 1 ∧ g' = g ∧ ∃ r1 : Int, ck_tk f cur (vs 5 (4 * i + 1)).toInt r1 cur')) → ck_Fr S h0 h F' → ck_S ck oa nt cd im ca rw R0 cb iv F' cur' (f :: r) ν lo g' q lcn t → Qr (xb_W h F') bc bs) : w_Checker_checkNamed ck x (xb_W h F) bc bs Qr Qt := by
  obtain ⟨⟨s1, s2, s3, s4, s5, s6⟩, so, sf, s7, s8, s9, s10, s11, s12⟩ := id hS
  obtain ⟨-, hM', ⟨r0, r1, r2, r3, ko, lo1, lo2⟩, hD, ⟨S1, S2, S3⟩, kck, kmd, ha, hN, ⟨knt, nnt, kcd, ncd⟩⟩ := id hH
  have a0 : xb_r h ck 6 = some (ca 0) ∧ xb_k h (ca 0) = 100 ∧ xb_n h (ca 0) = 1000 ∧ S (ca 0) := ha 0 (by omega)
  have hM := hM' F ν s7 s9 s10 s11
  have e91 : (F ck 9 + 1).toInt = (q + 1 : Nat) := z_inc s5 (by omega)
  have c91 : (F ck 9 + 1).toNatClampNeg = q + 1 := by rw [z_cl, e91]; omega
  obtain ⟨pp, hi5⟩ := hL.at (by omega) ht
  dsimp only [mp0] at pp
  obtain ⟨p0, p1, p2, p3, p4, -, -, -, -, p9⟩ := pp
  obtain ⟨pa, hpa⟩ : ∃ pa : Nat, (vs 0 (5 * t + 1)).toInt = pa := ⟨(vs 0 (5 * t + 1)).toInt.toNat, by omega⟩
  obtain ⟨P, hP⟩ : ∃ P : Nat, (vs 0 (5 * t + 2)).toInt = P := ⟨(vs 0 (5 * t + 2)).toInt.toNat, by omega⟩
  unfold w_Checker_checkNamed
  refine ⟨kck, nt, r2, knt, by rw [z_in, xW_i, e91, xW_n, nnt]; omega, fun v5 e5 => ?_⟩
  rw [xW_i, s7, c91] at e5
  subst e5
  refine ⟨fun e => ?_, fun e => ?_⟩
  · rw [z_le] at e
    simp only [Int32.reduceToInt] at e
    refine ⟨md, r0, kmd, rw 5, hM.row (by omega), hM.krow (by omega), md_lines (c := 4) hM (by omega) rfl (by omega) (fun r12 e12 _ => sp_isThere (fun r14 e14 _ => cs_require hT hH hF hc hb (fun w1 _ => ?_)))⟩
    rcases e14 with ⟨w2, -⟩ | ⟨-, w2, w3⟩
    · exact absurd w2 w1
    rw [Z_of32] at w2 w3
    rw [e12] at w3
    obtain ⟨i, hi⟩ : ∃ i : Nat, (ν (q + 1)).toInt = i := ⟨(ν (q + 1)).toInt.toNat, by omega⟩
    obtain ⟨b1, b2, b3, b4⟩ := hv i (by omega)
    refine ⟨md, r0, kmd, rw 5, hM.row (by omega), hM.krow (by omega), md_at (c := 4) hM (i := i) (j := 1) (by omega) rfl hi rfl (by omega) b1 (fun r22 e22 _ => ?_)⟩
    have e22' : r22.toInt = (vs 5 (4 * i + 1)).toInt := by rw [e22]; omega
    refine ⟨fun f1 => ⟨md, r0, kmd, rw 5, hM.row (by omega), hM.krow (by omega), md_at (c := 4) hM (i := i) (j := 2) (by omega) rfl hi rfl (by omega) b1 (fun r29 e29 _ => ?_)⟩, fun f1 => ?_⟩
    · rw [z_eq] at f1
      simp only [Int32.reduceToInt] at f1
      have L173 : ∀ y : Int32, (¬ y = 0 → (vs 5 (4 * i + 2)).toInt = 1) → w_Checker_checkNamed_L173 Qr Qt ck r22 y ck (xb_W h F) bc bs := by
        intro y hy
        unfold w_Checker_checkNamed_L173 w_Checker_checkNamed_L184
        refine ⟨kck, cs_require hT hH hF hc hb (fun y0 _ => ⟨kck, cs_take hT hH hF hc hb hS hcl hfl (fun u F1 c1 t1 hF1 hS1 _ => hQ F1 c1 g i hi (fun e9 => by omega) (fun _ => ⟨by omega, fun e9 => by omega, fun _ => ⟨hy y0, rfl, u.toInt, ?_⟩⟩) hF1 hS1)⟩)⟩
        rw [e22'] at t1
        exact t1
      refine ⟨fun _ => L173 0 (fun h9 => absurd rfl h9), fun f2 => L173 1 (fun _ => ?_)⟩
      rw [z_eq, e29] at f2
      simp only [Int32.reduceToInt] at f2
      omega
    · rw [z_eq] at f1
      simp only [Int32.reduceToInt] at f1
      unfold w_Checker_checkNamed_L184
      refine cs_put hH hF hS hcl (by omega) (by omega) (fun F1 cur' g' w hF1 hS1 _ => hQ F1 cur' g' i hi (fun e9 => by omega) (fun _ => ⟨by omega, fun _ => ?_, fun e9 => by omega⟩) hF1 hS1)
      rw [e22'] at w
      exact w
  · rw [z_le] at e
    simp only [Int32.reduceToInt] at e
    refine ⟨md, r0, kmd, md_parameters hM hL s4 ht (fun r36 e36 e36a e36b _ => sp_isThere (fun r38 e38 _ => cs_require hT hH hF hc hb (fun w1 _ => ?_)))⟩
    rcases e38 with ⟨w2, -⟩ | ⟨-, w2, w3⟩
    · exact absurd w2 w1
    rw [Z_of32] at w2 w3
    have e37 : (r36 + F ck 7).toInt = P + lcn := by rw [z_add, s3, e36, hP]; omega
    rw [show xb_i (xb_W h F) ck 7 = F ck 7 from rfl, e37] at w3
    obtain ⟨i, hi⟩ : ∃ i : Nat, (ν (q + 1)).toInt = i := ⟨(ν (q + 1)).toInt.toNat, by omega⟩
    have hiP : i < P + lcn := by omega
    have L75 : ∀ y : Int32, y.toInt = ck_lt cb lo pa P i → (124 ≤ y.toInt ∧ y.toInt ≤ 127) → w_Checker_checkNamed_L75 Qr Qt ck x y (xb_W h F) bc bs := by
      intro y hy hy2
      have L90 : ∀ (F1 : Nat → Nat → Int32) (c1 : List Int), ck_Fr S h0 h F1 → ck_S ck oa nt cd im ca rw R0 cb iv F1 c1 (f :: r) ν lo g q lcn t → (c1.length : Int) ≤ N → (x.toInt = 32 → c1 = cur) → (x.toInt ≠ 32 → ∃ r1 : Int, ck_tk f cur (ck_lt cb lo pa P i) r1 c1) → w_Checker_checkNamed_L90 Qr Qt ck x y (xb_W h F1) bc bs := by
        intro F1 c1 hF1 hS1 g1 g2 g3
        unfold w_Checker_checkNamed_L90 w_Checker_checkNamed_L102
        refine ⟨fun e3 => ?_, fun e3 => ⟨kck, cs_put hH hF1 hS1 g1 (by omega) (by omega) (fun F2 cur' g' w hF2 hS2 _ => ?_)⟩⟩
        · rw [z_eq] at e3
          simp only [Int32.reduceToInt] at e3
          exact hQ F1 c1 g i hi (fun _ => ⟨pa, P, hpa, hP, hiP, fun e9 => by omega, fun _ => ⟨rfl, g3 (by omega)⟩, fun e9 => by omega⟩) (fun e9 => by omega) hF1 hS1
        · rw [z_eq] at e3
          simp only [Int32.reduceToInt] at e3
          rw [hy] at w
          refine hQ F2 cur' g' i hi (fun _ => ⟨pa, P, hpa, hP, hiP, fun e9 => ?_, fun e9 => by omega, fun e9 => ?_⟩) (fun e9 => by omega) hF2 hS2
          · rw [← g2 e9]
            exact w
          · obtain ⟨r1, h9⟩ := g3 (by omega)
            exact ⟨r1, c1, h9, w⟩
      unfold w_Checker_checkNamed_L75
      refine ⟨fun e2 => ?_, fun e2 => ⟨kck, cs_take hT hH hF hc hb hS hcl hfl (fun u F1 c1 t1 hF1 hS1 _ => ?_)⟩⟩
      · rw [z_le] at e2
        simp only [Int32.reduceToInt] at e2
        exact L90 F cur hF hS hcl (fun _ => rfl) (fun e9 => by omega)
      · rw [z_le] at e2
        simp only [Int32.reduceToInt] at e2
        rw [hy] at t1
        exact L90 F1 c1 hF1 hS1 (by have := t1.len; omega) (fun e9 => by omega) (fun _ => ⟨u.toInt, t1⟩)
    refine ⟨fun e2 => ?_, fun e2 => ?_⟩
    · rw [z_le, e36, hP, hi] at e2
      have e6 : (ν (q + 1) - r36).toInt = (i - P : Nat) := by rw [z_sub, hi, e36, hP]; omega
      refine ⟨ca 0, a0.1, a0.2.1, by rw [z_in, e6, xW_n, a0.2.2.1]; omega, ?_⟩
      rw [xW_i, s8, z_cl, e6, Int.toNat_natCast]
      refine L75 _ ?_ (hlo (i - P) (by omega))
      unfold ck_lt
      rw [if_neg (by omega)]
    · rw [z_le, e36, hP, hi] at e2
      refine ⟨md, r0, kmd, md_parameterType hM hL s4 ht hi (by omega) (fun q' q1 q2 q3 _ => ?_)⟩
      refine L75 _ ?_ ⟨q2, q3⟩
      unfold ck_lt
      rw [if_pos (by omega), show q' = pa + i by omega]
end CS9
